def M_in (v0 : Int32) (v1 : Int32) (v2 : Int32) : Int32 :=
  if v0 < v1 then ((0 : Int32)) else if v2 < v0 then ((0 : Int32)) else (1 : Int32)
def M_type_J103 (st : sk_M) (v1 : Int32) (v4 : Int32) (v5 : Int32) (s1 : Int32) (s2 : Int32) : Option (Int32 × sk_M) :=
  sk_wI 10 3 s1 (vp_nar .boolean s2) st fun st103 =>
  sk_wI 10 5 v1 v4 st103 fun st111 =>
  sk_wI 10 6 v1 (v5 &&& (((1 : Int32) <<< (v1 &&& 31)) - (1 : Int32))) st111 fun st125 =>
  some ((1 : Int32), st125)
def M_type_J85 (st : sk_M) (v1 : Int32) (v3 : Int32) (v4 : Int32) (v5 : Int32) (s1 : Int32) (s2 : Int32) : Option (Int32 × sk_M) :=
  sk_wI 10 2 s1 (vp_nar .boolean s2) st fun st85 =>
  if (v3 &&& (2 : Int32)) = (2 : Int32) then (M_type_J103 st85 v1 v4 v5 v1 (1 : Int32)) else M_type_J103 st85 v1 v4 v5 v1 (0 : Int32)
def M_type (st : sk_M) (v1 : Int32) (v2 : Int32) (v3 : Int32) (v4 : Int32) (v5 : Int32) : Option (Int32 × sk_M) :=
  if (M_in v1 (1 : Int32) (9 : Int32)) = 0 then (some ((0 : Int32), st)) else if (M_in v2 (0 : Int32) (2 : Int32)) = 0 then (some ((0 : Int32), st)) else if (M_in v3 (0 : Int32) (3 : Int32)) = 0 then (some ((0 : Int32), st)) else if (M_in v4 (0 : Int32) (v1 - (1 : Int32))) = 0 then (some ((0 : Int32), st)) else if (M_in v5 (0 : Int32) (1023 : Int32)) = 0 then (some ((0 : Int32), st)) else sk_wI 10 1 v1 (vp_nar .boolean (1 : Int32)) st fun st60 =>
  sk_wI 10 4 v1 v2 st60 fun st67 =>
  if (v3 &&& (1 : Int32)) = (1 : Int32) then (M_type_J85 st67 v1 v3 v4 v5 v1 (1 : Int32)) else M_type_J85 st67 v1 v3 v4 v5 v1 (0 : Int32)
def M_drop_L30 (N : Nat) (self30 : (sk_M × Int32 × Int32) → Option (Int32 × sk_M)) : (sk_M × Int32 × Int32) → Option (Int32 × sk_M) := fun z => match z with
  | (st, v1, v2) => if (st.1 0 0) ≤ v2 then (some ((1 : Int32), st)) else sk_rI 40 8 v2 st fun x43 =>
  if x43 = v1 then (sk_wI 40 12 v2 (vp_nar .boolean (1 : Int32)) st fun st54 =>
  self30 (st54, v1, (v2 + 1))) else self30 (st, v1, (v2 + 1))
def M_drop (N : Nat) (st : sk_M) (v1 : Int32) : Option (Int32 × sk_M) :=
  if (M_in v1 (1 : Int32) (9 : Int32)) = 0 then (some ((0 : Int32), st)) else sk_rI 10 1 v1 st fun x15 =>
  if x15 = 0 then (some ((0 : Int32), st)) else sk_wI 10 1 v1 (vp_nar .boolean (0 : Int32)) st fun st27 =>
  sk_lp N (M_drop_L30 N) (st27, v1, (1 : Int32))
def M_own_L3 (N : Nat) (st : sk_M) (self3 : (Int32 × Int32 × Int32 × Int32 × Int32) → Option Int32) : (Int32 × Int32 × Int32 × Int32 × Int32) → Option Int32 := fun z => match z with
  | (v1, v2, v3, v4, v5) => if (st.1 0 0) ≤ v5 then (some (-1 : Int32)) else sk_rI 40 12 v5 st fun x18 =>
  if x18 = 0 then (sk_rI 40 8 v5 st fun x28 =>
  if x28 = v1 then (sk_rI 40 11 v5 st fun x39 =>
  if (x39 &&& (1 : Int32)) = v2 then (sk_rI 40 9 v5 st fun x52 =>
  if x52 = v3 then (sk_rI 40 10 v5 st fun x63 =>
  if x63 = v4 then (some v5) else self3 (v1, v2, v3, v4, (v5 + 1))) else self3 (v1, v2, v3, v4, (v5 + 1))) else self3 (v1, v2, v3, v4, (v5 + 1))) else self3 (v1, v2, v3, v4, (v5 + 1))) else self3 (v1, v2, v3, v4, (v5 + 1))
def M_own (N : Nat) (st : sk_M) (v1 : Int32) (v2 : Int32) (v3 : Int32) (v4 : Int32) : Option Int32 :=
  sk_lp N (M_own_L3 N st) (v1, v2, v3, v4, (0 : Int32))
def M_member_J46 (N : Nat) (st : sk_M) (v1 : Int32) (v2 : Int32) (v3 : Int32) (v4 : Int32) (s0 : Int32) (s1 : Int32) (s2 : Int32) : Option (Int32 × sk_M) :=
  if (M_in s0 s1 s2) = 0 then (some ((-1 : Int32), st)) else if (M_in v3 (0 : Int32) (1 : Int32)) = 0 then (some ((-1 : Int32), st)) else sk_oR (M_own N st v1 (v4 &&& (1 : Int32)) v2 v3) fun x69 =>
  if x69 < 0 then (if (st.1 0 0) = (40 : Int32) then (some ((-3 : Int32), st)) else sk_wI 40 8 (st.1 0 0) v1 st fun st98 =>
  sk_wI 40 9 (st98.1 0 0) v2 st98 fun st108 =>
  sk_wI 40 10 (st108.1 0 0) v3 st108 fun st118 =>
  sk_wI 40 11 (st118.1 0 0) v4 st118 fun st129 =>
  sk_wI 40 12 (st129.1 0 0) (vp_nar .boolean (0 : Int32)) st129 fun st139 =>
  sk_fI 0 ((st139.1 0 0) + (1 : Int32)) st139 fun st147 =>
  some (((st147.1 0 0) - (1 : Int32)), st147)) else some ((-1 : Int32), st)
def M_member (N : Nat) (st : sk_M) (v1 : Int32) (v2 : Int32) (v3 : Int32) (v4 : Int32) : Option (Int32 × sk_M) :=
  if (M_in v1 (1 : Int32) (9 : Int32)) = 0 then (some ((-1 : Int32), st)) else sk_rI 10 1 v1 st fun x15 =>
  if x15 = 0 then (some ((-1 : Int32), st)) else if (M_in v4 (0 : Int32) (7 : Int32)) = 0 then (some ((-1 : Int32), st)) else if (v4 &&& (1 : Int32)) = (1 : Int32) then (M_member_J46 N st v1 v2 v3 v4 v2 (0 : Int32) (7 : Int32)) else M_member_J46 N st v1 v2 v3 v4 v2 (0 : Int32) (5 : Int32)
def M_remove (st : sk_M) (v1 : Int32) : Option (Int32 × sk_M) :=
  if (M_in v1 (1 : Int32) ((st.1 0 0) - (1 : Int32))) = 0 then (some ((0 : Int32), st)) else sk_rI 40 12 v1 st fun x19 =>
  if x19 = 0 then (sk_wI 40 12 v1 (vp_nar .boolean (1 : Int32)) st fun st31 =>
  some ((1 : Int32), st31)) else some ((0 : Int32), st)
def M_refer (st : sk_M) (v1 : Int32) (v2 : Int32) (v3 : Int32) (v4 : Int32) (v5 : Int32) : Option (Int32 × sk_M) :=
  if (M_in v1 (1 : Int32) ((st.1 0 0) - (1 : Int32))) = 0 then (some ((-1 : Int32), st)) else sk_rI 40 12 v1 st fun x19 =>
  if x19 = 0 then (sk_rI 40 11 v1 st fun x28 =>
  if (x28 &&& (1 : Int32)) = 0 then (some ((-1 : Int32), st)) else if (M_in v2 (0 : Int32) (5 : Int32)) = 0 then (some ((-1 : Int32), st)) else if (M_in v3 (0 : Int32) (9 : Int32)) = 0 then (some ((-1 : Int32), st)) else if (M_in v4 (0 : Int32) (7 : Int32)) = 0 then (some ((-1 : Int32), st)) else if (M_in v5 (0 : Int32) (1 : Int32)) = 0 then (some ((-1 : Int32), st)) else if (st.1 0 1) = (60 : Int32) then (some ((-3 : Int32), st)) else sk_wI 60 13 (st.1 0 1) v1 st fun st97 =>
  sk_wI 60 14 (st97.1 0 1) v2 st97 fun st107 =>
  sk_wI 60 15 (st107.1 0 1) v3 st107 fun st117 =>
  sk_wI 60 16 (st117.1 0 1) v4 st117 fun st128 =>
  sk_wI 60 17 (st128.1 0 1) v5 st128 fun st139 =>
  sk_fI 1 ((st139.1 0 1) + (1 : Int32)) st139 fun st147 =>
  some ((st147.1 0 1), st147)) else some ((-1 : Int32), st)
def M_letter (st : sk_M) (v1 : Int32) : Option (Int32 × sk_M) :=
  if (M_in v1 (32 : Int32) (126 : Int32)) = 0 then (some ((-1 : Int32), st)) else if (st.1 0 2) = (60 : Int32) then (some ((-3 : Int32), st)) else sk_wI 60 18 (st.1 0 2) v1 st fun st34 =>
  sk_fI 2 ((st34.1 0 2) + (1 : Int32)) st34 fun st42 =>
  some ((st42.1 0 2), st42)
def M_partW_J39 (N : Nat) (self9 : (sk_M × Int32 × Int32) → Option sk_M) (st : sk_M) (v1 : Int32) (v2 : Int32) : Option sk_M :=
  sk_wI 64 30 (st.1 0 4) v1 st fun st48 =>
  sk_wI 64 31 (st48.1 0 4) v2 st48 fun st58 =>
  sk_fI 4 ((st58.1 0 4) + (1 : Int32)) st58 fun st66 =>
  self9 (st66, (v2 + (1 : Int32)), (v2 + 1))
def M_partW_L9 (N : Nat) (self9 : (sk_M × Int32 × Int32) → Option sk_M) : (sk_M × Int32 × Int32) → Option sk_M := fun z => match z with
  | (st, v1, v2) => if (st.1 0 2) < v2 then (some st) else if (st.1 0 2) ≤ v2 then (M_partW_J39 N self9 st v1 v2) else sk_rI 60 18 v2 st fun x30 =>
  if x30 = (32 : Int32) then (M_partW_J39 N self9 st v1 v2) else self9 (st, v1, (v2 + 1))
def M_partW (N : Nat) (st : sk_M) : Option sk_M :=
  sk_fI 4 (0 : Int32) st fun st2 =>
  sk_lp N (M_partW_L9 N) (st2, (0 : Int32), (0 : Int32))
def M_isWord_J68 (N : Nat) (st : sk_M) (v1 : Int32) (v4 : Int64) : Option Int32 :=
  if (lg_cmp v4 (0 : Int64)) = 0 then (sk_rI 64 31 v1 st fun x80 =>
  sk_rI 64 30 v1 st fun x86 =>
  if x80 ≤ x86 then (some (0 : Int32)) else some (1 : Int32)) else some (0 : Int32)
def M_isWord_L23 (N : Nat) (st : sk_M) (ke68 : Int32 → Int64 → Option Int32) (self23 : (Int32 × Int64 × Int32) → Option Int32) : (Int32 × Int64 × Int32) → Option Int32 := fun z => match z with
  | (v1, v4, v6) => sk_rI 64 30 v1 st fun x30 =>
  if v6 < x30 then (ke68 v1 v4) else sk_rI 60 18 v6 st fun x40 =>
  if (lg_cmp x40.toInt64 (v4 - v4 / (128 : Int64) * (128 : Int64))) = 0 then (self23 (v1, (v4 / (128 : Int64)), (v6 + (-1)))) else some (0 : Int32)
def M_isWord (N : Nat) (st : sk_M) (v1 : Int32) (v2 : Int64) : Option Int32 :=
  if v1 < (st.1 0 4) then (sk_rI 64 31 v1 st fun x18 =>
  sk_lp N (M_isWord_L23 N st (fun v1 v4 => M_isWord_J68 N st v1 v4)) (v1, v2, (x18 - (1 : Int32)))) else some (0 : Int32)
def M_isPattern_L34 (N : Nat) (st : sk_M) (self34 : (Int32 × Int32 × Int32) → Option Int32) : (Int32 × Int32 × Int32) → Option Int32 := fun z => match z with
  | (v1, v2, v3) => sk_rI 64 31 v1 st fun x40 =>
  if (x40 - v2) ≤ v3 then (some (1 : Int32)) else sk_rI 60 18 v3 st fun x51 =>
  if x51 = (59 : Int32) then (some (0 : Int32)) else sk_rI 60 18 v3 st fun x62 =>
  if x62 = (123 : Int32) then (some (0 : Int32)) else sk_rI 60 18 v3 st fun x73 =>
  if x73 = (125 : Int32) then (some (0 : Int32)) else self34 (v1, v2, (v3 + 1))
def M_isPattern (N : Nat) (st : sk_M) (v1 : Int32) (v2 : Int32) : Option Int32 :=
  if (st.1 0 4) ≤ v1 then (some (0 : Int32)) else sk_rI 64 31 v1 st fun x13 =>
  sk_rI 64 30 v1 st fun x21 =>
  if x21 < (x13 - v2) then (sk_rI 64 30 v1 st fun x32 =>
  sk_lp N (M_isPattern_L34 N st) (v1, v2, x32)) else some (0 : Int32)
def M_code (v0 : Int64) (v2 : Int32) : Int64 :=
  ((v0 * (128 : Int64)) + v2.toInt64)
def M_fourOf (v0 : Int32) (v1 : Int32) (v2 : Int32) (v3 : Int32) : Int64 :=
  (M_code (M_code (M_code v0.toInt64 v1) v2) v3)
def M_isMembers (st : sk_M) (v1 : Int32) : Option Int32 :=
  sk_rI 60 18 v1 st fun x5 =>
  if x5 = (109 : Int32) then (sk_rI 60 18 (v1 + (1 : Int32)) st fun x18 =>
  if x18 = (101 : Int32) then (sk_rI 60 18 (v1 + (2 : Int32)) st fun x31 =>
  if x31 = (109 : Int32) then (sk_rI 60 18 (v1 + (3 : Int32)) st fun x44 =>
  if x44 = (98 : Int32) then (sk_rI 60 18 (v1 + (4 : Int32)) st fun x57 =>
  if x57 = (101 : Int32) then (sk_rI 60 18 (v1 + (5 : Int32)) st fun x70 =>
  if x70 = (114 : Int32) then (sk_rI 60 18 (v1 + (6 : Int32)) st fun x84 =>
  if x84 = (115 : Int32) then (some (1 : Int32)) else some (0 : Int32)) else some (0 : Int32)) else some (0 : Int32)) else some (0 : Int32)) else some (0 : Int32)) else some (0 : Int32)) else some (0 : Int32)
def M_sortOf_J175 (N : Nat) (st : sk_M) (v7 : Int32) (v9 : Int32) (s0 : Int32) : Option (Int32 × sk_M) :=
  sk_wI 64 30 (0 : Int32) v7 st fun st184 =>
  if v9 = 0 then (if s0 = 0 then (some ((-1 : Int32), st184)) else some ((2 : Int32), st184)) else some ((1 : Int32), st184)
def M_sortOf_J174 (N : Nat) (st : sk_M) (v7 : Int32) (v9 : Int32) : Option (Int32 × sk_M) :=
  M_sortOf_J175 N st v7 v9 (0 : Int32)
def M_sortOf_J131 (N : Nat) (st : sk_M) (v3 : Int64) (v7 : Int32) (v8 : Int32) : Option (Int32 × sk_M) :=
  sk_wI 64 30 (0 : Int32) (v7 + (4 : Int32)) st fun st140 =>
  sk_oR (M_isWord N st140 (0 : Int32) v3) fun x144 =>
  if (v8 - v7) = (11 : Int32) then (sk_oR (M_isMembers st140 (v7 + (4 : Int32))) fun x164 =>
  if x164 = 0 then (M_sortOf_J174 N st140 v7 x144) else M_sortOf_J175 N st140 v7 x144 (1 : Int32)) else M_sortOf_J174 N st140 v7 x144
def M_sortOf_L89 (N : Nat) (ke131 : sk_M → Int64 → Int32 → Int32 → Option (Int32 × sk_M)) (self89 : (sk_M × Int64 × Int64 × Int32 × Int32 × Int32) → Option (Int32 × sk_M)) : (sk_M × Int64 × Int64 × Int32 × Int32 × Int32) → Option (Int32 × sk_M) := fun z => match z with
  | (st, v3, v5, v7, v8, v9) => if v9 < 0 then (ke131 st v3 v7 v8) else sk_rI 60 18 (v7 + v9) st fun x103 =>
  if (lg_cmp x103.toInt64 (v5 - v5 / (128 : Int64) * (128 : Int64))) = 0 then (self89 (st, v3, (v5 / (128 : Int64)), v7, v8, (v9 + (-1)))) else some ((-1 : Int32), st)
def M_sortOf (N : Nat) (st : sk_M) : Option (Int32 × sk_M) :=
  sk_oR (M_isWord N st (0 : Int32) (M_fourOf (107 : Int32) (101 : Int32) (101 : Int32) (112 : Int32))) fun x35 =>
  if x35 = 0 then (if (st.1 0 4) = 0 then (some ((-1 : Int32), st)) else sk_rI 64 31 (0 : Int32) st fun x55 =>
  sk_rI 64 30 (0 : Int32) st fun x61 =>
  if (9 : Int32) ≤ (x55 - x61) then (sk_rI 64 30 (0 : Int32) st fun x75 =>
  sk_rI 64 31 (0 : Int32) st fun x83 =>
  sk_lp N (M_sortOf_L89 N (fun st v3 v7 v8 => M_sortOf_J131 N st v3 v7 v8)) (st, (M_code (M_fourOf (110 : Int32) (97 : Int32) (109 : Int32) (101 : Int32)) (115 : Int32)), (M_fourOf (107 : Int32) (101 : Int32) (101 : Int32) (112 : Int32)), x75, x83, (3 : Int32))) else some ((-1 : Int32), st)) else some ((0 : Int32), st)
def M_reads_J406 (N : Nat) (st : sk_M) (v3 : Int32) : Option (Int32 × sk_M) :=
  if (v3 + (1 : Int32)) = (st.1 0 4) then (some ((0 : Int32), st)) else some ((v3 + (2 : Int32)), st)
def M_reads_J338 (N : Nat) (ke406 : sk_M → Int32 → Option (Int32 × sk_M)) (self202 : (sk_M × Int32 × Int32) → Option (Int32 × sk_M)) (st : sk_M) (v1 : Int32) (v3 : Int32) (v5 : Int32) (v6 : Int32) (s0 : Int32) : Option (Int32 × sk_M) :=
  if s0 = 0 then (some ((v3 + (2 : Int32)), st)) else sk_wI 128 26 v5 v6 st fun st357 =>
  sk_rI 64 30 (v3 + (1 : Int32)) st357 fun x371 =>
  sk_wI 128 27 v5 x371 st357 fun st372 =>
  sk_rI 64 31 (v3 + (1 : Int32)) st372 fun x386 =>
  sk_wI 128 28 v5 (x386 - (1 : Int32)) st372 fun st389 =>
  sk_rI 8 25 v1 st389 fun x396 =>
  sk_wI 8 25 v1 (x396 + (1 : Int32)) st389 fun st399 =>
  self202 (st399, v1, (v3 + 2))
def M_reads_J337 (N : Nat) (ke406 : sk_M → Int32 → Option (Int32 × sk_M)) (self202 : (sk_M × Int32 × Int32) → Option (Int32 × sk_M)) (st : sk_M) (v1 : Int32) (v3 : Int32) (v5 : Int32) (v6 : Int32) : Option (Int32 × sk_M) :=
  M_reads_J338 N ke406 self202 st v1 v3 v5 v6 (0 : Int32)
def M_reads_J302 (N : Nat) (ke406 : sk_M → Int32 → Option (Int32 × sk_M)) (self202 : (sk_M × Int32 × Int32) → Option (Int32 × sk_M)) (st : sk_M) (v1 : Int32) (v3 : Int32) (v5 : Int32) (v6 : Int32) : Option (Int32 × sk_M) :=
  sk_oR (M_isPattern N st (v3 + (1 : Int32)) (1 : Int32)) fun x307 =>
  if x307 = 0 then (M_reads_J337 N ke406 self202 st v1 v3 v5 v6) else sk_rI 64 31 (v3 + (1 : Int32)) st fun x324 =>
  sk_rI 60 18 (x324 - (1 : Int32)) st fun x327 =>
  if x327 = (59 : Int32) then (M_reads_J338 N ke406 self202 st v1 v3 v5 v6 (1 : Int32)) else M_reads_J337 N ke406 self202 st v1 v3 v5 v6
def M_reads_J275 (N : Nat) (ke406 : sk_M → Int32 → Option (Int32 × sk_M)) (self202 : (sk_M × Int32 × Int32) → Option (Int32 × sk_M)) (st : sk_M) (v1 : Int32) (v3 : Int32) (v5 : Int32) (s0 : Int32) : Option (Int32 × sk_M) :=
  if s0 = (102 : Int32) then (M_reads_J302 N ke406 self202 st v1 v3 v5 s0) else if s0 = (109 : Int32) then (M_reads_J302 N ke406 self202 st v1 v3 v5 s0) else if s0 = (120 : Int32) then (M_reads_J302 N ke406 self202 st v1 v3 v5 s0) else some ((v3 + (1 : Int32)), st)
def M_reads_J274 (N : Nat) (ke406 : sk_M → Int32 → Option (Int32 × sk_M)) (self202 : (sk_M × Int32 × Int32) → Option (Int32 × sk_M)) (st : sk_M) (v1 : Int32) (v3 : Int32) (v5 : Int32) : Option (Int32 × sk_M) :=
  M_reads_J275 N ke406 self202 st v1 v3 v5 (0 : Int32)
def M_reads_J222 (N : Nat) (ke406 : sk_M → Int32 → Option (Int32 × sk_M)) (self202 : (sk_M × Int32 × Int32) → Option (Int32 × sk_M)) (st : sk_M) (v1 : Int32) (v3 : Int32) : Option (Int32 × sk_M) :=
  sk_rI 8 25 v1 st fun x231 =>
  if (st.1 0 4) ≤ v3 then (M_reads_J274 N ke406 self202 st v1 v3 (((16 : Int32) * v1) + x231)) else sk_rI 64 31 v3 st fun x248 =>
  sk_rI 64 30 v3 st fun x254 =>
  if (x248 - x254) = (1 : Int32) then (sk_rI 64 30 v3 st fun x269 =>
  sk_rI 60 18 x269 st fun x270 =>
  M_reads_J275 N ke406 self202 st v1 v3 (((16 : Int32) * v1) + x231) x270) else M_reads_J274 N ke406 self202 st v1 v3 (((16 : Int32) * v1) + x231)
def M_reads_L202 (N : Nat) (ke406 : sk_M → Int32 → Option (Int32 × sk_M)) (self202 : (sk_M × Int32 × Int32) → Option (Int32 × sk_M)) : (sk_M × Int32 × Int32) → Option (Int32 × sk_M) := fun z => match z with
  | (st, v1, v3) => sk_rI 8 25 v1 st fun x207 =>
  if x207 = 0 then (M_reads_J222 N ke406 self202 st v1 v3) else sk_oR (M_isWord N st v3 (125 : Int64)) fun x216 =>
  if x216 = 0 then (M_reads_J222 N ke406 self202 st v1 v3) else ke406 st v3
def M_reads_J174 (N : Nat) (st : sk_M) (v1 : Int32) (v3 : Int32) : Option (Int32 × sk_M) :=
  if v3 = (st.1 0 4) then (some ((0 : Int32), st)) else sk_oR (M_isWord N st v3 (123 : Int64)) fun x189 =>
  if x189 = 0 then (some ((v3 + (1 : Int32)), st)) else sk_lp N (M_reads_L202 N (fun st v3 => M_reads_J406 N st v3)) (st, v1, (v3 + 1))
def M_reads (N : Nat) (st : sk_M) (v1 : Int32) : Option (Int32 × sk_M) :=
  sk_oW (M_sortOf N st) fun x1 st1 =>
  if 0 ≤ x1 then (sk_oR (M_isWord N st1 (1 : Int32) (M_code (M_fourOf (99 : Int32) (108 : Int32) (97 : Int32) (115 : Int32)) (115 : Int32))) fun x31 =>
  if x31 = 0 then (some ((2 : Int32), st1)) else sk_oR (M_isPattern N st1 (2 : Int32) (0 : Int32)) fun x42 =>
  if x42 = 0 then (some ((3 : Int32), st1)) else sk_wI 8 20 v1 x1 st1 fun st60 =>
  sk_rI 64 30 (2 : Int32) st60 fun x71 =>
  sk_wI 8 21 v1 x71 st60 fun st72 =>
  sk_rI 64 31 (2 : Int32) st72 fun x83 =>
  sk_wI 8 22 v1 x83 st72 fun st84 =>
  sk_wI 8 23 v1 (-1 : Int32) st84 fun st91 =>
  sk_wI 8 25 v1 (0 : Int32) st91 fun st98 =>
  sk_oR (M_isWord N st98 (3 : Int32) (M_code (M_code (M_code (M_fourOf (101 : Int32) (120 : Int32) (116 : Int32) (101 : Int32)) (110 : Int32)) (100 : Int32)) (115 : Int32))) fun x127 =>
  if x127 = 0 then (M_reads_J174 N st98 v1 (3 : Int32)) else sk_oR (M_isPattern N st98 (4 : Int32) (0 : Int32)) fun x136 =>
  if x136 = 0 then (some ((5 : Int32), st98)) else sk_rI 64 30 (4 : Int32) st98 fun x158 =>
  sk_wI 8 23 v1 x158 st98 fun st159 =>
  sk_rI 64 31 (4 : Int32) st159 fun x170 =>
  sk_wI 8 24 v1 x170 st159 fun st171 =>
  M_reads_J174 N st171 v1 (5 : Int32)) else some ((1 : Int32), st1)
def M_readsFull_L190 (N : Nat) (self190 : (sk_M × Int32 × Int32) → Option (Int32 × sk_M)) : (sk_M × Int32 × Int32) → Option (Int32 × sk_M) := fun z => match z with
  | (st, v7, v8) => if (16 : Int32) ≤ v8 then (some (v7, st)) else sk_rI 48 29 ((3 : Int32) * v8) st fun x214 =>
  sk_wI 128 26 ((112 : Int32) + v8) x214 st fun st215 =>
  sk_rI 48 29 (((3 : Int32) * v8) + (1 : Int32)) st215 fun x235 =>
  sk_wI 128 27 ((112 : Int32) + v8) x235 st215 fun st236 =>
  sk_rI 48 29 (((3 : Int32) * v8) + (2 : Int32)) st236 fun x256 =>
  sk_wI 128 28 ((112 : Int32) + v8) x256 st236 fun st257 =>
  self190 (st257, v7, (v8 + 1))
def M_readsFull_J128 (N : Nat) (st : sk_M) (v1 : Int32) (v2 : Int32) (v3 : Int32) (v4 : Int32) (v5 : Int32) (v6 : Int32) : Option (Int32 × sk_M) :=
  sk_oW (M_reads N st (7 : Int32)) fun x131 st131 =>
  sk_wI 8 20 (7 : Int32) v1 st131 fun st143 =>
  sk_wI 8 21 (7 : Int32) v2 st143 fun st151 =>
  sk_wI 8 22 (7 : Int32) v3 st151 fun st159 =>
  sk_wI 8 23 (7 : Int32) v4 st159 fun st168 =>
  sk_wI 8 24 (7 : Int32) v5 st168 fun st177 =>
  sk_wI 8 25 (7 : Int32) v6 st177 fun st186 =>
  sk_lp N (M_readsFull_L190 N) (st186, x131, (0 : Int32))
def M_readsFull_L54 (N : Nat) (ke128 : sk_M → Int32 → Int32 → Int32 → Int32 → Int32 → Int32 → Option (Int32 × sk_M)) (self54 : (sk_M × Int32 × Int32 × Int32 × Int32 × Int32 × Int32 × Int32) → Option (Int32 × sk_M)) : (sk_M × Int32 × Int32 × Int32 × Int32 × Int32 × Int32 × Int32) → Option (Int32 × sk_M) := fun z => match z with
  | (st, v1, v2, v3, v4, v5, v6, v7) => if (16 : Int32) ≤ v7 then (ke128 st v1 v2 v3 v4 v5 v6) else sk_rI 128 26 ((112 : Int32) + v7) st fun x78 =>
  sk_wI 48 29 ((3 : Int32) * v7) x78 st fun st79 =>
  sk_rI 128 27 ((112 : Int32) + v7) st79 fun x99 =>
  sk_wI 48 29 (((3 : Int32) * v7) + (1 : Int32)) x99 st79 fun st100 =>
  sk_rI 128 28 ((112 : Int32) + v7) st100 fun x120 =>
  sk_wI 48 29 (((3 : Int32) * v7) + (2 : Int32)) x120 st100 fun st121 =>
  self54 (st121, v1, v2, v3, v4, v5, v6, (v7 + 1))
def M_readsFull (N : Nat) (st : sk_M) : Option (Int32 × sk_M) :=
  sk_rI 8 20 (7 : Int32) st fun x6 =>
  sk_rI 8 21 (7 : Int32) st fun x14 =>
  sk_rI 8 22 (7 : Int32) st fun x22 =>
  sk_rI 8 23 (7 : Int32) st fun x30 =>
  sk_rI 8 24 (7 : Int32) st fun x39 =>
  sk_rI 8 25 (7 : Int32) st fun x48 =>
  sk_lp N (M_readsFull_L54 N (fun st v1 v2 v3 v4 v5 v6 => M_readsFull_J128 N st v1 v2 v3 v4 v5 v6)) (st, x6, x14, x22, x30, x39, x48, (0 : Int32))
def M_rule_J110 (N : Nat) (st : sk_M) : Option (Int32 × sk_M) :=
  sk_fI 3 ((st.1 0 3) + (1 : Int32)) st fun st117 =>
  some ((st117.1 0 3), st117)
def M_rule_L79 (N : Nat) (ke110 : sk_M → Option (Int32 × sk_M)) (self79 : (sk_M × Int32 × Int32 × Int32) → Option (Int32 × sk_M)) : (sk_M × Int32 × Int32 × Int32) → Option (Int32 × sk_M) := fun z => match z with
  | (st, v1, v3, v4) => if v3 ≤ v4 then (ke110 st) else sk_rI 60 18 v4 st fun x102 =>
  sk_wI 480 19 (((60 : Int32) * v1) + v4) x102 st fun st103 =>
  self79 (st103, v1, v3, (v4 + 1))
def M_rule_J44 (N : Nat) (st : sk_M) (v1 : Int32) (s0 : Int32) : Option (Int32 × sk_M) :=
  sk_fI 2 (0 : Int32) st fun st52 =>
  if s0 ≤ 0 then (if (st52.1 0 3) = (8 : Int32) then (some ((-3 : Int32), st52)) else sk_lp N (M_rule_L79 N (fun st => M_rule_J110 N st)) (st52, v1, (st.1 0 2), (0 : Int32))) else some (((-10 : Int32) - s0), st52)
def M_rule_J22 (N : Nat) (st : sk_M) (s0 : Int32) : Option (Int32 × sk_M) :=
  if (8 : Int32) ≤ (st.1 0 3) then (sk_oW (M_readsFull N st) fun x41 st41 =>
  M_rule_J44 N st41 s0 x41) else sk_oW (M_reads N st s0) fun x34 st34 =>
  M_rule_J44 N st34 s0 x34
def M_rule (N : Nat) (st : sk_M) : Option (Int32 × sk_M) :=
  sk_oR (M_partW N st) fun st1 =>
  if (8 : Int32) ≤ (st1.1 0 3) then (M_rule_J22 N st1 (7 : Int32)) else M_rule_J22 N st1 (st1.1 0 3)
def M_clear_J40 (N : Nat) (st : sk_M) (v2 : Int32) : Option (Int32 × sk_M) :=
  sk_fI 0 (1 : Int32) st fun st42 =>
  sk_fI 1 (0 : Int32) st42 fun st47 =>
  some (v2, st47)
def M_clear_L21 (N : Nat) (ke40 : sk_M → Int32 → Option (Int32 × sk_M)) (self21 : (sk_M × Int32 × Int32) → Option (Int32 × sk_M)) : (sk_M × Int32 × Int32) → Option (Int32 × sk_M) := fun z => match z with
  | (st, v2, v3) => if (10 : Int32) ≤ v3 then (ke40 st v2) else sk_wI 10 1 v3 (vp_nar .boolean (0 : Int32)) st fun st33 =>
  self21 (st33, v2, (v3 + 1))
def M_clear (N : Nat) (st : sk_M) (v1 : Int32) : Option (Int32 × sk_M) :=
  sk_fI 3 (0 : Int32) st fun st7 =>
  sk_fI 2 (0 : Int32) st7 fun st12 =>
  if v1 = 0 then (some ((st.1 0 3), st12)) else sk_lp N (M_clear_L21 N (fun st v2 => M_clear_J40 N st v2)) (st12, (st.1 0 3), (1 : Int32))
def M_fits_J316 (N : Nat) (st : sk_M) : Option (Int32 × sk_M) :=
  sk_rI 20 33 (st.1 0 5) st fun x324 =>
  if x324 &&& 1 = x324 then (some (x324, st)) else none
def M_fits_J298 (N : Nat) (ke316 : sk_M → Option (Int32 × sk_M)) (self44 : (sk_M × Int32 × Int32 × Int32) → Option (Int32 × sk_M)) (st : sk_M) (v3 : Int32) (v4 : Int32) (v5 : Int32) (v7 : Int32) : Option (Int32 × sk_M) :=
  if v7 = 0 then (self44 (st, v3, v4, (v5 + (1 : Int32)))) else self44 (st, v3, v4, (v5 + (2 : Int32)))
def M_fits_L269 (N : Nat) (ke298 : sk_M → Int32 → Int32 → Int32 → Int32 → Option (Int32 × sk_M)) (self269 : (sk_M × Int32 × Int32 × Int32 × Int32 × Int32) → Option (Int32 × sk_M)) : (sk_M × Int32 × Int32 × Int32 × Int32 × Int32) → Option (Int32 × sk_M) := fun z => match z with
  | (st, v3, v4, v5, v7, v8) => if (st.1 0 5) < v8 then (ke298 st v3 v4 v5 v7) else sk_rI 20 34 v8 st fun x290 =>
  sk_wI 20 33 v8 (vp_nar .boolean x290) st fun st291 =>
  self269 (st291, v3, v4, v5, v7, (v8 + 1))
def M_fits_J266 (N : Nat) (ke316 : sk_M → Option (Int32 × sk_M)) (self44 : (sk_M × Int32 × Int32 × Int32) → Option (Int32 × sk_M)) (st : sk_M) (v3 : Int32) (v4 : Int32) (v5 : Int32) (v7 : Int32) : Option (Int32 × sk_M) :=
  sk_lp N (M_fits_L269 N (fun st v3 v4 v5 v7 => M_fits_J298 N ke316 self44 st v3 v4 v5 v7)) (st, v3, v4, v5, v7, (0 : Int32))
def M_fits_J259 (N : Nat) (ke266 : sk_M → Int32 → Int32 → Int32 → Int32 → Option (Int32 × sk_M)) (self104 : (sk_M × Int32 × Int32 × Int32 × Int32 × Int32 × Int32) → Option (Int32 × sk_M)) (st : sk_M) (v3 : Int32) (v4 : Int32) (v5 : Int32) (v6 : Int32) (v7 : Int32) (v8 : Int32) (s1 : Int32) (s2 : Int32) : Option (Int32 × sk_M) :=
  sk_wI 20 34 s1 (vp_nar .boolean s2) st fun st259 =>
  self104 (st259, v3, v4, v5, v6, v7, (v8 + 1))
def M_fits_J258 (N : Nat) (ke266 : sk_M → Int32 → Int32 → Int32 → Int32 → Option (Int32 × sk_M)) (self104 : (sk_M × Int32 × Int32 × Int32 × Int32 × Int32 × Int32) → Option (Int32 × sk_M)) (st : sk_M) (v3 : Int32) (v4 : Int32) (v5 : Int32) (v6 : Int32) (v7 : Int32) (v8 : Int32) (s1 : Int32) : Option (Int32 × sk_M) :=
  M_fits_J259 N ke266 self104 st v3 v4 v5 v6 v7 v8 s1 (0 : Int32)
def M_fits_J254 (N : Nat) (ke266 : sk_M → Int32 → Int32 → Int32 → Int32 → Option (Int32 × sk_M)) (self104 : (sk_M × Int32 × Int32 × Int32 × Int32 × Int32 × Int32) → Option (Int32 × sk_M)) (st : sk_M) (v3 : Int32) (v4 : Int32) (v5 : Int32) (v6 : Int32) (v7 : Int32) (v8 : Int32) (s1 : Int32) : Option (Int32 × sk_M) :=
  M_fits_J259 N ke266 self104 st v3 v4 v5 v6 v7 v8 s1 (1 : Int32)
def M_fits_J201 (N : Nat) (ke266 : sk_M → Int32 → Int32 → Int32 → Int32 → Option (Int32 × sk_M)) (self104 : (sk_M × Int32 × Int32 × Int32 × Int32 × Int32 × Int32) → Option (Int32 × sk_M)) (st : sk_M) (v3 : Int32) (v4 : Int32) (v5 : Int32) (v6 : Int32) (v7 : Int32) (v8 : Int32) (s1 : Int32) (s2 : Int32) : Option (Int32 × sk_M) :=
  sk_wI 20 34 s1 (vp_nar .boolean s2) st fun st201 =>
  self104 (st201, v3, v4, v5, v6, v7, (v8 + 1))
def M_fits_J196 (N : Nat) (ke266 : sk_M → Int32 → Int32 → Int32 → Int32 → Option (Int32 × sk_M)) (self104 : (sk_M × Int32 × Int32 × Int32 × Int32 × Int32 × Int32) → Option (Int32 × sk_M)) (st : sk_M) (v3 : Int32) (v4 : Int32) (v5 : Int32) (v6 : Int32) (v7 : Int32) (v8 : Int32) (s1 : Int32) : Option (Int32 × sk_M) :=
  M_fits_J201 N ke266 self104 st v3 v4 v5 v6 v7 v8 s1 (1 : Int32)
def M_fits_J200 (N : Nat) (ke266 : sk_M → Int32 → Int32 → Int32 → Int32 → Option (Int32 × sk_M)) (self104 : (sk_M × Int32 × Int32 × Int32 × Int32 × Int32 × Int32) → Option (Int32 × sk_M)) (st : sk_M) (v3 : Int32) (v4 : Int32) (v5 : Int32) (v6 : Int32) (v7 : Int32) (v8 : Int32) (s1 : Int32) : Option (Int32 × sk_M) :=
  M_fits_J201 N ke266 self104 st v3 v4 v5 v6 v7 v8 s1 (0 : Int32)
def M_fits_J135 (N : Nat) (ke266 : sk_M → Int32 → Int32 → Int32 → Int32 → Option (Int32 × sk_M)) (self104 : (sk_M × Int32 × Int32 × Int32 × Int32 × Int32 × Int32) → Option (Int32 × sk_M)) (st : sk_M) (v3 : Int32) (v4 : Int32) (v5 : Int32) (v6 : Int32) (v7 : Int32) (v8 : Int32) (s0 : Int32) : Option (Int32 × sk_M) :=
  if v6 = (42 : Int32) then (sk_rI 20 33 v8 st fun x156 =>
  if x156 = 0 then (if v8 ≤ 0 then (M_fits_J200 N ke266 self104 st v3 v4 v5 v6 v7 v8 v8) else sk_rI 20 34 (v8 - (1 : Int32)) st fun x173 =>
  if x173 = 0 then (M_fits_J200 N ke266 self104 st v3 v4 v5 v6 v7 v8 v8) else if v7 = 0 then (sk_rI 16 32 (v8 - (1 : Int32)) st fun x190 =>
  if x190 = (46 : Int32) then (M_fits_J200 N ke266 self104 st v3 v4 v5 v6 v7 v8 v8) else M_fits_J196 N ke266 self104 st v3 v4 v5 v6 v7 v8 v8) else M_fits_J196 N ke266 self104 st v3 v4 v5 v6 v7 v8 v8) else M_fits_J196 N ke266 self104 st v3 v4 v5 v6 v7 v8 v8) else if s0 = 0 then (M_fits_J258 N ke266 self104 st v3 v4 v5 v6 v7 v8 v8) else if v6 = (63 : Int32) then (sk_rI 16 32 (v8 - (1 : Int32)) st fun x231 =>
  if x231 = (46 : Int32) then (M_fits_J258 N ke266 self104 st v3 v4 v5 v6 v7 v8 v8) else M_fits_J254 N ke266 self104 st v3 v4 v5 v6 v7 v8 v8) else sk_rI 16 32 (v8 - (1 : Int32)) st fun x248 =>
  if x248 = v6 then (M_fits_J254 N ke266 self104 st v3 v4 v5 v6 v7 v8 v8) else M_fits_J258 N ke266 self104 st v3 v4 v5 v6 v7 v8 v8
def M_fits_J134 (N : Nat) (ke266 : sk_M → Int32 → Int32 → Int32 → Int32 → Option (Int32 × sk_M)) (self104 : (sk_M × Int32 × Int32 × Int32 × Int32 × Int32 × Int32) → Option (Int32 × sk_M)) (st : sk_M) (v3 : Int32) (v4 : Int32) (v5 : Int32) (v6 : Int32) (v7 : Int32) (v8 : Int32) : Option (Int32 × sk_M) :=
  M_fits_J135 N ke266 self104 st v3 v4 v5 v6 v7 v8 (0 : Int32)
def M_fits_L104 (N : Nat) (ke266 : sk_M → Int32 → Int32 → Int32 → Int32 → Option (Int32 × sk_M)) (self104 : (sk_M × Int32 × Int32 × Int32 × Int32 × Int32 × Int32) → Option (Int32 × sk_M)) : (sk_M × Int32 × Int32 × Int32 × Int32 × Int32 × Int32) → Option (Int32 × sk_M) := fun z => match z with
  | (st, v3, v4, v5, v6, v7, v8) => if (st.1 0 5) < v8 then (ke266 st v3 v4 v5 v7) else if v8 ≤ 0 then (M_fits_J134 N ke266 self104 st v3 v4 v5 v6 v7 v8) else sk_rI 20 33 (v8 - (1 : Int32)) st fun x126 =>
  if x126 = 0 then (M_fits_J134 N ke266 self104 st v3 v4 v5 v6 v7 v8) else M_fits_J135 N ke266 self104 st v3 v4 v5 v6 v7 v8 (1 : Int32)
def M_fits_J99 (N : Nat) (ke316 : sk_M → Option (Int32 × sk_M)) (self44 : (sk_M × Int32 × Int32 × Int32) → Option (Int32 × sk_M)) (st : sk_M) (v3 : Int32) (v4 : Int32) (v5 : Int32) (v6 : Int32) (s0 : Int32) : Option (Int32 × sk_M) :=
  sk_lp N (M_fits_L104 N (fun st v3 v4 v5 v7 => M_fits_J266 N ke316 self44 st v3 v4 v5 v7)) (st, v3, v4, v5, v6, s0, (0 : Int32))
def M_fits_J98 (N : Nat) (ke316 : sk_M → Option (Int32 × sk_M)) (self44 : (sk_M × Int32 × Int32 × Int32) → Option (Int32 × sk_M)) (st : sk_M) (v3 : Int32) (v4 : Int32) (v5 : Int32) (v6 : Int32) : Option (Int32 × sk_M) :=
  M_fits_J99 N ke316 self44 st v3 v4 v5 v6 (0 : Int32)
def M_fits_L44 (N : Nat) (ke316 : sk_M → Option (Int32 × sk_M)) (self44 : (sk_M × Int32 × Int32 × Int32) → Option (Int32 × sk_M)) : (sk_M × Int32 × Int32 × Int32) → Option (Int32 × sk_M) := fun z => match z with
  | (st, v3, v4, v5) => if v3 ≤ v5 then (ke316 st) else sk_rI 480 19 (v4 + v5) st fun x59 =>
  if x59 = (42 : Int32) then (if v3 ≤ (v5 + (1 : Int32)) then (M_fits_J98 N ke316 self44 st v3 v4 v5 x59) else sk_rI 480 19 ((v4 + v5) + (1 : Int32)) st fun x88 =>
  if x88 = (42 : Int32) then (M_fits_J99 N ke316 self44 st v3 v4 v5 x59 (1 : Int32)) else M_fits_J98 N ke316 self44 st v3 v4 v5 x59) else M_fits_J98 N ke316 self44 st v3 v4 v5 x59
def M_fits_J44 (N : Nat) (st : sk_M) (v3 : Int32) (v4 : Int32) (v5 : Int32) : Option (Int32 × sk_M) :=
  sk_lp N (M_fits_L44 N (fun st => M_fits_J316 N st)) (st, v3, v4, v5)
def M_fits_J37 (N : Nat) (ke44 : sk_M → Int32 → Int32 → Int32 → Option (Int32 × sk_M)) (self12 : (sk_M × Int32 × Int32 × Int32 × Int32) → Option (Int32 × sk_M)) (st : sk_M) (v3 : Int32) (v4 : Int32) (v5 : Int32) (v6 : Int32) (s1 : Int32) (s2 : Int32) : Option (Int32 × sk_M) :=
  sk_wI 20 33 s1 (vp_nar .boolean s2) st fun st37 =>
  self12 (st37, v3, v4, v5, (v6 + 1))
def M_fits_L12 (N : Nat) (ke44 : sk_M → Int32 → Int32 → Int32 → Option (Int32 × sk_M)) (self12 : (sk_M × Int32 × Int32 × Int32 × Int32) → Option (Int32 × sk_M)) : (sk_M × Int32 × Int32 × Int32 × Int32) → Option (Int32 × sk_M) := fun z => match z with
  | (st, v3, v4, v5, v6) => if (st.1 0 5) < v6 then (ke44 st v3 v4 v5) else if v6 = 0 then (M_fits_J37 N ke44 self12 st v3 v4 v5 v6 v6 (1 : Int32)) else M_fits_J37 N ke44 self12 st v3 v4 v5 v6 v6 (0 : Int32)
def M_fits (N : Nat) (st : sk_M) (v1 : Int32) (v2 : Int32) (v3 : Int32) : Option (Int32 × sk_M) :=
  sk_lp N (M_fits_L12 N (fun st v3 v4 v5 => M_fits_J44 N st v3 v4 v5)) (st, v3, ((60 : Int32) * v1), v2, (0 : Int32))
def M_className (st : sk_M) (v1 : Int32) : Option sk_M :=
  sk_rI 10 4 v1 st fun x12 =>
  sk_wI 16 32 (0 : Int32) ((111 : Int32) + x12) st fun st14 =>
  sk_wI 16 32 (1 : Int32) (46 : Int32) st14 fun st22 =>
  sk_wI 16 32 (2 : Int32) ((65 : Int32) + v1) st22 fun st32 =>
  sk_fI 5 (3 : Int32) st32 fun st35 =>
  some st35
def M_put (st : sk_M) (v1 : Int32) : Option sk_M :=
  sk_wI 16 32 (st.1 0 5) v1 st fun st9 =>
  sk_fI 5 ((st9.1 0 5) + (1 : Int32)) st9 fun st17 =>
  some st17
def M_wordText_J44 (st : sk_M) : Option sk_M :=
  sk_oR (M_put st (105 : Int32)) fun st47 =>
  sk_oR (M_put st47 (110 : Int32)) fun st53 =>
  sk_oR (M_put st53 (105 : Int32)) fun st59 =>
  sk_oR (M_put st59 (116 : Int32)) fun st65 =>
  sk_oR (M_put st65 (62 : Int32)) fun st71 =>
  some st71
def M_wordText (st : sk_M) (v1 : Int32) : Option sk_M :=
  sk_fI 5 (0 : Int32) st fun st2 =>
  if (6 : Int32) ≤ v1 then (sk_oR (M_put st2 (60 : Int32)) fun st23 =>
  if v1 = (7 : Int32) then (sk_oR (M_put st23 (99 : Int32)) fun st35 =>
  sk_oR (M_put st35 (108 : Int32)) fun st41 =>
  M_wordText_J44 st41) else M_wordText_J44 st23) else sk_oR (M_put st2 ((114 : Int32) + v1)) fun st16 =>
  some st16
def M_fitsUp_L13 (N : Nat) (self13 : (sk_M × Int32 × Int32 × Int32) → Option (Int32 × sk_M)) : (sk_M × Int32 × Int32 × Int32) → Option (Int32 × sk_M) := fun z => match z with
  | (st, v1, v2, v3) => if (10 : Int32) ≤ v3 then (some ((0 : Int32), st)) else sk_rI 10 7 v2 st fun x24 =>
  if ((x24 >>> (v3 &&& 31)) &&& (1 : Int32)) = 0 then (self13 (st, v1, v2, (v3 + 1))) else sk_oR (M_className st v3) fun st37 =>
  sk_rI 8 23 v1 st37 fun x47 =>
  sk_rI 8 24 v1 st37 fun x53 =>
  sk_oW (M_fits N st37 v1 x47 x53) fun x54 st54 =>
  if x54 = 0 then (self13 (st54, v1, v2, (v3 + 1))) else some ((1 : Int32), st54)
def M_fitsUp (N : Nat) (st : sk_M) (v1 : Int32) (v2 : Int32) : Option (Int32 × sk_M) :=
  sk_rI 8 23 v1 st fun x5 =>
  if 0 ≤ x5 then (sk_lp N (M_fitsUp_L13 N) (st, v1, v2, (0 : Int32))) else some ((1 : Int32), st)
def M_isAbout (N : Nat) (st : sk_M) (v1 : Int32) (v2 : Int32) : Option (Int32 × sk_M) :=
  if v2 = 0 then (some ((0 : Int32), st)) else sk_rI 10 1 v2 st fun x9 =>
  if x9 = 0 then (some ((0 : Int32), st)) else sk_oR (M_className st v2) fun st17 =>
  sk_rI 8 21 v1 st17 fun x27 =>
  sk_rI 8 22 v1 st17 fun x33 =>
  sk_oW (M_fits N st17 v1 x27 x33) fun x34 st34 =>
  if x34 = 0 then (some ((0 : Int32), st34)) else sk_oW (M_fitsUp N st34 v1 v2) fun x43 st43 =>
  if x43 = 0 then (some ((0 : Int32), st43)) else some ((1 : Int32), st43)
def M_isMeant_J86 (N : Nat) (self42 : (sk_M × Int32 × Int32 × Int32) → Option (Int32 × sk_M)) (st : sk_M) (v1 : Int32) (v2 : Int32) (v3 : Int32) (s0 : Int32) (s1 : Int32) : Option (Int32 × sk_M) :=
  if s0 = s1 then (self42 (st, v1, v2, (v3 + 1))) else sk_rI 128 27 (((16 : Int32) * v1) + v3) st fun x104 =>
  sk_rI 128 28 (((16 : Int32) * v1) + v3) st fun x115 =>
  sk_oW (M_fits N st v1 x104 x115) fun x116 st116 =>
  if x116 = 0 then (self42 (st116, v1, v2, (v3 + 1))) else some ((1 : Int32), st116)
def M_isMeant_L42 (N : Nat) (self42 : (sk_M × Int32 × Int32 × Int32) → Option (Int32 × sk_M)) : (sk_M × Int32 × Int32 × Int32) → Option (Int32 × sk_M) := fun z => match z with
  | (st, v1, v2, v3) => sk_rI 8 25 v1 st fun x48 =>
  if x48 ≤ v3 then (some ((0 : Int32), st)) else sk_rI 128 26 (((16 : Int32) * v1) + v3) st fun x62 =>
  sk_rI 40 11 v2 st fun x72 =>
  if (x72 &&& (1 : Int32)) = (1 : Int32) then (M_isMeant_J86 N self42 st v1 v2 v3 x62 (102 : Int32)) else M_isMeant_J86 N self42 st v1 v2 v3 x62 (109 : Int32)
def M_isMeant (N : Nat) (st : sk_M) (v1 : Int32) (v2 : Int32) : Option (Int32 × sk_M) :=
  sk_rI 40 12 v2 st fun x5 =>
  if x5 = 0 then (sk_rI 40 8 v2 st fun x22 =>
  sk_rI 80 39 (((10 : Int32) * v1) + x22) st fun x24 =>
  if x24 = 0 then (some ((0 : Int32), st)) else sk_rI 40 9 v2 st fun x36 =>
  sk_oR (M_wordText st x36) fun st37 =>
  sk_lp N (M_isMeant_L42 N) (st37, v1, v2, (0 : Int32))) else some ((0 : Int32), st)
def M_superOf (st : sk_M) (v1 : Int32) : Option Int32 :=
  if v1 = 0 then (some (-1 : Int32)) else sk_rI 10 2 v1 st fun x13 =>
  if x13 = 0 then (sk_rI 10 5 v1 st fun x26 =>
  sk_rI 10 1 x26 st fun x27 =>
  if x27 = 0 then (some (0 : Int32)) else sk_rI 10 5 v1 st fun x40 =>
  sk_rI 10 2 x40 st fun x41 =>
  if x41 = 0 then (sk_rI 10 5 v1 st fun x54 =>
  some x54) else some (0 : Int32)) else some (0 : Int32)
def M_hasFace (st : sk_M) (v1 : Int32) (v2 : Int32) : Option Int32 :=
  sk_rI 10 6 v1 st fun x5 =>
  if ((x5 >>> (v2 &&& 31)) &&& (1 : Int32)) = (1 : Int32) then (sk_rI 10 1 v2 st fun x19 =>
  if x19 = 0 then (some (0 : Int32)) else sk_rI 10 2 v2 st fun x28 =>
  if x28 = 0 then (some (0 : Int32)) else some (1 : Int32)) else some (0 : Int32)
def M_order_J72 (N : Nat) (self9 : (sk_M × Int32) → Option sk_M) (st : sk_M) (v1 : Int32) (v3 : Int32) : Option sk_M :=
  sk_wI 10 7 v1 v3 st fun st78 =>
  self9 (st78, (v1 + 1))
def M_order_L35 (N : Nat) (ke72 : sk_M → Int32 → Int32 → Option sk_M) (self35 : (sk_M × Int32 × Int32 × Int32) → Option sk_M) : (sk_M × Int32 × Int32 × Int32) → Option sk_M := fun z => match z with
  | (st, v1, v3, v4) => if v1 ≤ v4 then (ke72 st v1 v3) else sk_oR (M_hasFace st v1 v4) fun x45 =>
  if x45 = 0 then (self35 (st, v1, v3, (v4 + 1))) else sk_rI 10 7 v4 st fun x62 =>
  self35 (st, v1, (v3 ||| (((1 : Int32) <<< (v4 &&& 31)) ||| x62)), (v4 + 1))
def M_order_L9 (N : Nat) (self9 : (sk_M × Int32) → Option sk_M) : (sk_M × Int32) → Option sk_M := fun z => match z with
  | (st, v1) => if (10 : Int32) ≤ v1 then (some st) else sk_oR (M_superOf st v1) fun x17 =>
  sk_rI 10 7 x17 st fun x29 =>
  sk_lp N (M_order_L35 N (fun st v1 v3 => M_order_J72 N self9 st v1 v3)) (st, v1, (((1 : Int32) <<< (x17 &&& 31)) ||| x29), (1 : Int32))
def M_order (N : Nat) (st : sk_M) : Option sk_M :=
  sk_wI 10 7 (0 : Int32) (0 : Int32) st fun st6 =>
  sk_lp N (M_order_L9 N) (st6, (1 : Int32))
def M_isWanted_J20 (st : sk_M) (v1 : Int32) (v3 : Int32) : Option Int32 :=
  if v3 = 0 then (some (1 : Int32)) else sk_rI 40 38 v1 st fun x29 =>
  if x29 = 0 then (some (0 : Int32)) else some (1 : Int32)
def M_isWanted (st : sk_M) (v1 : Int32) (v2 : Int32) (v3 : Int32) : Option Int32 :=
  if v1 < 0 then (some (0 : Int32)) else if v2 = 0 then (M_isWanted_J20 st v1 v3) else sk_rI 40 11 v1 st fun x13 =>
  if (x13 &&& (6 : Int32)) = 0 then (M_isWanted_J20 st v1 v3) else some (0 : Int32)
def M_look_L50 (N : Nat) (st : sk_M) (self50 : (Int32 × Int32 × Int32 × Int32 × Int32 × Int32 × Int32) → Option Int32) : (Int32 × Int32 × Int32 × Int32 × Int32 × Int32 × Int32) → Option Int32 := fun z => match z with
  | (v1, v2, v3, v4, v5, v6, v7) => if (st.1 0 0) ≤ v7 then (some (-2 : Int32)) else sk_rI 40 8 v7 st fun x65 =>
  sk_rI 40 12 v7 st fun x74 =>
  if x74 = 0 then (sk_rI 10 7 v1 st fun x83 =>
  if ((x83 >>> (x65 &&& 31)) &&& (1 : Int32)) = 0 then (self50 (v1, v2, v3, v4, v5, v6, (v7 + 1))) else sk_rI 10 2 x65 st fun x98 =>
  if x98 = 0 then (self50 (v1, v2, v3, v4, v5, v6, (v7 + 1))) else sk_rI 40 11 v7 st fun x108 =>
  if (x108 &&& (1 : Int32)) = v2 then (sk_rI 40 9 v7 st fun x121 =>
  if x121 = v3 then (sk_rI 40 10 v7 st fun x132 =>
  if x132 = v4 then (sk_oR (M_isWanted st v7 v5 v6) fun x148 =>
  if x148 = 0 then (self50 (v1, v2, v3, v4, v5, v6, (v7 + 1))) else some v7) else self50 (v1, v2, v3, v4, v5, v6, (v7 + 1))) else self50 (v1, v2, v3, v4, v5, v6, (v7 + 1))) else self50 (v1, v2, v3, v4, v5, v6, (v7 + 1))) else self50 (v1, v2, v3, v4, v5, v6, (v7 + 1))
def M_look_J47 (N : Nat) (st : sk_M) (v1 : Int32) (v2 : Int32) (v3 : Int32) (v4 : Int32) (v5 : Int32) (v6 : Int32) : Option Int32 :=
  sk_lp N (M_look_L50 N st) (v1, v2, v3, v4, v5, v6, (0 : Int32))
def M_look_L3 (N : Nat) (st : sk_M) (ke47 : Int32 → Int32 → Int32 → Int32 → Int32 → Int32 → Option Int32) (self3 : (Int32 × Int32 × Int32 × Int32 × Int32 × Int32 × Int32) → Option Int32) : (Int32 × Int32 × Int32 × Int32 × Int32 × Int32 × Int32) → Option Int32 := fun z => match z with
  | (v1, v2, v3, v4, v5, v6, v7) => if v7 < 0 then (ke47 v1 v2 v3 v4 v5 v6) else sk_oR (M_own N st v7 v2 v3 v4) fun x15 =>
  sk_oR (M_isWanted st x15 v5 v6) fun x27 =>
  if x27 = 0 then (sk_oR (M_superOf st v7) fun x39 =>
  self3 (v1, v2, v3, v4, v5, v6, x39)) else some x15
def M_look (N : Nat) (st : sk_M) (v1 : Int32) (v2 : Int32) (v3 : Int32) (v4 : Int32) (v5 : Int32) (v6 : Int32) : Option Int32 :=
  sk_lp N (M_look_L3 N st (fun v1 v2 v3 v4 v5 v6 => M_look_J47 N st v1 v2 v3 v4 v5 v6)) (v1, v2, v3, v4, v5, v6, v1)
def M_needClass_J14 (st : sk_M) (v1 : Int32) : Option sk_M :=
  sk_wI 10 35 v1 (vp_nar .boolean (1 : Int32)) st fun st20 =>
  some st20
def M_needClass (st : sk_M) (v1 : Int32) : Option sk_M :=
  sk_rI 10 35 v1 st fun x5 =>
  if x5 = 0 then (sk_fI 6 (1 : Int32) st fun st11 =>
  M_needClass_J14 st11 v1) else M_needClass_J14 st v1
def M_make_J14 (st : sk_M) (v1 : Int32) : Option sk_M :=
  sk_wI 10 36 v1 (vp_nar .boolean (1 : Int32)) st fun st20 =>
  some st20
def M_make (st : sk_M) (v1 : Int32) : Option sk_M :=
  sk_rI 10 36 v1 st fun x5 =>
  if x5 = 0 then (sk_fI 6 (1 : Int32) st fun st11 =>
  M_make_J14 st11 v1) else M_make_J14 st v1
def M_start_J14 (st : sk_M) (v1 : Int32) : Option sk_M :=
  sk_wI 10 37 v1 (vp_nar .boolean (1 : Int32)) st fun st20 =>
  some st20
def M_start (st : sk_M) (v1 : Int32) : Option sk_M :=
  sk_rI 10 37 v1 st fun x5 =>
  if x5 = 0 then (sk_fI 6 (1 : Int32) st fun st11 =>
  M_start_J14 st11 v1) else M_start_J14 st v1
def M_needMember_J19 (st : sk_M) (v1 : Int32) : Option sk_M :=
  sk_wI 40 38 v1 (vp_nar .boolean (1 : Int32)) st fun st25 =>
  some st25
def M_needMember (st : sk_M) (v1 : Int32) : Option sk_M :=
  if 0 ≤ v1 then (sk_rI 40 38 v1 st fun x10 =>
  if x10 = 0 then (sk_fI 6 (1 : Int32) st fun st16 =>
  M_needMember_J19 st16 v1) else M_needMember_J19 st v1) else some st
def M_byRules_J156 (N : Nat) (self2 : (sk_M × Int32) → Option sk_M) (st : sk_M) (v1 : Int32) : Option sk_M :=
  self2 (st, (v1 + 1))
def M_byRules_J140 (N : Nat) (ke156 : sk_M → Int32 → Option sk_M) (self85 : (sk_M × Int32 × Int32) → Option sk_M) (st : sk_M) (v1 : Int32) (v2 : Int32) (s0 : Int32) : Option sk_M :=
  if s0 = 0 then (self85 (st, v1, (v2 + 1))) else sk_oR (M_needMember st v2) fun st147 =>
  self85 (st147, v1, (v2 + 1))
def M_byRules_J139 (N : Nat) (ke156 : sk_M → Int32 → Option sk_M) (self85 : (sk_M × Int32 × Int32) → Option sk_M) (st : sk_M) (v1 : Int32) (v2 : Int32) : Option sk_M :=
  M_byRules_J140 N ke156 self85 st v1 v2 (0 : Int32)
def M_byRules_J126 (N : Nat) (ke156 : sk_M → Int32 → Option sk_M) (self85 : (sk_M × Int32 × Int32) → Option sk_M) (st : sk_M) (v1 : Int32) (v2 : Int32) : Option sk_M :=
  sk_oW (M_isMeant N st v1 v2) fun x129 st129 =>
  if x129 = 0 then (M_byRules_J139 N ke156 self85 st129 v1 v2) else M_byRules_J140 N ke156 self85 st129 v1 v2 (1 : Int32)
def M_byRules_L85 (N : Nat) (ke156 : sk_M → Int32 → Option sk_M) (self85 : (sk_M × Int32 × Int32) → Option sk_M) : (sk_M × Int32 × Int32) → Option sk_M := fun z => match z with
  | (st, v1, v2) => if (st.1 0 0) ≤ v2 then (ke156 st v1) else sk_rI 8 20 v1 st fun x98 =>
  if x98 = 0 then (M_byRules_J126 N ke156 self85 st v1 v2) else sk_rI 8 20 v1 st fun x107 =>
  if x107 = (2 : Int32) then (sk_rI 40 8 v2 st fun x121 =>
  sk_rI 10 35 x121 st fun x122 =>
  if x122 = 0 then (M_byRules_J139 N ke156 self85 st v1 v2) else M_byRules_J126 N ke156 self85 st v1 v2) else M_byRules_J139 N ke156 self85 st v1 v2
def M_byRules_J83 (N : Nat) (self2 : (sk_M × Int32) → Option sk_M) (st : sk_M) (v1 : Int32) : Option sk_M :=
  sk_lp N (M_byRules_L85 N (fun st v1 => M_byRules_J156 N self2 st v1)) (st, v1, (1 : Int32))
def M_byRules_L12 (N : Nat) (ke83 : sk_M → Int32 → Option sk_M) (self12 : (sk_M × Int32 × Int32) → Option sk_M) : (sk_M × Int32 × Int32) → Option sk_M := fun z => match z with
  | (st, v1, v2) => if (10 : Int32) ≤ v2 then (ke83 st v1) else sk_rI 80 39 (((10 : Int32) * v1) + v2) st fun x28 =>
  if x28 = 0 then (self12 (st, v1, (v2 + 1))) else sk_rI 8 20 v1 st fun x37 =>
  if x37 = 0 then (sk_oR (M_needClass st v2) fun st46 =>
  sk_oR (M_start st46 v2) fun st51 =>
  sk_rI 10 3 v2 st51 fun x59 =>
  if x59 = 0 then (sk_rI 10 2 v2 st51 fun x68 =>
  if x68 = 0 then (sk_oR (M_make st51 v2) fun st74 =>
  self12 (st74, v1, (v2 + 1))) else self12 (st51, v1, (v2 + 1))) else self12 (st51, v1, (v2 + 1))) else self12 (st, v1, (v2 + 1))
def M_byRules_L2 (N : Nat) (self2 : (sk_M × Int32) → Option sk_M) : (sk_M × Int32) → Option sk_M := fun z => match z with
  | (st, v1) => if (st.1 0 3) ≤ v1 then (some st) else sk_lp N (M_byRules_L12 N (fun st v1 => M_byRules_J83 N self2 st v1)) (st, v1, (1 : Int32))
def M_byRules (N : Nat) (st : sk_M) : Option sk_M :=
  sk_lp N (M_byRules_L2 N) (st, (0 : Int32))
def M_byClasses_L140 (N : Nat) (self140 : (sk_M × Int32) → Option sk_M) : (sk_M × Int32) → Option sk_M := fun z => match z with
  | (st, v1) => if (st.1 0 0) ≤ v1 then (some st) else sk_rI 40 38 v1 st fun x153 =>
  if x153 = 0 then (self140 (st, (v1 + 1))) else sk_rI 40 8 v1 st fun x163 =>
  sk_oR (M_needClass st x163) fun st164 =>
  self140 (st164, (v1 + 1))
def M_byClasses_J138 (N : Nat) (st : sk_M) : Option sk_M :=
  sk_lp N (M_byClasses_L140 N) (st, (0 : Int32))
def M_byClasses_J107 (N : Nat) (ke138 : sk_M → Option sk_M) (self2 : (sk_M × Int32) → Option sk_M) (st : sk_M) (v1 : Int32) : Option sk_M :=
  sk_rI 10 36 v1 st fun x112 =>
  if x112 = 0 then (self2 (st, (v1 + 1))) else sk_oR (M_look N st v1 (1 : Int32) (0 : Int32) (0 : Int32) (1 : Int32) (0 : Int32)) fun x123 =>
  sk_oR (M_needMember st x123) fun st129 =>
  self2 (st129, (v1 + 1))
def M_byClasses_J77 (N : Nat) (ke138 : sk_M → Option sk_M) (self2 : (sk_M × Int32) → Option sk_M) (st : sk_M) (v1 : Int32) : Option sk_M :=
  sk_oR (M_own N st v1 (1 : Int32) (7 : Int32) (0 : Int32)) fun x83 =>
  if x83 < 0 then (M_byClasses_J107 N ke138 self2 st v1) else sk_rI 40 11 x83 st fun x96 =>
  if (x96 &&& (2 : Int32)) = 0 then (M_byClasses_J107 N ke138 self2 st v1) else sk_oR (M_needMember st x83) fun st104 =>
  M_byClasses_J107 N ke138 self2 st104 v1
def M_byClasses_J59 (N : Nat) (ke138 : sk_M → Option sk_M) (self2 : (sk_M × Int32) → Option sk_M) (st : sk_M) (v1 : Int32) (v2 : Int32) : Option sk_M :=
  sk_rI 10 37 v1 st fun x64 =>
  if x64 = 0 then (M_byClasses_J107 N ke138 self2 st v1) else if v1 ≤ 0 then (M_byClasses_J77 N ke138 self2 st v1) else sk_oR (M_start st v2) fun st74 =>
  M_byClasses_J77 N ke138 self2 st74 v1
def M_byClasses_L34 (N : Nat) (ke59 : sk_M → Int32 → Int32 → Option sk_M) (self34 : (sk_M × Int32 × Int32 × Int32) → Option sk_M) : (sk_M × Int32 × Int32 × Int32) → Option sk_M := fun z => match z with
  | (st, v1, v2, v3) => if v1 ≤ v3 then (ke59 st v1 v2) else sk_oR (M_hasFace st v1 v3) fun x42 =>
  if x42 = 0 then (self34 (st, v1, v2, (v3 + 1))) else sk_oR (M_needClass st v3) fun st50 =>
  self34 (st50, v1, v2, (v3 + 1))
def M_byClasses_L2 (N : Nat) (ke138 : sk_M → Option sk_M) (self2 : (sk_M × Int32) → Option sk_M) : (sk_M × Int32) → Option sk_M := fun z => match z with
  | (st, v1) => if (10 : Int32) ≤ v1 then (ke138 st) else sk_oR (M_superOf st v1) fun x10 =>
  sk_rI 10 35 v1 st fun x19 =>
  if x19 = 0 then (M_byClasses_J59 N ke138 self2 st v1 x10) else if v1 ≤ 0 then (M_byClasses_J59 N ke138 self2 st v1 x10) else sk_oR (M_needClass st x10) fun st29 =>
  sk_lp N (M_byClasses_L34 N (fun st v1 v2 => M_byClasses_J59 N ke138 self2 st v1 v2)) (st29, v1, x10, (1 : Int32))
def M_byClasses (N : Nat) (st : sk_M) : Option sk_M :=
  sk_lp N (M_byClasses_L2 N (fun st => M_byClasses_J138 N st)) (st, (0 : Int32))
def M_byReference_J170 (N : Nat) (self125 : (sk_M × Int32 × Int32 × Int32 × Int32) → Option sk_M) (st : sk_M) (v1 : Int32) (v2 : Int32) (v3 : Int32) (v5 : Int32) : Option sk_M :=
  sk_rI 60 16 v1 st fun x179 =>
  sk_rI 60 17 v1 st fun x185 =>
  sk_oR (M_look N st v5 (1 : Int32) x179 x185 (1 : Int32) (0 : Int32)) fun x188 =>
  sk_oR (M_needMember st x188) fun st196 =>
  self125 (st196, v1, v2, v3, (v5 + 1))
def M_byReference_L125 (N : Nat) (self125 : (sk_M × Int32 × Int32 × Int32 × Int32) → Option sk_M) : (sk_M × Int32 × Int32 × Int32 × Int32) → Option sk_M := fun z => match z with
  | (st, v1, v2, v3, v5) => if (10 : Int32) ≤ v5 then (some st) else if v3 = (5 : Int32) then (sk_rI 10 36 v5 st fun x143 =>
  if x143 = 0 then (self125 (st, v1, v2, v3, (v5 + 1))) else if v5 = v2 then (M_byReference_J170 N self125 st v1 v2 v3 v5) else sk_rI 10 7 v5 st fun x159 =>
  if ((x159 >>> (v2 &&& 31)) &&& (1 : Int32)) = 0 then (self125 (st, v1, v2, v3, (v5 + 1))) else M_byReference_J170 N self125 st v1 v2 v3 v5) else some st
def M_byReference_J122 (N : Nat) (st : sk_M) (v1 : Int32) (v2 : Int32) (v3 : Int32) : Option sk_M :=
  sk_lp N (M_byReference_L125 N) (st, v1, v2, v3, (0 : Int32))
def M_byReference_J69 (N : Nat) (st : sk_M) (v1 : Int32) (v2 : Int32) (v3 : Int32) (s1 : Int32) (s2 : Int32) : Option sk_M :=
  sk_rI 60 16 v1 st fun x74 =>
  sk_rI 60 17 v1 st fun x80 =>
  sk_oR (M_look N st s1 s2 x74 x80 (0 : Int32) (0 : Int32)) fun x83 =>
  sk_oR (M_needMember st x83) fun st91 =>
  if x83 < 0 then (M_byReference_J122 N st91 v1 v2 v3) else sk_rI 40 11 x83 st91 fun x105 =>
  if (x105 &&& (2 : Int32)) = 0 then (M_byReference_J122 N st91 v1 v2 v3) else sk_rI 40 8 x83 st91 fun x118 =>
  sk_oR (M_start st91 x118) fun st119 =>
  M_byReference_J122 N st119 v1 v2 v3
def M_byReference_J51 (N : Nat) (st : sk_M) (v1 : Int32) (v2 : Int32) (v3 : Int32) : Option sk_M :=
  if (2 : Int32) ≤ v3 then (if v3 = (2 : Int32) then (M_byReference_J69 N st v1 v2 v3 v2 (0 : Int32)) else M_byReference_J69 N st v1 v2 v3 v2 (1 : Int32)) else some st
def M_byReference (N : Nat) (st : sk_M) (v1 : Int32) : Option sk_M :=
  sk_rI 60 15 v1 st fun x5 =>
  sk_rI 60 14 v1 st fun x12 =>
  sk_oR (M_needClass st x5) fun st16 =>
  if x12 = 0 then (sk_rI 10 3 x5 st16 fun x28 =>
  if x28 = 0 then (sk_rI 10 2 x5 st16 fun x37 =>
  if x37 = 0 then (sk_oR (M_make st16 x5) fun st43 =>
  sk_oR (M_start st43 x5) fun st48 =>
  M_byReference_J51 N st48 v1 x5 x12) else M_byReference_J51 N st16 v1 x5 x12) else M_byReference_J51 N st16 v1 x5 x12) else M_byReference_J51 N st16 v1 x5 x12
def M_isActive (st : sk_M) (v1 : Int32) : Option Int32 :=
  sk_rI 60 13 v1 st fun x9 =>
  sk_rI 40 12 x9 st fun x10 =>
  if x10 = 0 then (sk_rI 60 13 v1 st fun x23 =>
  sk_rI 40 38 x23 st fun x24 =>
  if x24 = 0 then (some (0 : Int32)) else some (1 : Int32)) else some (0 : Int32)
def M_find_J193 (N : Nat) (self130 : (sk_M) → Option sk_M) (st : sk_M) : Option sk_M :=
  self130 st
def M_find_L152 (N : Nat) (ke193 : sk_M → Option sk_M) (self152 : (sk_M × Int32) → Option sk_M) : (sk_M × Int32) → Option sk_M := fun z => match z with
  | (st, v1) => if (st.1 0 1) ≤ v1 then (ke193 st) else sk_oR (M_isActive st v1) fun x162 =>
  if x162 = 0 then (self152 (st, (v1 + 1))) else sk_rI 60 15 v1 st fun x177 =>
  sk_rI 10 1 x177 st fun x178 =>
  if x178 = 0 then (self152 (st, (v1 + 1))) else sk_oR (M_byReference N st v1) fun st184 =>
  self152 (st184, (v1 + 1))
def M_find_L130 (N : Nat) (self130 : (sk_M) → Option sk_M) : (sk_M) → Option sk_M := fun st => if (st.1 0 6) = 0 then (some st) else sk_fI 6 (0 : Int32) st fun st139 =>
  sk_oR (M_byRules N st139) fun st143 =>
  sk_oR (M_byClasses N st143) fun st147 =>
  sk_lp N (M_find_L152 N (fun st => M_find_J193 N self130 st)) (st147, (0 : Int32))
def M_find_J125 (N : Nat) (st : sk_M) : Option sk_M :=
  sk_fI 6 (1 : Int32) st fun st127 =>
  sk_lp N (M_find_L130 N) st127
def M_find_J118 (N : Nat) (ke125 : sk_M → Option sk_M) (self98 : (sk_M × Int32) → Option sk_M) (st : sk_M) (v1 : Int32) (s1 : Int32) (s2 : Int32) : Option sk_M :=
  sk_wI 40 38 s1 (vp_nar .boolean s2) st fun st118 =>
  self98 (st118, (v1 + 1))
def M_find_L98 (N : Nat) (ke125 : sk_M → Option sk_M) (self98 : (sk_M × Int32) → Option sk_M) : (sk_M × Int32) → Option sk_M := fun z => match z with
  | (st, v1) => if (40 : Int32) ≤ v1 then (ke125 st) else if v1 = 0 then (M_find_J118 N ke125 self98 st v1 v1 (1 : Int32)) else M_find_J118 N ke125 self98 st v1 v1 (0 : Int32)
def M_find_J96 (N : Nat) (st : sk_M) : Option sk_M :=
  sk_lp N (M_find_L98 N (fun st => M_find_J125 N st)) (st, (0 : Int32))
def M_find_J75 (N : Nat) (ke96 : sk_M → Option sk_M) (self55 : (sk_M × Int32) → Option sk_M) (st : sk_M) (v1 : Int32) (s1 : Int32) (s2 : Int32) : Option sk_M :=
  sk_wI 10 35 s1 (vp_nar .boolean s2) st fun st75 =>
  sk_wI 10 36 v1 (vp_nar .boolean (0 : Int32)) st75 fun st82 =>
  sk_wI 10 37 v1 (vp_nar .boolean (0 : Int32)) st82 fun st89 =>
  self55 (st89, (v1 + 1))
def M_find_L55 (N : Nat) (ke96 : sk_M → Option sk_M) (self55 : (sk_M × Int32) → Option sk_M) : (sk_M × Int32) → Option sk_M := fun z => match z with
  | (st, v1) => if (10 : Int32) ≤ v1 then (ke96 st) else if v1 = 0 then (M_find_J75 N ke96 self55 st v1 v1 (1 : Int32)) else M_find_J75 N ke96 self55 st v1 v1 (0 : Int32)
def M_find_J53 (N : Nat) (st : sk_M) : Option sk_M :=
  sk_lp N (M_find_L55 N (fun st => M_find_J96 N st)) (st, (0 : Int32))
def M_find_J47 (N : Nat) (ke53 : sk_M → Option sk_M) (self6 : (sk_M × Int32) → Option sk_M) (st : sk_M) (v1 : Int32) : Option sk_M :=
  self6 (st, (v1 + 1))
def M_find_L16 (N : Nat) (ke47 : sk_M → Int32 → Option sk_M) (self16 : (sk_M × Int32 × Int32) → Option sk_M) : (sk_M × Int32 × Int32) → Option sk_M := fun z => match z with
  | (st, v1, v2) => if (10 : Int32) ≤ v2 then (ke47 st v1) else sk_oW (M_isAbout N st v1 v2) fun x25 st25 =>
  sk_wI 80 39 (((10 : Int32) * v1) + v2) (vp_nar .boolean x25) st25 fun st40 =>
  self16 (st40, v1, (v2 + 1))
def M_find_L6 (N : Nat) (ke53 : sk_M → Option sk_M) (self6 : (sk_M × Int32) → Option sk_M) : (sk_M × Int32) → Option sk_M := fun z => match z with
  | (st, v1) => if (st.1 0 3) ≤ v1 then (ke53 st) else sk_lp N (M_find_L16 N (fun st v1 => M_find_J47 N ke53 self6 st v1)) (st, v1, (0 : Int32))
def M_find (N : Nat) (st : sk_M) : Option sk_M :=
  sk_oR (M_order N st) fun st1 =>
  sk_lp N (M_find_L6 N (fun st => M_find_J53 N st)) (st1, (0 : Int32))
def M_keepsName_L8 (N : Nat) (st : sk_M) (self8 : (Int32 × Int32) → Option Int32) : (Int32 × Int32) → Option Int32 := fun z => match z with
  | (v1, v2) => if (st.1 0 3) ≤ v2 then (some (0 : Int32)) else sk_rI 8 20 v2 st fun x21 =>
  if (2 : Int32) ≤ x21 then (self8 (v1, (v2 + 1))) else sk_rI 80 39 (((10 : Int32) * v2) + v1) st fun x36 =>
  if x36 = 0 then (self8 (v1, (v2 + 1))) else some (1 : Int32)
def M_keepsName (N : Nat) (st : sk_M) (v1 : Int32) : Option Int32 :=
  if v1 = 0 then (some (1 : Int32)) else sk_lp N (M_keepsName_L8 N st) (v1, (0 : Int32))
def M_keepsText_J149 (N : Nat) (self23 : (sk_M × Int32 × Int32 × Int32 × Int32) → Option (Int32 × sk_M)) (st : sk_M) (v1 : Int32) (v2 : Int32) (v3 : Int32) (v4 : Int32) : Option (Int32 × sk_M) :=
  self23 (st, v1, v2, v3, (v4 + 1))
def M_keepsText_J134 (N : Nat) (ke149 : sk_M → Int32 → Int32 → Int32 → Int32 → Option (Int32 × sk_M)) (self83 : (sk_M × Int32 × Int32 × Int32 × Int32 × Int32) → Option (Int32 × sk_M)) (st : sk_M) (v1 : Int32) (v2 : Int32) (v3 : Int32) (v4 : Int32) (v5 : Int32) (s0 : Int32) : Option (Int32 × sk_M) :=
  if s0 = 0 then (self83 (st, v1, v2, v3, v4, (v5 + 1))) else some ((1 : Int32), st)
def M_keepsText_J133 (N : Nat) (ke149 : sk_M → Int32 → Int32 → Int32 → Int32 → Option (Int32 × sk_M)) (self83 : (sk_M × Int32 × Int32 × Int32 × Int32 × Int32) → Option (Int32 × sk_M)) (st : sk_M) (v1 : Int32) (v2 : Int32) (v3 : Int32) (v4 : Int32) (v5 : Int32) : Option (Int32 × sk_M) :=
  M_keepsText_J134 N ke149 self83 st v1 v2 v3 v4 v5 (0 : Int32)
def M_keepsText_J118 (N : Nat) (ke149 : sk_M → Int32 → Int32 → Int32 → Int32 → Option (Int32 × sk_M)) (self83 : (sk_M × Int32 × Int32 × Int32 × Int32 × Int32) → Option (Int32 × sk_M)) (st : sk_M) (v1 : Int32) (v2 : Int32) (v3 : Int32) (v4 : Int32) (v5 : Int32) : Option (Int32 × sk_M) :=
  sk_oW (M_isMeant N st v5 v4) fun x123 st123 =>
  if x123 = 0 then (M_keepsText_J133 N ke149 self83 st123 v1 v2 v3 v4 v5) else M_keepsText_J134 N ke149 self83 st123 v1 v2 v3 v4 v5 (1 : Int32)
def M_keepsText_L83 (N : Nat) (ke149 : sk_M → Int32 → Int32 → Int32 → Int32 → Option (Int32 × sk_M)) (self83 : (sk_M × Int32 × Int32 × Int32 × Int32 × Int32) → Option (Int32 × sk_M)) : (sk_M × Int32 × Int32 × Int32 × Int32 × Int32) → Option (Int32 × sk_M) := fun z => match z with
  | (st, v1, v2, v3, v4, v5) => if (st.1 0 3) ≤ v5 then (ke149 st v1 v2 v3 v4) else sk_rI 8 20 v5 st fun x98 =>
  if x98 = (2 : Int32) then (sk_rI 40 8 v4 st fun x113 =>
  sk_rI 10 35 x113 st fun x114 =>
  if x114 = 0 then (M_keepsText_J133 N ke149 self83 st v1 v2 v3 v4 v5) else M_keepsText_J118 N ke149 self83 st v1 v2 v3 v4 v5) else M_keepsText_J118 N ke149 self83 st v1 v2 v3 v4 v5
def M_keepsText_L23 (N : Nat) (self23 : (sk_M × Int32 × Int32 × Int32 × Int32) → Option (Int32 × sk_M)) : (sk_M × Int32 × Int32 × Int32 × Int32) → Option (Int32 × sk_M) := fun z => match z with
  | (st, v1, v2, v3, v4) => if (st.1 0 0) ≤ v4 then (some ((0 : Int32), st)) else sk_rI 40 12 v4 st fun x38 =>
  if x38 = 0 then (sk_rI 40 11 v4 st fun x48 =>
  if (x48 &&& (1 : Int32)) = v1 then (sk_rI 40 9 v4 st fun x61 =>
  if x61 = v2 then (sk_rI 40 10 v4 st fun x72 =>
  if x72 = v3 then (sk_lp N (M_keepsText_L83 N (fun st v1 v2 v3 v4 => M_keepsText_J149 N self23 st v1 v2 v3 v4)) (st, v1, v2, v3, v4, (0 : Int32))) else M_keepsText_J149 N self23 st v1 v2 v3 v4) else M_keepsText_J149 N self23 st v1 v2 v3 v4) else M_keepsText_J149 N self23 st v1 v2 v3 v4) else M_keepsText_J149 N self23 st v1 v2 v3 v4
def M_keepsText_J20 (N : Nat) (st : sk_M) (v1 : Int32) (v2 : Int32) (v3 : Int32) : Option (Int32 × sk_M) :=
  sk_lp N (M_keepsText_L23 N) (st, v1, v2, v3, (1 : Int32))
def M_keepsText (N : Nat) (st : sk_M) (v1 : Int32) (v2 : Int32) (v3 : Int32) : Option (Int32 × sk_M) :=
  if v1 = (1 : Int32) then (if (5 : Int32) < v2 then (some ((1 : Int32), st)) else if v2 = 0 then (if v3 = 0 then (some ((1 : Int32), st)) else M_keepsText_J20 N st v1 v2 v3) else M_keepsText_J20 N st v1 v2 v3) else M_keepsText_J20 N st v1 v2 v3
def M_isUsed_L3 (N : Nat) (st : sk_M) (self3 : (Int32 × Int32 × Int32 × Int32) → Option Int32) : (Int32 × Int32 × Int32 × Int32) → Option Int32 := fun z => match z with
  | (v1, v2, v3, v4) => if (st.1 0 0) ≤ v4 then (some (0 : Int32)) else sk_rI 40 12 v4 st fun x18 =>
  if x18 = 0 then (sk_rI 40 38 v4 st fun x28 =>
  if x28 = 0 then (self3 (v1, v2, v3, (v4 + 1))) else sk_rI 40 11 v4 st fun x38 =>
  if (x38 &&& (1 : Int32)) = v1 then (sk_rI 40 9 v4 st fun x51 =>
  if x51 = v2 then (sk_rI 40 10 v4 st fun x62 =>
  if x62 = v3 then (some (1 : Int32)) else self3 (v1, v2, v3, (v4 + 1))) else self3 (v1, v2, v3, (v4 + 1))) else self3 (v1, v2, v3, (v4 + 1))) else self3 (v1, v2, v3, (v4 + 1))
def M_isUsed (N : Nat) (st : sk_M) (v1 : Int32) (v2 : Int32) (v3 : Int32) : Option Int32 :=
  sk_lp N (M_isUsed_L3 N st) (v1, v2, v3, (0 : Int32))
def M_newName_J59 (N : Nat) (st : sk_M) (v3 : Int32) : Option sk_M :=
  sk_fI 5 (0 : Int32) st fun st61 =>
  sk_oR (M_put st61 ((97 : Int32) + v3)) fun st69 =>
  some st69
def M_newName_L21 (N : Nat) (ke59 : sk_M → Int32 → Option sk_M) (self21 : (sk_M × Int32 × Int32 × Int32) → Option sk_M) : (sk_M × Int32 × Int32 × Int32) → Option sk_M := fun z => match z with
  | (st, v1, v3, v4) => if v1 ≤ v4 then (ke59 st v3) else sk_oR (M_keepsName N st v4) fun x30 =>
  sk_rI 10 35 v4 st fun x41 =>
  if x41 = 0 then (self21 (st, v1, v3, (v4 + 1))) else if x30 = 0 then (self21 (st, v1, (v3 + 1), (v4 + 1))) else self21 (st, v1, v3, (v4 + 1))
def M_newName (N : Nat) (st : sk_M) (v1 : Int32) : Option sk_M :=
  sk_oR (M_keepsName N st v1) fun x2 =>
  if x2 = 0 then (sk_lp N (M_newName_L21 N (fun st v3 => M_newName_J59 N st v3)) (st, v1, (0 : Int32), (1 : Int32))) else sk_oR (M_className st v1) fun st12 =>
  some st12
def M_isKeptLetter (N : Nat) (st : sk_M) (v1 : Int32) (v2 : Int32) (v3 : Int32) : Option (Int32 × sk_M) :=
  if (M_in v3 (114 : Int32) (119 : Int32)) = 0 then (some ((0 : Int32), st)) else sk_oW (M_keepsText N st v1 (v3 - (114 : Int32)) v2) fun x18 st18 =>
  if x18 = 0 then (some ((0 : Int32), st18)) else some ((1 : Int32), st18)
def M_newText_J138 (N : Nat) (st : sk_M) (v4 : Int32) : Option sk_M :=
  sk_fI 5 (0 : Int32) st fun st140 =>
  sk_oR (M_put st140 v4) fun st146 =>
  some st146
def M_newText_J118 (N : Nat) (ke138 : sk_M → Int32 → Option sk_M) (self53 : (sk_M × Int32 × Int32 × Int32 × Int32 × Int32) → Option sk_M) (st : sk_M) (v1 : Int32) (v2 : Int32) (v3 : Int32) (v4 : Int32) (v6 : Int32) : Option sk_M :=
  sk_rI 40 9 v1 st fun x125 =>
  if x125 ≤ v6 then (self53 (st, v1, v2, v3, v4, (v6 + 1))) else self53 (st, v1, v2, v3, (v4 + 1), (v6 + 1))
def M_newText_L101 (N : Nat) (ke118 : sk_M → Int32 → Int32 → Int32 → Int32 → Int32 → Option sk_M) (self101 : (sk_M × Int32 × Int32 × Int32 × Int32 × Int32) → Option sk_M) : (sk_M × Int32 × Int32 × Int32 × Int32 × Int32) → Option sk_M := fun z => match z with
  | (st, v1, v2, v3, v4, v6) => sk_oW (M_isKeptLetter N st v2 v3 v4) fun x106 st106 =>
  if x106 = 0 then (ke118 st106 v1 v2 v3 v4 v6) else self101 (st106, v1, v2, v3, (v4 + 1), v6)
def M_newText_J91 (N : Nat) (ke138 : sk_M → Int32 → Option sk_M) (self53 : (sk_M × Int32 × Int32 × Int32 × Int32 × Int32) → Option sk_M) (st : sk_M) (v1 : Int32) (v2 : Int32) (v3 : Int32) (v4 : Int32) (v6 : Int32) (s0 : Int32) : Option sk_M :=
  if s0 = 0 then (self53 (st, v1, v2, v3, v4, (v6 + 1))) else sk_lp N (M_newText_L101 N (fun st v1 v2 v3 v4 v6 => M_newText_J118 N ke138 self53 st v1 v2 v3 v4 v6)) (st, v1, v2, v3, v4, v6)
def M_newText_J90 (N : Nat) (ke138 : sk_M → Int32 → Option sk_M) (self53 : (sk_M × Int32 × Int32 × Int32 × Int32 × Int32) → Option sk_M) (st : sk_M) (v1 : Int32) (v2 : Int32) (v3 : Int32) (v4 : Int32) (v6 : Int32) : Option sk_M :=
  M_newText_J91 N ke138 self53 st v1 v2 v3 v4 v6 (0 : Int32)
def M_newText_L53 (N : Nat) (ke138 : sk_M → Int32 → Option sk_M) (self53 : (sk_M × Int32 × Int32 × Int32 × Int32 × Int32) → Option sk_M) : (sk_M × Int32 × Int32 × Int32 × Int32 × Int32) → Option sk_M := fun z => match z with
  | (st, v1, v2, v3, v4, v6) => sk_rI 40 9 v1 st fun x60 =>
  if x60 < v6 then (ke138 st v4) else sk_oR (M_isUsed N st v2 v6 v3) fun x69 =>
  if x69 = 0 then (M_newText_J90 N ke138 self53 st v1 v2 v3 v4 v6) else sk_oW (M_keepsText N st v2 v6 v3) fun x80 st80 =>
  if x80 = 0 then (M_newText_J91 N ke138 self53 st80 v1 v2 v3 v4 v6 (1 : Int32)) else M_newText_J90 N ke138 self53 st80 v1 v2 v3 v4 v6
def M_newText (N : Nat) (st : sk_M) (v1 : Int32) : Option sk_M :=
  sk_rI 40 11 v1 st fun x5 =>
  sk_rI 40 10 v1 st fun x14 =>
  sk_rI 40 9 v1 st fun x27 =>
  sk_oW (M_keepsText N st (x5 &&& (1 : Int32)) x27 x14) fun x29 st29 =>
  if x29 = 0 then (sk_lp N (M_newText_L53 N (fun st v4 => M_newText_J138 N st v4)) (st29, v1, (x5 &&& (1 : Int32)), x14, (97 : Int32), (0 : Int32))) else sk_rI 40 9 v1 st29 fun x45 =>
  sk_oR (M_wordText st29 x45) fun st46 =>
  some st46
def M_needs_J157 (N : Nat) (st : sk_M) (v2 : Int32) (v3 : Int32) (v4 : Int32) (s0 : Int32) : Option (Int32 × sk_M) :=
  if v2 = (4 : Int32) then (some (v4, st)) else if v2 = (5 : Int32) then (some (v3, st)) else if s0 = 0 then (some ((0 : Int32), st)) else some ((1 : Int32), st)
def M_needs_J111 (N : Nat) (st : sk_M) (v1 : Int32) (v2 : Int32) (v3 : Int32) (v4 : Int32) : Option (Int32 × sk_M) :=
  if v2 = 0 then (sk_rI 10 35 v1 st fun x120 =>
  M_needs_J157 N st v2 v3 v4 x120) else if v2 = (1 : Int32) then (sk_rI 10 36 v1 st fun x134 =>
  M_needs_J157 N st v2 v3 v4 x134) else if v2 = (2 : Int32) then (sk_rI 10 37 v1 st fun x148 =>
  M_needs_J157 N st v2 v3 v4 x148) else sk_oR (M_keepsName N st v1) fun x154 =>
  M_needs_J157 N st v2 v3 v4 x154
def M_needs_L82 (N : Nat) (ke111 : sk_M → Int32 → Int32 → Int32 → Int32 → Option (Int32 × sk_M)) (self82 : (sk_M × Int32 × Int32 × Int32 × Int32 × Int32) → Option (Int32 × sk_M)) : (sk_M × Int32 × Int32 × Int32 × Int32 × Int32) → Option (Int32 × sk_M) := fun z => match z with
  | (st, v1, v2, v3, v4, v5) => if (10 : Int32) ≤ v5 then (ke111 st v1 v2 v3 v4) else sk_rI 10 7 v1 st fun x96 =>
  self82 (st, v1, v2, v3, (v4 + ((x96 >>> (v5 &&& 31)) &&& (1 : Int32))), (v5 + 1))
def M_needs_J79 (N : Nat) (st : sk_M) (v1 : Int32) (v2 : Int32) (v3 : Int32) (v4 : Int32) : Option (Int32 × sk_M) :=
  sk_lp N (M_needs_L82 N (fun st v1 v2 v3 v4 => M_needs_J111 N st v1 v2 v3 v4)) (st, v1, v2, v3, v4, (0 : Int32))
def M_needs_L46 (N : Nat) (ke79 : sk_M → Int32 → Int32 → Int32 → Int32 → Option (Int32 × sk_M)) (self46 : (sk_M × Int32 × Int32 × Int32 × Int32 × Int32) → Option (Int32 × sk_M)) : (sk_M × Int32 × Int32 × Int32 × Int32 × Int32) → Option (Int32 × sk_M) := fun z => match z with
  | (st, v1, v2, v3, v4, v5) => if (st.1 0 3) ≤ v5 then (ke79 st v1 v2 v3 v4) else sk_rI 80 39 (((10 : Int32) * v5) + v1) st fun x66 =>
  if x66 = 0 then (self46 (st, v1, v2, v3, v4, (v5 + 1))) else self46 (st, v1, v2, v5, v4, (v5 + 1))
def M_needs (N : Nat) (st : sk_M) (v1 : Int32) (v2 : Int32) : Option (Int32 × sk_M) :=
  if (M_in v2 (0 : Int32) (5 : Int32)) = 0 then (some ((-1 : Int32), st)) else if (M_in v1 (0 : Int32) (9 : Int32)) = 0 then (some ((-2 : Int32), st)) else sk_rI 10 1 v1 st fun x26 =>
  if x26 = 0 then (some ((-2 : Int32), st)) else sk_oR (M_find N st) fun st34 =>
  sk_lp N (M_needs_L46 N (fun st v1 v2 v3 v4 => M_needs_J79 N st v1 v2 v3 v4)) (st34, v1, v2, (-2 : Int32), (0 : Int32), (0 : Int32))
def M_isMember (st : sk_M) (v1 : Int32) : Option Int32 :=
  if (M_in v1 (0 : Int32) ((st.1 0 0) - (1 : Int32))) = 0 then (some (0 : Int32)) else sk_rI 40 12 v1 st fun x19 =>
  if x19 = 0 then (some (1 : Int32)) else some (0 : Int32)
def M_part (N : Nat) (st : sk_M) (v1 : Int32) (v2 : Int32) : Option (Int32 × sk_M) :=
  if (M_in v2 (0 : Int32) (5 : Int32)) = 0 then (some ((-1 : Int32), st)) else sk_oR (M_isMember st v1) fun x13 =>
  if x13 = 0 then (some ((-2 : Int32), st)) else sk_oR (M_find N st) fun st23 =>
  sk_rI 40 11 v1 st23 fun x32 =>
  sk_rI 40 9 v1 st23 fun x40 =>
  sk_rI 40 10 v1 st23 fun x46 =>
  sk_oW (M_keepsText N st23 (x32 &&& (1 : Int32)) x40 x46) fun x47 st47 =>
  if v2 = 0 then (sk_rI 40 38 v1 st47 fun x60 =>
  if x60 = 0 then (some ((0 : Int32), st47)) else some ((1 : Int32), st47)) else if v2 = (1 : Int32) then (if x47 = 0 then (some ((0 : Int32), st47)) else some ((1 : Int32), st47)) else if v2 = (2 : Int32) then (sk_rI 40 8 v1 st47 fun x99 =>
  some (x99, st47)) else if v2 = (3 : Int32) then (sk_rI 40 9 v1 st47 fun x113 =>
  some (x113, st47)) else if v2 = (4 : Int32) then (sk_rI 40 10 v1 st47 fun x127 =>
  some (x127, st47)) else sk_rI 40 11 v1 st47 fun x136 =>
  some (x136, st47)
def M_found_J66 (N : Nat) (st : sk_M) (v3 : Int32) (v4 : Int32) (v5 : Int32) (s1 : Int32) (s2 : Int32) : Option (Int32 × sk_M) :=
  sk_oR (M_look N st s1 s2 v3 v4 (0 : Int32) v5) fun x72 =>
  some (x72, st)
def M_found (N : Nat) (st : sk_M) (v1 : Int32) (v2 : Int32) (v3 : Int32) (v4 : Int32) (v5 : Int32) : Option (Int32 × sk_M) :=
  if (M_in v1 (2 : Int32) (5 : Int32)) = 0 then (some ((-1 : Int32), st)) else if (M_in v2 (0 : Int32) (9 : Int32)) = 0 then (some ((-1 : Int32), st)) else if (M_in v3 (0 : Int32) (7 : Int32)) = 0 then (some ((-1 : Int32), st)) else if (M_in v4 (0 : Int32) (1 : Int32)) = 0 then (some ((-1 : Int32), st)) else sk_oR (M_find N st) fun st42 =>
  sk_rI 10 1 v2 st42 fun x50 =>
  if x50 = 0 then (some ((-2 : Int32), st42)) else if v1 = (2 : Int32) then (M_found_J66 N st42 v3 v4 v5 v2 (0 : Int32)) else M_found_J66 N st42 v3 v4 v5 v2 (1 : Int32)
def M_selected (N : Nat) (st : sk_M) (v1 : Int32) (v2 : Int32) (v3 : Int32) (v4 : Int32) : Option (Int32 × sk_M) :=
  if (M_in v1 (0 : Int32) (9 : Int32)) = 0 then (some ((-1 : Int32), st)) else if (M_in v2 (0 : Int32) (7 : Int32)) = 0 then (some ((-1 : Int32), st)) else if (M_in v3 (0 : Int32) (1 : Int32)) = 0 then (some ((-1 : Int32), st)) else sk_oR (M_find N st) fun st32 =>
  sk_rI 10 1 v1 st32 fun x40 =>
  if x40 = 0 then (some ((-2 : Int32), st32)) else sk_oR (M_look N st32 v1 (1 : Int32) v2 v3 (1 : Int32) v4) fun x52 =>
  some (x52, st32)
def M_name_J93 (N : Nat) (st : sk_M) (v3 : Int32) : Option (Int32 × sk_M) :=
  if v3 = (-1 : Int32) then (some ((st.1 0 5), st)) else if (M_in v3 (0 : Int32) ((st.1 0 5) - (1 : Int32))) = 0 then (some ((-2 : Int32), st)) else sk_rI 16 32 v3 st fun x124 =>
  some (x124, st)
def M_name_J66 (N : Nat) (st : sk_M) (v1 : Int32) (v2 : Int32) (v3 : Int32) (s0 : Int32) : Option (Int32 × sk_M) :=
  if s0 = 0 then (some ((-2 : Int32), st)) else if v1 = 0 then (sk_oR (M_newName N st v2) fun st90 =>
  M_name_J93 N st90 v3) else sk_oR (M_newText N st v2) fun st82 =>
  M_name_J93 N st82 v3
def M_name_J65 (N : Nat) (st : sk_M) (v1 : Int32) (v2 : Int32) (v3 : Int32) : Option (Int32 × sk_M) :=
  M_name_J66 N st v1 v2 v3 (0 : Int32)
def M_name_J29 (N : Nat) (st : sk_M) (v1 : Int32) (v2 : Int32) (v3 : Int32) : Option (Int32 × sk_M) :=
  M_name_J66 N st v1 v2 v3 (0 : Int32)
def M_name (N : Nat) (st : sk_M) (v1 : Int32) (v2 : Int32) (v3 : Int32) : Option (Int32 × sk_M) :=
  sk_oR (M_find N st) fun st1 =>
  if v1 = 0 then (if (M_in v2 (0 : Int32) (9 : Int32)) = 0 then (M_name_J65 N st1 v1 v2 v3) else sk_rI 10 1 v2 st1 fun x48 =>
  if x48 = 0 then (M_name_J65 N st1 v1 v2 v3) else sk_rI 10 35 v2 st1 fun x57 =>
  if x57 = 0 then (M_name_J65 N st1 v1 v2 v3) else M_name_J66 N st1 v1 v2 v3 (1 : Int32)) else sk_oR (M_isMember st1 v2) fun x10 =>
  if x10 = 0 then (M_name_J29 N st1 v1 v2 v3) else sk_rI 40 38 v2 st1 fun x21 =>
  if x21 = 0 then (M_name_J29 N st1 v1 v2 v3) else M_name_J66 N st1 v1 v2 v3 (1 : Int32)
def M_copy_L2 (N : Nat) (self2 : (sk_M × Int32) → Option sk_M) : (sk_M × Int32) → Option sk_M := fun z => match z with
  | (st, v1) => if (st.1 0 5) ≤ v1 then (some st) else sk_rI 16 32 v1 st fun x23 =>
  sk_wI 1500 40 (st.1 0 7) x23 st fun st24 =>
  sk_fI 7 ((st24.1 0 7) + (1 : Int32)) st24 fun st32 =>
  self2 (st32, (v1 + 1))
def M_copy (N : Nat) (st : sk_M) : Option sk_M :=
  sk_lp N (M_copy_L2 N) (st, (0 : Int32))
def M_write (st : sk_M) (v1 : Int32) : Option sk_M :=
  sk_wI 1500 40 (st.1 0 7) v1 st fun st9 =>
  sk_fI 7 ((st9.1 0 7) + (1 : Int32)) st9 fun st17 =>
  some st17
def M_arrow (st : sk_M) : Option sk_M :=
  sk_oR (M_write st (45 : Int32)) fun st3 =>
  sk_oR (M_write st3 (62 : Int32)) fun st9 =>
  sk_oR (M_write st9 (32 : Int32)) fun st15 =>
  some st15
def M_writeMember_J57 (N : Nat) (st : sk_M) (v1 : Int32) : Option sk_M :=
  sk_oR (M_write st (32 : Int32)) fun st60 =>
  sk_oR (M_arrow st60) fun st64 =>
  sk_oR (M_newText N st64 v1) fun st69 =>
  sk_oR (M_copy N st69) fun st73 =>
  sk_oR (M_write st73 (10 : Int32)) fun st79 =>
  some st79
def M_writeMember (N : Nat) (st : sk_M) (v1 : Int32) : Option sk_M :=
  sk_oR (M_write st (32 : Int32)) fun st3 =>
  sk_rI 40 9 v1 st3 fun x12 =>
  sk_oR (M_wordText st3 x12) fun st13 =>
  sk_oR (M_copy N st13) fun st17 =>
  sk_rI 40 11 v1 st17 fun x25 =>
  if (x25 &&& (1 : Int32)) = (1 : Int32) then (sk_oR (M_write st17 (40 : Int32)) fun st35 =>
  sk_rI 40 10 v1 st35 fun x46 =>
  sk_oR (M_write st35 ((48 : Int32) + x46)) fun st48 =>
  sk_oR (M_write st48 (41 : Int32)) fun st54 =>
  M_writeMember_J57 N st54 v1) else M_writeMember_J57 N st17 v1
def M_writeAll_J123 (N : Nat) (self7 : (sk_M × Int32) → Option sk_M) (st : sk_M) (v1 : Int32) : Option sk_M :=
  self7 (st, (v1 + 1))
def M_writeAll_L76 (N : Nat) (ke123 : sk_M → Int32 → Option sk_M) (self76 : (sk_M × Int32 × Int32) → Option sk_M) : (sk_M × Int32 × Int32) → Option sk_M := fun z => match z with
  | (st, v1, v2) => if (st.1 0 0) ≤ v2 then (ke123 st v1) else sk_rI 40 8 v2 st fun x89 =>
  if x89 = v1 then (sk_rI 40 12 v2 st fun x99 =>
  if x99 = 0 then (sk_rI 40 38 v2 st fun x108 =>
  if x108 = 0 then (self76 (st, v1, (v2 + 1))) else sk_oR (M_writeMember N st v2) fun st114 =>
  self76 (st114, v1, (v2 + 1))) else self76 (st, v1, (v2 + 1))) else self76 (st, v1, (v2 + 1))
def M_writeAll_L7 (N : Nat) (self7 : (sk_M × Int32) → Option sk_M) : (sk_M × Int32) → Option sk_M := fun z => match z with
  | (st, v1) => if (10 : Int32) ≤ v1 then (some st) else sk_rI 10 35 v1 st fun x18 =>
  if x18 = 0 then (M_writeAll_J123 N self7 st v1) else sk_rI 10 1 v1 st fun x27 =>
  if x27 = 0 then (M_writeAll_J123 N self7 st v1) else sk_oR (M_className st v1) fun st36 =>
  sk_oR (M_copy N st36) fun st40 =>
  sk_oR (M_write st40 (32 : Int32)) fun st46 =>
  sk_oR (M_arrow st46) fun st50 =>
  sk_oR (M_newName N st50 v1) fun st55 =>
  sk_oR (M_copy N st55) fun st59 =>
  sk_oR (M_write st59 (58 : Int32)) fun st65 =>
  sk_oR (M_write st65 (10 : Int32)) fun st71 =>
  sk_lp N (M_writeAll_L76 N (fun st v1 => M_writeAll_J123 N self7 st v1)) (st71, v1, (1 : Int32))
def M_writeAll (N : Nat) (st : sk_M) : Option sk_M :=
  sk_fI 7 (0 : Int32) st fun st2 =>
  sk_lp N (M_writeAll_L7 N) (st2, (1 : Int32))
def M_mapping (N : Nat) (st : sk_M) (v1 : Int32) : Option (Int32 × sk_M) :=
  sk_oR (M_find N st) fun st1 =>
  sk_oR (M_writeAll N st1) fun st5 =>
  if v1 = (-1 : Int32) then (some ((st5.1 0 7), st5)) else if (M_in v1 (0 : Int32) ((st5.1 0 7) - (1 : Int32))) = 0 then (some ((-2 : Int32), st5)) else sk_rI 1500 40 v1 st5 fun x39 =>
  some (x39, st5)
def M_classNamed_J92 (N : Nat) (self2 : (sk_M × Int32) → Option (Int32 × sk_M)) (st : sk_M) (v1 : Int32) (v2 : Int32) : Option (Int32 × sk_M) :=
  if v2 = 0 then (self2 (st, (v1 + 1))) else some (v1, st)
def M_classNamed_L53 (N : Nat) (ke92 : sk_M → Int32 → Int32 → Option (Int32 × sk_M)) (self53 : (sk_M × Int32 × Int32 × Int32) → Option (Int32 × sk_M)) : (sk_M × Int32 × Int32 × Int32) → Option (Int32 × sk_M) := fun z => match z with
  | (st, v1, v2, v3) => if (st.1 0 5) ≤ v3 then (ke92 st v1 v2) else if v2 = 0 then (ke92 st v1 v2) else sk_rI 16 32 v3 st fun x70 =>
  sk_rI 60 18 v3 st fun x76 =>
  if x70 = x76 then (self53 (st, v1, (1 : Int32), (v3 + 1))) else self53 (st, v1, (0 : Int32), (v3 + 1))
def M_classNamed_J50 (N : Nat) (self2 : (sk_M × Int32) → Option (Int32 × sk_M)) (st : sk_M) (v1 : Int32) (s0 : Int32) : Option (Int32 × sk_M) :=
  sk_lp N (M_classNamed_L53 N (fun st v1 v2 => M_classNamed_J92 N self2 st v1 v2)) (st, v1, s0, (0 : Int32))
def M_classNamed_L2 (N : Nat) (self2 : (sk_M × Int32) → Option (Int32 × sk_M)) : (sk_M × Int32) → Option (Int32 × sk_M) := fun z => match z with
  | (st, v1) => if (10 : Int32) ≤ v1 then (some ((-2 : Int32), st)) else sk_rI 10 1 v1 st fun x13 =>
  if x13 = 0 then (self2 (st, (v1 + 1))) else sk_rI 10 35 v1 st fun x22 =>
  if x22 = 0 then (self2 (st, (v1 + 1))) else sk_oR (M_newName N st v1) fun st31 =>
  if (st31.1 0 5) = (st31.1 0 2) then (M_classNamed_J50 N self2 st31 v1 (1 : Int32)) else M_classNamed_J50 N self2 st31 v1 (0 : Int32)
def M_classNamed (N : Nat) (st : sk_M) : Option (Int32 × sk_M) :=
  sk_lp N (M_classNamed_L2 N) (st, (0 : Int32))
def M_trace_J110 (N : Nat) (self51 : (sk_M × Int32 × Int32 × Int32 × Int32 × Int32) → Option (Int32 × sk_M)) (st : sk_M) (v1 : Int32) (v2 : Int32) (v3 : Int32) (v4 : Int32) (v5 : Int32) (s0 : Int32) : Option (Int32 × sk_M) :=
  if s0 = v3 then (sk_rI 40 10 v5 st fun x120 =>
  if x120 = v2 then (sk_oR (M_newText N st v5) fun st131 =>
  sk_rI 16 32 (0 : Int32) st131 fun x139 =>
  if x139 = v1 then (some (v5, st131)) else self51 (st131, v1, v2, v3, v4, (v5 + 1))) else self51 (st, v1, v2, v3, v4, (v5 + 1))) else self51 (st, v1, v2, v3, v4, (v5 + 1))
def M_trace_L51 (N : Nat) (self51 : (sk_M × Int32 × Int32 × Int32 × Int32 × Int32) → Option (Int32 × sk_M)) : (sk_M × Int32 × Int32 × Int32 × Int32 × Int32) → Option (Int32 × sk_M) := fun z => match z with
  | (st, v1, v2, v3, v4, v5) => if (st.1 0 0) ≤ v5 then (some ((-2 : Int32), st)) else sk_rI 40 12 v5 st fun x66 =>
  if x66 = 0 then (sk_rI 40 38 v5 st fun x76 =>
  if x76 = 0 then (self51 (st, v1, v2, v3, v4, (v5 + 1))) else sk_rI 40 8 v5 st fun x86 =>
  if x86 = v4 then (sk_rI 40 11 v5 st fun x98 =>
  if (x98 &&& (1 : Int32)) = (1 : Int32) then (M_trace_J110 N self51 st v1 v2 v3 v4 v5 (1 : Int32)) else M_trace_J110 N self51 st v1 v2 v3 v4 v5 (0 : Int32)) else self51 (st, v1, v2, v3, v4, (v5 + 1))) else self51 (st, v1, v2, v3, v4, (v5 + 1))
def M_trace_J15 (N : Nat) (st : sk_M) (v1 : Int32) (v2 : Int32) (v3 : Int32) : Option (Int32 × sk_M) :=
  if (M_in v2 (0 : Int32) (1 : Int32)) = 0 then (some ((-1 : Int32), st)) else sk_oR (M_find N st) fun st27 =>
  sk_oW (M_classNamed N st27) fun x31 st31 =>
  if x31 < 0 then (some (x31, st31)) else if v1 = 0 then (some (x31, st31)) else sk_lp N (M_trace_L51 N) (st31, v1, v2, v3, x31, (0 : Int32))
def M_trace (N : Nat) (st : sk_M) (v1 : Int32) (v2 : Int32) (v3 : Int32) : Option (Int32 × sk_M) :=
  if v1 = 0 then (M_trace_J15 N st v1 v2 v3) else if (M_in v1 (97 : Int32) (122 : Int32)) = 0 then (some ((-1 : Int32), st)) else M_trace_J15 N st v1 v2 v3
def M_active_J94 (N : Nat) (st : sk_M) (self4 : (Int32 × Int32 × Int32) → Option Int32) (v1 : Int32) (v2 : Int32) (v3 : Int32) (s0 : Int32) : Option Int32 :=
  if v1 = 0 then (self4 (v1, (v2 + 1), (v3 + 1))) else if s0 = 0 then (self4 (v1, v2, (v3 + 1))) else self4 (v1, (v2 + 1), (v3 + 1))
def M_active_J89 (N : Nat) (st : sk_M) (self4 : (Int32 × Int32 × Int32) → Option Int32) (v1 : Int32) (v2 : Int32) (v3 : Int32) : Option Int32 :=
  M_active_J94 N st self4 v1 v2 v3 (1 : Int32)
def M_active_J93 (N : Nat) (st : sk_M) (self4 : (Int32 × Int32 × Int32) → Option Int32) (v1 : Int32) (v2 : Int32) (v3 : Int32) : Option Int32 :=
  M_active_J94 N st self4 v1 v2 v3 (0 : Int32)
def M_active_J69 (N : Nat) (st : sk_M) (self4 : (Int32 × Int32 × Int32) → Option Int32) (v1 : Int32) (v2 : Int32) (v3 : Int32) (s1 : Int32) (s2 : Int32) : Option Int32 :=
  sk_rI 60 16 v3 st fun x74 =>
  sk_rI 60 17 v3 st fun x80 =>
  sk_oR (M_look N st s1 s2 x74 x80 (0 : Int32) (0 : Int32)) fun x83 =>
  if 0 ≤ x83 then (M_active_J93 N st self4 v1 v2 v3) else M_active_J89 N st self4 v1 v2 v3
def M_active_L4 (N : Nat) (st : sk_M) (self4 : (Int32 × Int32 × Int32) → Option Int32) : (Int32 × Int32 × Int32) → Option Int32 := fun z => match z with
  | (v1, v2, v3) => if (st.1 0 1) ≤ v3 then (some v2) else sk_oR (M_isActive st v3) fun x14 =>
  if x14 = 0 then (self4 (v1, v2, (v3 + 1))) else sk_rI 60 15 v3 st fun x32 =>
  sk_rI 10 1 x32 st fun x33 =>
  if x33 = 0 then (M_active_J89 N st self4 v1 v2 v3) else sk_rI 60 14 v3 st fun x42 =>
  if x42 ≤ (1 : Int32) then (M_active_J93 N st self4 v1 v2 v3) else sk_rI 60 15 v3 st fun x53 =>
  sk_rI 60 14 v3 st fun x59 =>
  if x59 = (2 : Int32) then (M_active_J69 N st self4 v1 v2 v3 x53 (0 : Int32)) else M_active_J69 N st self4 v1 v2 v3 x53 (1 : Int32)
def M_active (N : Nat) (st : sk_M) (v1 : Int32) : Option Int32 :=
  sk_lp N (M_active_L4 N st) (v1, (0 : Int32), (0 : Int32))
def M_classes_J51 (N : Nat) (st : sk_M) (self4 : (Int32 × Int32 × Int32) → Option Int32) (v1 : Int32) (v2 : Int32) (v3 : Int32) : Option Int32 :=
  if v1 = (6 : Int32) then (sk_rI 10 37 v3 st fun x62 =>
  if x62 = 0 then (self4 (v1, v2, (v3 + 1))) else self4 (v1, (v2 + 1), (v3 + 1))) else self4 (v1, v2, (v3 + 1))
def M_classes_J37 (N : Nat) (st : sk_M) (self4 : (Int32 × Int32 × Int32) → Option Int32) (v1 : Int32) (v2 : Int32) (v3 : Int32) : Option Int32 :=
  if v1 = (5 : Int32) then (sk_rI 10 36 v3 st fun x47 =>
  if x47 = 0 then (M_classes_J51 N st self4 v1 v2 v3) else self4 (v1, (v2 + 1), (v3 + 1))) else M_classes_J51 N st self4 v1 v2 v3
def M_classes_L4 (N : Nat) (st : sk_M) (self4 : (Int32 × Int32 × Int32) → Option Int32) : (Int32 × Int32 × Int32) → Option Int32 := fun z => match z with
  | (v1, v2, v3) => if (10 : Int32) ≤ v3 then (some v2) else sk_rI 10 1 v3 st fun x15 =>
  if x15 = 0 then (self4 (v1, v2, (v3 + 1))) else if v1 = 0 then (self4 (v1, (v2 + 1), (v3 + 1))) else if v1 = (4 : Int32) then (sk_rI 10 35 v3 st fun x33 =>
  if x33 = 0 then (M_classes_J37 N st self4 v1 v2 v3) else self4 (v1, (v2 + 1), (v3 + 1))) else M_classes_J37 N st self4 v1 v2 v3
def M_classes (N : Nat) (st : sk_M) (v1 : Int32) : Option Int32 :=
  sk_lp N (M_classes_L4 N st) (v1, (0 : Int32), (0 : Int32))
def M_parts_L4 (N : Nat) (st : sk_M) (self4 : (Int32 × Int32 × Int32) → Option Int32) : (Int32 × Int32 × Int32) → Option Int32 := fun z => match z with
  | (v1, v2, v3) => if (st.1 0 0) ≤ v3 then (some v2) else sk_rI 40 12 v3 st fun x17 =>
  if x17 = 0 then (if v1 = 0 then (self4 (v1, (v2 + 1), (v3 + 1))) else sk_rI 40 38 v3 st fun x30 =>
  if x30 = 0 then (self4 (v1, v2, (v3 + 1))) else self4 (v1, (v2 + 1), (v3 + 1))) else self4 (v1, v2, (v3 + 1))
def M_parts (N : Nat) (st : sk_M) (v1 : Int32) : Option Int32 :=
  sk_lp N (M_parts_L4 N st) (v1, (0 : Int32), (0 : Int32))
def M_count (N : Nat) (st : sk_M) (v1 : Int32) : Option (Int32 × sk_M) :=
  sk_oR (M_find N st) fun st1 =>
  if v1 = 0 then (sk_oR (M_classes N st1 v1) fun x62 =>
  some (x62, st1)) else if v1 = 1 then (sk_oR (M_parts N st1 (0 : Int32)) fun x68 =>
  some (x68, st1)) else if v1 = 2 then (some ((st1.1 0 1), st1)) else if v1 = 3 then (some ((st1.1 0 3), st1)) else if v1 = 4 then (sk_oR (M_classes N st1 v1) fun x62 =>
  some (x62, st1)) else if v1 = 5 then (sk_oR (M_classes N st1 v1) fun x62 =>
  some (x62, st1)) else if v1 = 6 then (sk_oR (M_classes N st1 v1) fun x62 =>
  some (x62, st1)) else if v1 = 7 then (sk_oR (M_parts N st1 (1 : Int32)) fun x84 =>
  some (x84, st1)) else if v1 = 8 then (sk_oR (M_active N st1 (0 : Int32)) fun x90 =>
  some (x90, st1)) else if v1 = 9 then (sk_oR (M_active N st1 (1 : Int32)) fun x96 =>
  some (x96, st1)) else some ((-1 : Int32), st1)
