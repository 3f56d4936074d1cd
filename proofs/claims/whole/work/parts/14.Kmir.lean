def K_Text_wipe (i0 : Nat) (st : sk_M) : Option sk_M :=
  sk_fI i0 (0 : Int32) st fun st2 =>
  some st2
def K_SF_has (v0 : Int64) (v2 : Int32) : Int32 :=
  if v2 < 0 then ((0 : Int32)) else if (64 : Int32) ≤ v2 then ((0 : Int32)) else if (lg_cmp ((v0.toUInt64 >>> (v2.toInt64.toUInt64 &&& Int64.toUInt64 63)).toInt64 &&& (1 : Int64)) (0 : Int64)) = 0 then ((0 : Int32)) else (1 : Int32)
def K_Text_put (i0 : Nat) (st : sk_M) (v1 : Int32) : Option (Int32 × sk_M) :=
  if (st.1 0 i0) < (nI (capT i0)) then (sk_wI (capT i0) (13 + i0) (st.1 0 i0) (vp_nar .char ((v1.toUInt32 % 65536).toInt32)) st fun st24 =>
  sk_fI i0 ((st24.1 0 i0) + (1 : Int32)) st24 fun st32 =>
  some ((1 : Int32), st32)) else some ((0 : Int32), st)
def K_Text_putOldName (i0 : Nat) (st : sk_M) (v1 : Int32) (v2 : Int32) : Option sk_M :=
  sk_oW (K_Text_put i0 st ((111 : Int32) + v1)) fun x5 st5 =>
  sk_oW (K_Text_put i0 st5 (46 : Int32)) fun x12 st12 =>
  sk_oW (K_Text_put i0 st12 ((65 : Int32) + v2)) fun x21 st21 =>
  some st21
def J_coder (j0 : Nat) : Int32 :=
  (0 : Int32)
def J_length (j0 : Nat) : Int32 :=
  ((nI (lenJK.getD j0 0)) >>> ((0 : Int32) &&& 31))
def J_isLatin1 (j0 : Nat) : Int32 :=
  (1 : Int32)
def J_pci (v0 : Int32) (v1 : Int32) : Option Int32 :=
  if v0 < 0 then (none) else if v0 < v1 then (some v0) else none
def J_checkIndex (v0 : Int32) (v1 : Int32) : Option Unit :=
  sk_oR (J_pci v0 v1) fun x5 =>
  some ()
def J_lcharAt (j0 : Nat) (v1 : Int32) : Option Int32 :=
  sk_oR (J_checkIndex v1 (nI (lenJK.getD j0 0))) fun _ =>
  sk_rS j0 v1 fun x8 =>
  some (((x8 &&& (255 : Int32)).toUInt32 % 65536).toInt32)
def J_charAt (j0 : Nat) (v1 : Int32) : Option Int32 :=
  sk_oR (J_lcharAt j0 v1) fun x12 =>
  sk_ckc x12 (some x12)
def K_Text_putAll_L2 (N : Nat) (i0 : Nat) (j1 : Nat) (self2 : (sk_M × Int32) → Option sk_M) : (sk_M × Int32) → Option sk_M := fun z => match z with
  | (st, v2) => if (J_length j1) ≤ v2 then (some st) else sk_oR (J_charAt j1 v2) fun x13 =>
  sk_oW (K_Text_put i0 st x13) fun x16 st16 =>
  self2 (st16, (v2 + 1))
def K_Text_putAll (N : Nat) (i0 : Nat) (j1 : Nat) (st : sk_M) : Option sk_M :=
  sk_lp N (K_Text_putAll_L2 N i0 j1) (st, (0 : Int32))
def K_Names_tellName (i1 : Nat) (st : sk_M) (v2 : Int32) : Option sk_M :=
  if (K_SF_has (st.2 0 2) v2) = 0 then (sk_rI 10 21 v2 st fun x34 =>
  sk_oW (K_Text_put i1 st x34) fun x35 st35 =>
  some st35) else sk_rI 10 35 v2 st fun x20 =>
  sk_oR (K_Text_putOldName i1 st x20 v2) fun st22 =>
  some st22
def K_SF_wordOf (v0 : Int32) : Int32 :=
  ((v0 / (2 : Int32)) - (v0 / (2 : Int32)) / (8 : Int32) * (8 : Int32))
def K_Text_putOldText (N : Nat) (i0 : Nat) (st : sk_M) (v1 : Int32) : Option sk_M :=
  if v1 = (6 : Int32) then (sk_oR (K_Text_putAll N i0 10 st) fun st9 =>
  some st9) else if v1 = (7 : Int32) then (sk_oR (K_Text_putAll N i0 11 st) fun st24 =>
  some st24) else sk_oW (K_Text_put i0 st ((114 : Int32) + v1)) fun x35 st35 =>
  some st35
def K_SF_isMethod (v0 : Int32) : Int32 :=
  if v0 < (16 : Int32) then ((0 : Int32)) else (1 : Int32)
def K_SF_shapeOf (v0 : Int32) : Int32 :=
  (v0 - v0 / (2 : Int32) * (2 : Int32))
def K_Names_tellText (N : Nat) (i1 : Nat) (st : sk_M) (v2 : Int32) : Option sk_M :=
  if (K_SF_has (st.2 0 3) v2) = 0 then (sk_rI 32 22 v2 st fun x28 =>
  sk_oW (K_Text_put i1 st x28) fun x29 st29 =>
  some st29) else sk_oR (K_Text_putOldText N i1 st (K_SF_wordOf v2)) fun st16 =>
  some st16
def K_Mapping_writeMember_J63 (N : Nat) (st : sk_M) (v1 : Int32) : Option sk_M :=
  sk_oR (K_Text_putAll N 3 12 st) fun st69 =>
  sk_oR (K_Names_tellText N 3 st69 v1) fun st81 =>
  sk_oW (K_Text_put 3 st81 (10 : Int32)) fun x90 st90 =>
  some st90
def K_Mapping_writeMember (N : Nat) (st : sk_M) (v1 : Int32) : Option sk_M :=
  sk_oW (K_Text_put 3 st (32 : Int32)) fun x6 st6 =>
  sk_oR (K_Text_putOldText N 3 st6 (K_SF_wordOf v1)) fun st18 =>
  if (K_SF_isMethod v1) = 0 then (K_Mapping_writeMember_J63 N st18 v1) else sk_oW (K_Text_put 3 st18 (40 : Int32)) fun x34 st34 =>
  sk_oW (K_Text_put 3 st34 ((48 : Int32) + (K_SF_shapeOf v1))) fun x49 st49 =>
  sk_oW (K_Text_put 3 st49 (41 : Int32)) fun x59 st59 =>
  K_Mapping_writeMember_J63 N st59 v1
def K_Mapping_writeClass_L49 (N : Nat) (self49 : (sk_M × Int32 × Int32) → Option sk_M) : (sk_M × Int32 × Int32) → Option sk_M := fun z => match z with
  | (st, v1, v2) => if (st.1 0 5) ≤ v2 then (some st) else sk_rI 40 17 v2 st fun x68 =>
  if x68 = v1 then (if (K_SF_has (st.2 0 7) v2) = 0 then (self49 (st, v1, (v2 + 1))) else sk_rI 40 18 v2 st fun x96 =>
  sk_oR (K_Mapping_writeMember N st x96) fun st97 =>
  self49 (st97, v1, (v2 + 1))) else self49 (st, v1, (v2 + 1))
def K_Mapping_writeClass (N : Nat) (st : sk_M) (v1 : Int32) : Option sk_M :=
  sk_rI 10 35 v1 st fun x12 =>
  sk_oR (K_Text_putOldName 3 st x12 v1) fun st14 =>
  sk_oR (K_Text_putAll N 3 12 st14) fun st23 =>
  sk_oR (K_Names_tellName 3 st23 v1) fun st35 =>
  sk_oR (K_Text_putAll N 3 13 st35) fun st44 =>
  sk_lp N (K_Mapping_writeClass_L49 N) (st44, v1, (1 : Int32))
def K_Mapping_write_L22 (N : Nat) (self22 : (sk_M × Int32) → Option sk_M) : (sk_M × Int32) → Option sk_M := fun z => match z with
  | (st, v1) => if (10 : Int32) ≤ v1 then (some st) else if (K_SF_has (st.2 0 4) v1) = 0 then (self22 (st, (v1 + 1))) else sk_oR (K_Mapping_writeClass N st v1) fun st44 =>
  self22 (st44, (v1 + 1))
def K_Mapping_write (N : Nat) (st : sk_M) : Option sk_M :=
  if (st.1 0 4) = 0 then (some st) else sk_fI 4 (0 : Int32) st fun st10 =>
  sk_oR (K_Text_wipe 3 st10) fun st17 =>
  sk_lp N (K_Mapping_write_L22 N) (st17, (1 : Int32))
def J_fill_L5 (N : Nat) (self5 : (sk_M × Int32 × Int32 × Int32) → Option sk_M) : (sk_M × Int32 × Int32 × Int32) → Option sk_M := fun z => match z with
  | (st, v1, v2, v3) => if v3 ≤ v2 then (some st) else sk_wI 320 20 v2 v1 st fun st13 =>
  self5 (st13, v1, (v2 + 1), v3)
def J_fill (N : Nat) (st : sk_M) (v1 : Int32) : Option sk_M :=
  sk_lp N (J_fill_L5 N) (st, v1, (0 : Int32), (nI 320))
def K_SF_bit (v0 : Int32) : Int64 :=
  ((1 : Int64) <<< (v0.toInt64 &&& 63))
def K_Members_add (st : sk_M) (v1 : Int32) (v2 : Int32) (v3 : Int32) : Option (Int32 × sk_M) :=
  if (st.1 0 5) < (40 : Int32) then (sk_fI 5 ((st.1 0 5) + (1 : Int32)) st fun st25 =>
  sk_wI 40 17 (st.1 0 5) v1 st25 fun st35 =>
  sk_wI 40 18 (st.1 0 5) v2 st35 fun st43 =>
  sk_wI 40 19 (st.1 0 5) v3 st43 fun st51 =>
  sk_wI 320 20 ((v1 * (32 : Int32)) + v2) (st.1 0 5) st51 fun st64 =>
  sk_fL 0 ((st64.2 0 0) ||| (K_SF_bit (st.1 0 5))) st64 fun st76 =>
  if v3 = (1 : Int32) then (sk_fL 1 ((st76.2 0 1) ||| (K_SF_bit (st.1 0 5))) st76 fun st95 =>
  some ((st.1 0 5), st95)) else some ((st.1 0 5), st76)) else some ((-3 : Int32), st)
def K_Members_reset (N : Nat) (st : sk_M) : Option sk_M :=
  sk_oR (J_fill N st (-2 : Int32)) fun st6 =>
  sk_fI 5 (0 : Int32) st6 fun st11 =>
  sk_fL 0 (0 : Int64) st11 fun st16 =>
  sk_fL 1 (0 : Int64) st16 fun st21 =>
  sk_oW (K_Members_add st21 (0 : Int32) (16 : Int32) (1 : Int32)) fun x29 st29 =>
  some st29
def K_Members_discard (st : sk_M) (v1 : Int32) : Option sk_M :=
  sk_rI 40 17 v1 st fun x9 =>
  sk_rI 40 18 v1 st fun x18 =>
  sk_wI 320 20 ((x9 * (32 : Int32)) + x18) (-2 : Int32) st fun st22 =>
  sk_fL 0 ((st22.2 0 0) &&& ((K_SF_bit v1) ^^^ (-1 : Int64))) st22 fun st37 =>
  sk_fL 1 ((st37.2 0 1) &&& ((K_SF_bit v1) ^^^ (-1 : Int64))) st37 fun st54 =>
  some st54
def K_Members_isAlive (st : sk_M) (v1 : Int32) : Int32 :=
  (K_SF_has (st.2 0 0) v1)
def K_Members_discardAllOf_L2 (N : Nat) (self2 : (sk_M × Int32 × Int32) → Option sk_M) : (sk_M × Int32 × Int32) → Option sk_M := fun z => match z with
  | (st, v1, v2) => if (st.1 0 5) ≤ v2 then (some st) else if (K_Members_isAlive st v2) = 0 then (self2 (st, v1, (v2 + 1))) else sk_rI 40 17 v2 st fun x23 =>
  if x23 = v1 then (sk_oR (K_Members_discard st v2) fun st30 =>
  self2 (st30, v1, (v2 + 1))) else self2 (st, v1, (v2 + 1))
def K_Members_discardAllOf (N : Nat) (st : sk_M) (v1 : Int32) : Option sk_M :=
  sk_lp N (K_Members_discardAllOf_L2 N) (st, v1, (1 : Int32))
def K_Members_hasFlag (st : sk_M) (v1 : Int32) (v2 : Int32) : Option Int32 :=
  sk_rI 40 19 v1 st fun x5 =>
  if (x5 &&& v2) = 0 then (some (0 : Int32)) else some (1 : Int32)
def K_Members_at (st : sk_M) (v1 : Int32) (v2 : Int32) : Option Int32 :=
  sk_rI 320 20 ((v1 * (32 : Int32)) + v2) st fun x10 =>
  some x10
def K_Members_leastOfFaces_L7 (N : Nat) (st : sk_M) (self7 : (Int64 × Int32 × Int64 × Int32 × Int32) → Option Int32) : (Int64 × Int32 × Int64 × Int32 × Int32) → Option Int32 := fun z => match z with
  | (v1, v3, v4, v6, v7) => if (10 : Int32) ≤ v7 then (some v6) else if (K_SF_has v1 v7) = 0 then (self7 (v1, v3, v4, v6, (v7 + 1))) else sk_oR (K_Members_at st v7 v3) fun x29 =>
  if (K_SF_has v4 x29) = 0 then (self7 (v1, v3, v4, v6, (v7 + 1))) else sk_oR (K_Members_at st v7 v3) fun x42 =>
  if v6 = (-2 : Int32) then (self7 (v1, v3, v4, x42, (v7 + 1))) else self7 (v1, v3, v4, (if x42 < v6 then x42 else v6), (v7 + 1))
def K_Members_leastOfFaces (N : Nat) (st : sk_M) (v1 : Int64) (v3 : Int32) (v4 : Int64) : Option Int32 :=
  sk_lp N (K_Members_leastOfFaces_L7 N st) (v1, v3, v4, (-2 : Int32), (0 : Int32))
def K_Members_find_J70 (N : Nat) (st : sk_M) (v1 : Int32) (v2 : Int32) (v3 : Int64) : Option Int32 :=
  sk_rL 10 42 v1 st fun x79 =>
  sk_oR (K_Members_leastOfFaces N st (x79 &&& (st.2 0 12)) v2 v3) fun x90 =>
  some x90
def K_Members_find_J56 (N : Nat) (st : sk_M) (v2 : Int32) (v5 : Int32) : Option Int32 :=
  sk_oR (K_Members_at st v5 v2) fun x60 =>
  some x60
def K_Members_find_L20 (N : Nat) (st : sk_M) (ke56 : Int32 → Int32 → Option Int32) (ke70 : Int32 → Int32 → Int64 → Option Int32) (self20 : (Int32 × Int32 × Int64 × Int32) → Option Int32) : (Int32 × Int32 × Int64 × Int32) → Option Int32 := fun z => match z with
  | (v1, v2, v3, v5) => if v5 < 0 then (ke70 v1 v2 v3) else sk_rL 10 41 v1 st fun x33 =>
  if (K_SF_has x33 v5) = 0 then (self20 (v1, v2, v3, (v5 + (-1)))) else sk_oR (K_Members_at st v5 v2) fun x47 =>
  if (K_SF_has v3 x47) = 0 then (self20 (v1, v2, v3, (v5 + (-1)))) else ke56 v2 v5
def K_Members_find (N : Nat) (st : sk_M) (v1 : Int32) (v2 : Int32) (v3 : Int64) : Option Int32 :=
  if (K_SF_has (st.2 0 11) v1) = 0 then (some (-2 : Int32)) else sk_lp N (K_Members_find_L20 N st (fun v2 v5 => K_Members_find_J56 N st v2 v5) (fun v1 v2 v3 => K_Members_find_J70 N st v1 v2 v3)) (v1, v2, v3, v1)
def K_SF_signature_J10 (v1 : Int32) (v2 : Int32) (s0 : Int32) : Int32 :=
  ((s0 + (v1 * (2 : Int32))) + v2)
def K_SF_signature (v0 : Int32) (v1 : Int32) (v2 : Int32) : Int32 :=
  if v0 = 0 then (K_SF_signature_J10 v1 v2 (0 : Int32)) else K_SF_signature_J10 v1 v2 (16 : Int32)
def K_Names_keepWhatTheLibraryKnows_L19 (N : Nat) (self19 : (sk_M × Int32) → Option sk_M) : (sk_M × Int32) → Option sk_M := fun z => match z with
  | (st, v1) => if (2 : Int32) ≤ v1 then (some st) else sk_fL 3 ((st.2 0 3) ||| (K_SF_bit (K_SF_signature (1 : Int32) (6 : Int32) v1))) st fun st40 =>
  sk_fL 3 ((st40.2 0 3) ||| (K_SF_bit (K_SF_signature (1 : Int32) (7 : Int32) v1))) st40 fun st59 =>
  self19 (st59, (v1 + 1))
def K_Names_keepWhatTheLibraryKnows (N : Nat) (st : sk_M) : Option sk_M :=
  sk_fL 2 (K_SF_bit (0 : Int32)) st fun st5 =>
  sk_fL 3 (K_SF_bit (16 : Int32)) st5 fun st14 =>
  sk_lp N (K_Names_keepWhatTheLibraryKnows_L19 N) (st14, (0 : Int32))
def K_Needs_ofNeededClasses_L5 (N : Nat) (st : sk_M) (self5 : (Int64 × Int32) → Option Int64) : (Int64 × Int32) → Option Int64 := fun z => match z with
  | (v3, v5) => if (st.1 0 5) ≤ v5 then (some v3) else sk_rI 40 17 v5 st fun x30 =>
  if (K_SF_has (st.2 0 4) x30) = 0 then (self5 ((v3 &&& ((K_SF_bit v5) ^^^ (-1 : Int64))), (v5 + 1))) else self5 (v3, (v5 + 1))
def K_Needs_ofNeededClasses (N : Nat) (st : sk_M) (v1 : Int64) : Option Int64 :=
  sk_lp N (K_Needs_ofNeededClasses_L5 N st) (v1, (0 : Int32))
def K_Names_signaturesOf_L5 (N : Nat) (st : sk_M) (self5 : (Int64 × Int64 × Int32) → Option Int64) : (Int64 × Int64 × Int32) → Option Int64 := fun z => match z with
  | (v1, v3, v5) => if (st.1 0 5) ≤ v5 then (some v3) else if (K_SF_has v1 v5) = 0 then (self5 (v1, v3, (v5 + 1))) else sk_rI 40 18 v5 st fun x36 =>
  self5 (v1, (v3 ||| (K_SF_bit x36)), (v5 + 1))
def K_Names_signaturesOf (N : Nat) (st : sk_M) (v1 : Int64) : Option Int64 :=
  sk_lp N (K_Names_signaturesOf_L5 N st) (v1, (0 : Int64), (0 : Int32))
def K_Names_giveNames_L5 (N : Nat) (self5 : (sk_M × Int32 × Int32) → Option sk_M) : (sk_M × Int32 × Int32) → Option sk_M := fun z => match z with
  | (st, v1, v2) => if (10 : Int32) ≤ v2 then (some st) else if (K_SF_has ((st.2 0 4) &&& ((st.2 0 2) ^^^ (-1 : Int64))) v2) = 0 then (self5 (st, v1, (v2 + 1))) else sk_wI 10 21 v2 (vp_nar .char ((v1.toUInt32 % 65536).toInt32)) st fun st41 =>
  self5 (st41, (v1 + 1), (v2 + 1))
def K_Names_giveNames (N : Nat) (st : sk_M) : Option sk_M :=
  sk_lp N (K_Names_giveNames_L5 N) (st, (97 : Int32), (0 : Int32))
def K_Names_giveTextsOf_L7 (N : Nat) (self7 : (sk_M × Int64 × Int32 × Int32 × Int32 × Int32) → Option sk_M) : (sk_M × Int64 × Int32 × Int32 × Int32 × Int32) → Option sk_M := fun z => match z with
  | (st, v1, v3, v4, v5, v6) => if (6 : Int32) ≤ v6 then (some st) else if (K_SF_has v1 (K_SF_signature v3 v6 v4)) = 0 then (self7 (st, v1, v3, v4, v5, (v6 + 1))) else sk_wI 32 22 (K_SF_signature v3 v6 v4) (vp_nar .char ((v5.toUInt32 % 65536).toInt32)) st fun st42 =>
  self7 (st42, v1, v3, v4, (v5 + 1), (v6 + 1))
def K_Names_giveTextsOf (N : Nat) (st : sk_M) (v1 : Int64) (v3 : Int32) (v4 : Int32) : Option sk_M :=
  sk_lp N (K_Names_giveTextsOf_L7 N) (st, v1, v3, v4, (97 : Int32), (0 : Int32))
def K_Names_giveTexts_L23 (N : Nat) (self23 : (sk_M × Int64 × Int32) → Option sk_M) : (sk_M × Int64 × Int32) → Option sk_M := fun z => match z with
  | (st, v1, v3) => if (2 : Int32) ≤ v3 then (some st) else sk_oR (K_Names_giveTextsOf N st v1 (0 : Int32) v3) fun st32 =>
  sk_oR (K_Names_giveTextsOf N st32 v1 (1 : Int32) v3) fun st39 =>
  self23 (st39, v1, (v3 + 1))
def K_Names_giveTexts (N : Nat) (st : sk_M) : Option sk_M :=
  sk_oR (K_Names_signaturesOf N st (st.2 0 7)) fun x8 =>
  sk_lp N (K_Names_giveTexts_L23 N) (st, (x8 &&& ((st.2 0 3) ^^^ (-1 : Int64))), (0 : Int32))
def K_Names_work_J90 (N : Nat) (st : sk_M) : Option sk_M :=
  sk_oR (K_Names_giveNames N st) fun st91 =>
  sk_oR (K_Names_giveTexts N st91) fun st95 =>
  some st95
def K_Names_work_J70 (N : Nat) (ke90 : sk_M → Option sk_M) (self6 : (sk_M × Int32) → Option sk_M) (st : sk_M) (v1 : Int32) (v2 : Int64) : Option sk_M :=
  sk_oR (K_Names_signaturesOf N st v2) fun x77 =>
  sk_fL 3 ((st.2 0 3) ||| x77) st fun st81 =>
  self6 (st81, (v1 + 1))
def K_Names_work_L6 (N : Nat) (ke90 : sk_M → Option sk_M) (self6 : (sk_M × Int32) → Option sk_M) : (sk_M × Int32) → Option sk_M := fun z => match z with
  | (st, v1) => if (st.1 0 7) ≤ v1 then (ke90 st) else sk_rL 8 32 v1 st fun x25 =>
  sk_rI 8 27 v1 st fun x35 =>
  if x35 = (3 : Int32) then (sk_oR (K_Needs_ofNeededClasses N st x25) fun x45 =>
  K_Names_work_J70 N ke90 self6 st v1 x45) else sk_rL 8 31 v1 st fun x65 =>
  sk_fL 2 ((st.2 0 2) ||| x65) st fun st67 =>
  K_Names_work_J70 N ke90 self6 st67 v1 x25
def K_Names_work (N : Nat) (st : sk_M) : Option sk_M :=
  sk_oR (K_Names_keepWhatTheLibraryKnows N st) fun st1 =>
  sk_lp N (K_Names_work_L6 N (fun st => K_Names_work_J90 N st)) (st1, (0 : Int32))
def K_Needs_addKept_L2 (N : Nat) (self2 : (sk_M × Int32) → Option sk_M) : (sk_M × Int32) → Option sk_M := fun z => match z with
  | (st, v1) => if (st.1 0 7) ≤ v1 then (some st) else sk_rI 8 27 v1 st fun x21 =>
  if x21 = (1 : Int32) then (sk_rL 8 31 v1 st fun x39 =>
  sk_fL 4 ((st.2 0 4) ||| x39) st fun st41 =>
  sk_rL 8 31 v1 st41 fun x57 =>
  sk_fL 6 ((st41.2 0 6) ||| x57) st41 fun st59 =>
  sk_rL 8 31 v1 st59 fun x75 =>
  sk_fL 5 ((st59.2 0 5) ||| (x75 &&& (st59.2 0 13))) st59 fun st85 =>
  sk_rL 8 32 v1 st85 fun x101 =>
  sk_fL 7 ((st85.2 0 7) ||| x101) st85 fun st103 =>
  self2 (st103, (v1 + 1))) else self2 (st, (v1 + 1))
def K_Needs_addKept (N : Nat) (st : sk_M) : Option sk_M :=
  sk_lp N (K_Needs_addKept_L2 N) (st, (0 : Int32))
def J_bitCount (v0 : Int64) : Int32 :=
  (((((((((v0 - ((v0.toUInt64 >>> ((1 : Int32).toInt64.toUInt64 &&& Int64.toUInt64 63)).toInt64 &&& (6148914691236517205 : Int64))) &&& (3689348814741910323 : Int64)) + (((v0 - ((v0.toUInt64 >>> ((1 : Int32).toInt64.toUInt64 &&& Int64.toUInt64 63)).toInt64 &&& (6148914691236517205 : Int64))).toUInt64 >>> ((2 : Int32).toInt64.toUInt64 &&& Int64.toUInt64 63)).toInt64 &&& (3689348814741910323 : Int64))) + ((((v0 - ((v0.toUInt64 >>> ((1 : Int32).toInt64.toUInt64 &&& Int64.toUInt64 63)).toInt64 &&& (6148914691236517205 : Int64))) &&& (3689348814741910323 : Int64)) + (((v0 - ((v0.toUInt64 >>> ((1 : Int32).toInt64.toUInt64 &&& Int64.toUInt64 63)).toInt64 &&& (6148914691236517205 : Int64))).toUInt64 >>> ((2 : Int32).toInt64.toUInt64 &&& Int64.toUInt64 63)).toInt64 &&& (3689348814741910323 : Int64))).toUInt64 >>> ((4 : Int32).toInt64.toUInt64 &&& Int64.toUInt64 63)).toInt64) &&& (1085102592571150095 : Int64)) + ((((((v0 - ((v0.toUInt64 >>> ((1 : Int32).toInt64.toUInt64 &&& Int64.toUInt64 63)).toInt64 &&& (6148914691236517205 : Int64))) &&& (3689348814741910323 : Int64)) + (((v0 - ((v0.toUInt64 >>> ((1 : Int32).toInt64.toUInt64 &&& Int64.toUInt64 63)).toInt64 &&& (6148914691236517205 : Int64))).toUInt64 >>> ((2 : Int32).toInt64.toUInt64 &&& Int64.toUInt64 63)).toInt64 &&& (3689348814741910323 : Int64))) + ((((v0 - ((v0.toUInt64 >>> ((1 : Int32).toInt64.toUInt64 &&& Int64.toUInt64 63)).toInt64 &&& (6148914691236517205 : Int64))) &&& (3689348814741910323 : Int64)) + (((v0 - ((v0.toUInt64 >>> ((1 : Int32).toInt64.toUInt64 &&& Int64.toUInt64 63)).toInt64 &&& (6148914691236517205 : Int64))).toUInt64 >>> ((2 : Int32).toInt64.toUInt64 &&& Int64.toUInt64 63)).toInt64 &&& (3689348814741910323 : Int64))).toUInt64 >>> ((4 : Int32).toInt64.toUInt64 &&& Int64.toUInt64 63)).toInt64) &&& (1085102592571150095 : Int64)).toUInt64 >>> ((8 : Int32).toInt64.toUInt64 &&& Int64.toUInt64 63)).toInt64) + (((((((v0 - ((v0.toUInt64 >>> ((1 : Int32).toInt64.toUInt64 &&& Int64.toUInt64 63)).toInt64 &&& (6148914691236517205 : Int64))) &&& (3689348814741910323 : Int64)) + (((v0 - ((v0.toUInt64 >>> ((1 : Int32).toInt64.toUInt64 &&& Int64.toUInt64 63)).toInt64 &&& (6148914691236517205 : Int64))).toUInt64 >>> ((2 : Int32).toInt64.toUInt64 &&& Int64.toUInt64 63)).toInt64 &&& (3689348814741910323 : Int64))) + ((((v0 - ((v0.toUInt64 >>> ((1 : Int32).toInt64.toUInt64 &&& Int64.toUInt64 63)).toInt64 &&& (6148914691236517205 : Int64))) &&& (3689348814741910323 : Int64)) + (((v0 - ((v0.toUInt64 >>> ((1 : Int32).toInt64.toUInt64 &&& Int64.toUInt64 63)).toInt64 &&& (6148914691236517205 : Int64))).toUInt64 >>> ((2 : Int32).toInt64.toUInt64 &&& Int64.toUInt64 63)).toInt64 &&& (3689348814741910323 : Int64))).toUInt64 >>> ((4 : Int32).toInt64.toUInt64 &&& Int64.toUInt64 63)).toInt64) &&& (1085102592571150095 : Int64)) + ((((((v0 - ((v0.toUInt64 >>> ((1 : Int32).toInt64.toUInt64 &&& Int64.toUInt64 63)).toInt64 &&& (6148914691236517205 : Int64))) &&& (3689348814741910323 : Int64)) + (((v0 - ((v0.toUInt64 >>> ((1 : Int32).toInt64.toUInt64 &&& Int64.toUInt64 63)).toInt64 &&& (6148914691236517205 : Int64))).toUInt64 >>> ((2 : Int32).toInt64.toUInt64 &&& Int64.toUInt64 63)).toInt64 &&& (3689348814741910323 : Int64))) + ((((v0 - ((v0.toUInt64 >>> ((1 : Int32).toInt64.toUInt64 &&& Int64.toUInt64 63)).toInt64 &&& (6148914691236517205 : Int64))) &&& (3689348814741910323 : Int64)) + (((v0 - ((v0.toUInt64 >>> ((1 : Int32).toInt64.toUInt64 &&& Int64.toUInt64 63)).toInt64 &&& (6148914691236517205 : Int64))).toUInt64 >>> ((2 : Int32).toInt64.toUInt64 &&& Int64.toUInt64 63)).toInt64 &&& (3689348814741910323 : Int64))).toUInt64 >>> ((4 : Int32).toInt64.toUInt64 &&& Int64.toUInt64 63)).toInt64) &&& (1085102592571150095 : Int64)).toUInt64 >>> ((8 : Int32).toInt64.toUInt64 &&& Int64.toUInt64 63)).toInt64).toUInt64 >>> ((16 : Int32).toInt64.toUInt64 &&& Int64.toUInt64 63)).toInt64) + ((((((((v0 - ((v0.toUInt64 >>> ((1 : Int32).toInt64.toUInt64 &&& Int64.toUInt64 63)).toInt64 &&& (6148914691236517205 : Int64))) &&& (3689348814741910323 : Int64)) + (((v0 - ((v0.toUInt64 >>> ((1 : Int32).toInt64.toUInt64 &&& Int64.toUInt64 63)).toInt64 &&& (6148914691236517205 : Int64))).toUInt64 >>> ((2 : Int32).toInt64.toUInt64 &&& Int64.toUInt64 63)).toInt64 &&& (3689348814741910323 : Int64))) + ((((v0 - ((v0.toUInt64 >>> ((1 : Int32).toInt64.toUInt64 &&& Int64.toUInt64 63)).toInt64 &&& (6148914691236517205 : Int64))) &&& (3689348814741910323 : Int64)) + (((v0 - ((v0.toUInt64 >>> ((1 : Int32).toInt64.toUInt64 &&& Int64.toUInt64 63)).toInt64 &&& (6148914691236517205 : Int64))).toUInt64 >>> ((2 : Int32).toInt64.toUInt64 &&& Int64.toUInt64 63)).toInt64 &&& (3689348814741910323 : Int64))).toUInt64 >>> ((4 : Int32).toInt64.toUInt64 &&& Int64.toUInt64 63)).toInt64) &&& (1085102592571150095 : Int64)) + ((((((v0 - ((v0.toUInt64 >>> ((1 : Int32).toInt64.toUInt64 &&& Int64.toUInt64 63)).toInt64 &&& (6148914691236517205 : Int64))) &&& (3689348814741910323 : Int64)) + (((v0 - ((v0.toUInt64 >>> ((1 : Int32).toInt64.toUInt64 &&& Int64.toUInt64 63)).toInt64 &&& (6148914691236517205 : Int64))).toUInt64 >>> ((2 : Int32).toInt64.toUInt64 &&& Int64.toUInt64 63)).toInt64 &&& (3689348814741910323 : Int64))) + ((((v0 - ((v0.toUInt64 >>> ((1 : Int32).toInt64.toUInt64 &&& Int64.toUInt64 63)).toInt64 &&& (6148914691236517205 : Int64))) &&& (3689348814741910323 : Int64)) + (((v0 - ((v0.toUInt64 >>> ((1 : Int32).toInt64.toUInt64 &&& Int64.toUInt64 63)).toInt64 &&& (6148914691236517205 : Int64))).toUInt64 >>> ((2 : Int32).toInt64.toUInt64 &&& Int64.toUInt64 63)).toInt64 &&& (3689348814741910323 : Int64))).toUInt64 >>> ((4 : Int32).toInt64.toUInt64 &&& Int64.toUInt64 63)).toInt64) &&& (1085102592571150095 : Int64)).toUInt64 >>> ((8 : Int32).toInt64.toUInt64 &&& Int64.toUInt64 63)).toInt64) + (((((((v0 - ((v0.toUInt64 >>> ((1 : Int32).toInt64.toUInt64 &&& Int64.toUInt64 63)).toInt64 &&& (6148914691236517205 : Int64))) &&& (3689348814741910323 : Int64)) + (((v0 - ((v0.toUInt64 >>> ((1 : Int32).toInt64.toUInt64 &&& Int64.toUInt64 63)).toInt64 &&& (6148914691236517205 : Int64))).toUInt64 >>> ((2 : Int32).toInt64.toUInt64 &&& Int64.toUInt64 63)).toInt64 &&& (3689348814741910323 : Int64))) + ((((v0 - ((v0.toUInt64 >>> ((1 : Int32).toInt64.toUInt64 &&& Int64.toUInt64 63)).toInt64 &&& (6148914691236517205 : Int64))) &&& (3689348814741910323 : Int64)) + (((v0 - ((v0.toUInt64 >>> ((1 : Int32).toInt64.toUInt64 &&& Int64.toUInt64 63)).toInt64 &&& (6148914691236517205 : Int64))).toUInt64 >>> ((2 : Int32).toInt64.toUInt64 &&& Int64.toUInt64 63)).toInt64 &&& (3689348814741910323 : Int64))).toUInt64 >>> ((4 : Int32).toInt64.toUInt64 &&& Int64.toUInt64 63)).toInt64) &&& (1085102592571150095 : Int64)) + ((((((v0 - ((v0.toUInt64 >>> ((1 : Int32).toInt64.toUInt64 &&& Int64.toUInt64 63)).toInt64 &&& (6148914691236517205 : Int64))) &&& (3689348814741910323 : Int64)) + (((v0 - ((v0.toUInt64 >>> ((1 : Int32).toInt64.toUInt64 &&& Int64.toUInt64 63)).toInt64 &&& (6148914691236517205 : Int64))).toUInt64 >>> ((2 : Int32).toInt64.toUInt64 &&& Int64.toUInt64 63)).toInt64 &&& (3689348814741910323 : Int64))) + ((((v0 - ((v0.toUInt64 >>> ((1 : Int32).toInt64.toUInt64 &&& Int64.toUInt64 63)).toInt64 &&& (6148914691236517205 : Int64))) &&& (3689348814741910323 : Int64)) + (((v0 - ((v0.toUInt64 >>> ((1 : Int32).toInt64.toUInt64 &&& Int64.toUInt64 63)).toInt64 &&& (6148914691236517205 : Int64))).toUInt64 >>> ((2 : Int32).toInt64.toUInt64 &&& Int64.toUInt64 63)).toInt64 &&& (3689348814741910323 : Int64))).toUInt64 >>> ((4 : Int32).toInt64.toUInt64 &&& Int64.toUInt64 63)).toInt64) &&& (1085102592571150095 : Int64)).toUInt64 >>> ((8 : Int32).toInt64.toUInt64 &&& Int64.toUInt64 63)).toInt64).toUInt64 >>> ((16 : Int32).toInt64.toUInt64 &&& Int64.toUInt64 63)).toInt64).toUInt64 >>> ((32 : Int32).toInt64.toUInt64 &&& Int64.toUInt64 63)).toInt64).toInt32 &&& (127 : Int32))
def K_Needs_size (st : sk_M) : Int32 :=
  ((((J_bitCount (st.2 0 4)) + (J_bitCount (st.2 0 5))) + (J_bitCount (st.2 0 6))) + (J_bitCount (st.2 0 7)))
def K_Needs_addByKeepMembers_L2 (N : Nat) (self2 : (sk_M × Int32) → Option sk_M) : (sk_M × Int32) → Option sk_M := fun z => match z with
  | (st, v1) => if (st.1 0 7) ≤ v1 then (some st) else sk_rI 8 27 v1 st fun x21 =>
  if x21 = (3 : Int32) then (sk_rL 8 32 v1 st fun x40 =>
  sk_oR (K_Needs_ofNeededClasses N st x40) fun x41 =>
  sk_fL 7 ((st.2 0 7) ||| x41) st fun st45 =>
  self2 (st45, (v1 + 1))) else self2 (st, (v1 + 1))
def K_Needs_addByKeepMembers (N : Nat) (st : sk_M) : Option sk_M :=
  sk_lp N (K_Needs_addByKeepMembers_L2 N) (st, (0 : Int32))
def K_Needs_addByMembers_L2 (N : Nat) (self2 : (sk_M × Int32) → Option sk_M) : (sk_M × Int32) → Option sk_M := fun z => match z with
  | (st, v1) => if (st.1 0 5) ≤ v1 then (some st) else if (K_SF_has (st.2 0 7) v1) = 0 then (self2 (st, (v1 + 1))) else sk_rI 40 17 v1 st fun x37 =>
  sk_fL 4 ((st.2 0 4) ||| (K_SF_bit x37)) st fun st42 =>
  self2 (st42, (v1 + 1))
def K_Needs_addByMembers (N : Nat) (st : sk_M) : Option sk_M :=
  sk_lp N (K_Needs_addByMembers_L2 N) (st, (0 : Int32))
def K_Needs_addFound (N : Nat) (st : sk_M) (v1 : Int32) (v2 : Int32) : Option sk_M :=
  sk_oR (K_Members_find N st v1 v2 (st.2 0 0)) fun x13 =>
  if x13 = (-2 : Int32) then (some st) else sk_fL 7 ((st.2 0 7) ||| (K_SF_bit x13)) st fun st33 =>
  sk_oR (K_Members_hasFlag st33 x13 (2 : Int32)) fun x42 =>
  if x42 = 0 then (some st33) else sk_rI 40 17 x13 st33 fun x61 =>
  sk_fL 6 ((st33.2 0 6) ||| (K_SF_bit x61)) st33 fun st66 =>
  some st66
def K_Types_isUnder (st : sk_M) (v1 : Int32) (v2 : Int32) : Option Int32 :=
  if v1 = v2 then (some (1 : Int32)) else sk_rL 10 42 v1 st fun x10 =>
  if (K_SF_has x10 v2) = 0 then (some (0 : Int32)) else some (1 : Int32)
def K_Needs_addSelected_L2 (N : Nat) (self2 : (sk_M × Int32 × Int32 × Int32) → Option sk_M) : (sk_M × Int32 × Int32 × Int32) → Option sk_M := fun z => match z with
  | (st, v1, v2, v3) => if (10 : Int32) ≤ v3 then (some st) else if (K_SF_has (st.2 0 5) v3) = 0 then (self2 (st, v1, v2, (v3 + 1))) else sk_oR (K_Types_isUnder st v3 v1) fun x25 =>
  if x25 = 0 then (self2 (st, v1, v2, (v3 + 1))) else sk_oR (K_Members_find N st v3 v2 (st.2 0 1)) fun x44 =>
  if x44 = (-2 : Int32) then (self2 (st, v1, v2, (v3 + 1))) else sk_fL 7 ((st.2 0 7) ||| (K_SF_bit x44)) st fun st67 =>
  self2 (st67, v1, v2, (v3 + 1))
def K_Needs_addSelected (N : Nat) (st : sk_M) (v1 : Int32) (v2 : Int32) : Option sk_M :=
  sk_lp N (K_Needs_addSelected_L2 N) (st, v1, v2, v1)
def K_Needs_addByReferences_J144 (N : Nat) (self2 : (sk_M × Int32) → Option sk_M) (st : sk_M) (v1 : Int32) (v2 : Int32) (v3 : Int32) : Option sk_M :=
  if v3 = (5 : Int32) then (sk_rI 60 26 v1 st fun x159 =>
  sk_oR (K_Needs_addSelected N st v2 x159) fun st160 =>
  self2 (st160, (v1 + 1))) else self2 (st, (v1 + 1))
def K_Needs_addByReferences_J125 (N : Nat) (self2 : (sk_M × Int32) → Option sk_M) (st : sk_M) (v1 : Int32) (v2 : Int32) (v3 : Int32) : Option sk_M :=
  if v3 < (2 : Int32) then (K_Needs_addByReferences_J144 N self2 st v1 v2 v3) else sk_rI 60 26 v1 st fun x140 =>
  sk_oR (K_Needs_addFound N st v2 x140) fun st141 =>
  K_Needs_addByReferences_J144 N self2 st141 v1 v2 v3
def K_Needs_addByReferences_L2 (N : Nat) (self2 : (sk_M × Int32) → Option sk_M) : (sk_M × Int32) → Option sk_M := fun z => match z with
  | (st, v1) => if (st.1 0 6) ≤ v1 then (some st) else sk_rI 60 25 v1 st fun x21 =>
  sk_rI 60 23 v1 st fun x35 =>
  if (K_SF_has (st.2 0 7) x35) = 0 then (self2 (st, (v1 + 1))) else if (K_SF_has (st.2 0 11) x21) = 0 then (self2 (st, (v1 + 1))) else sk_rI 60 24 v1 st fun x64 =>
  sk_fL 4 ((st.2 0 4) ||| (K_SF_bit x21)) st fun st76 =>
  if x64 = 0 then (sk_fL 5 ((st76.2 0 5) ||| ((K_SF_bit x21) &&& (st76.2 0 13))) st76 fun st101 =>
  sk_fL 6 ((st101.2 0 6) ||| ((K_SF_bit x21) &&& (st101.2 0 13))) st101 fun st122 =>
  K_Needs_addByReferences_J125 N self2 st122 v1 x21 x64) else K_Needs_addByReferences_J125 N self2 st76 v1 x21 x64
def K_Needs_addByReferences (N : Nat) (st : sk_M) : Option sk_M :=
  sk_lp N (K_Needs_addByReferences_L2 N) (st, (0 : Int32))
def K_Needs_addByClasses_J49 (N : Nat) (self3 : (sk_M × Int32) → Option sk_M) (st : sk_M) (v1 : Int32) : Option sk_M :=
  if (K_SF_has (st.2 0 6) v1) = 0 then (self3 (st, (v1 + (-1)))) else sk_rI 10 39 v1 st fun x73 =>
  sk_fL 6 ((st.2 0 6) ||| (K_SF_bit x73)) st fun st78 =>
  sk_oR (K_Members_at st78 v1 (30 : Int32)) fun x88 =>
  if x88 = (-2 : Int32) then (self3 (st78, (v1 + (-1)))) else sk_oR (K_Members_hasFlag st78 x88 (2 : Int32)) fun x104 =>
  if x104 = 0 then (self3 (st78, (v1 + (-1)))) else sk_fL 7 ((st78.2 0 7) ||| (K_SF_bit x88)) st78 fun st120 =>
  self3 (st120, (v1 + (-1)))
def K_Needs_addByClasses_L3 (N : Nat) (self3 : (sk_M × Int32) → Option sk_M) : (sk_M × Int32) → Option sk_M := fun z => match z with
  | (st, v1) => if v1 ≤ 0 then (some st) else if (K_SF_has (st.2 0 4) v1) = 0 then (K_Needs_addByClasses_J49 N self3 st v1) else sk_rI 10 39 v1 st fun x31 =>
  sk_rL 10 40 v1 st fun x43 =>
  sk_fL 4 ((st.2 0 4) ||| ((K_SF_bit x31) ||| x43)) st fun st46 =>
  K_Needs_addByClasses_J49 N self3 st46 v1
def K_Needs_addByClasses (N : Nat) (st : sk_M) : Option sk_M :=
  sk_lp N (K_Needs_addByClasses_L3 N) (st, (9 : Int32))
def K_Needs_work_L34 (N : Nat) (self34 : (sk_M × Int32 × Int32) → Option sk_M) : (sk_M × Int32 × Int32) → Option sk_M := fun z => match z with
  | (st, v1, v2) => if (71 : Int32) ≤ v2 then (some st) else if (K_Needs_size st) ≤ v1 then (some st) else sk_oR (K_Needs_addByKeepMembers N st) fun st54 =>
  sk_oR (K_Needs_addByMembers N st54) fun st58 =>
  sk_oR (K_Needs_addByReferences N st58) fun st62 =>
  sk_oR (K_Needs_addSelected N st62 (0 : Int32) (16 : Int32)) fun st69 =>
  sk_oR (K_Needs_addByClasses N st69) fun st73 =>
  self34 (st73, (K_Needs_size st), (v2 + 1))
def K_Needs_work (N : Nat) (st : sk_M) : Option sk_M :=
  sk_fL 4 (K_SF_bit (0 : Int32)) st fun st5 =>
  sk_fL 7 (K_SF_bit (0 : Int32)) st5 fun st13 =>
  sk_fL 5 (0 : Int64) st13 fun st18 =>
  sk_fL 6 (0 : Int64) st18 fun st23 =>
  sk_oR (K_Needs_addKept N st23) fun st27 =>
  sk_lp N (K_Needs_work_L34 N) (st27, (0 : Int32), (0 : Int32))
def K_SF_asNumber (v0 : Int32) : Int32 :=
  if v0 = 0 then ((0 : Int32)) else (1 : Int32)
def K_Needs_countReferences_L4 (N : Nat) (st : sk_M) (self4 : (Int32 × Int32) → Option Int32) : (Int32 × Int32) → Option Int32 := fun z => match z with
  | (v1, v2) => if (st.1 0 6) ≤ v2 then (some v1) else sk_rI 60 23 v2 st fun x28 =>
  self4 ((v1 + (K_SF_asNumber (K_SF_has (st.2 0 7) x28))), (v2 + 1))
def K_Needs_countReferences (N : Nat) (st : sk_M) : Option Int32 :=
  sk_lp N (K_Needs_countReferences_L4 N st) ((0 : Int32), (0 : Int32))
def K_Types_isThere (st : sk_M) (v1 : Int32) : Int32 :=
  (K_SF_has (st.2 0 11) v1)
def K_Needs_countMisses_J119 (N : Nat) (st : sk_M) (self4 : (Int32 × Int32) → Option Int32) (v2 : Int32) (s0 : Int32) (s1 : Int32) : Option Int32 :=
  self4 ((s0 + (K_SF_asNumber s1)), (v2 + 1))
def K_Needs_countMisses_J108 (N : Nat) (st : sk_M) (self4 : (Int32 × Int32) → Option Int32) (v1 : Int32) (v2 : Int32) (s0 : Int32) : Option Int32 :=
  if s0 = 0 then (K_Needs_countMisses_J119 N st self4 v2 v1 (1 : Int32)) else K_Needs_countMisses_J119 N st self4 v2 v1 (0 : Int32)
def K_Needs_countMisses_L4 (N : Nat) (st : sk_M) (self4 : (Int32 × Int32) → Option Int32) : (Int32 × Int32) → Option Int32 := fun z => match z with
  | (v1, v2) => if (st.1 0 6) ≤ v2 then (some v1) else sk_rI 60 23 v2 st fun x27 =>
  if (K_SF_has (st.2 0 7) x27) = 0 then (self4 (v1, (v2 + 1))) else sk_rI 60 24 v2 st fun x42 =>
  if (2 : Int32) ≤ x42 then (sk_rI 60 25 v2 st fun x78 =>
  sk_rI 60 26 v2 st fun x87 =>
  sk_oR (K_Members_find N st x78 x87 (st.2 0 0)) fun x95 =>
  if x95 = (-2 : Int32) then (K_Needs_countMisses_J108 N st self4 v1 v2 (0 : Int32)) else K_Needs_countMisses_J108 N st self4 v1 v2 (1 : Int32)) else sk_rI 60 25 v2 st fun x59 =>
  K_Needs_countMisses_J108 N st self4 v1 v2 (K_Types_isThere st x59)
def K_Needs_countMisses (N : Nat) (st : sk_M) : Option Int32 :=
  sk_lp N (K_Needs_countMisses_L4 N st) ((0 : Int32), (0 : Int32))
def K_References_add (st : sk_M) (v1 : Int32) (v2 : Int32) (v3 : Int32) (v4 : Int32) : Option (Int32 × sk_M) :=
  if (st.1 0 6) < (60 : Int32) then (sk_wI 60 23 (st.1 0 6) v1 st fun st21 =>
  sk_wI 60 24 (st21.1 0 6) v2 st21 fun st31 =>
  sk_wI 60 25 (st31.1 0 6) v3 st31 fun st41 =>
  sk_wI 60 26 (st41.1 0 6) v4 st41 fun st52 =>
  sk_fI 6 ((st52.1 0 6) + (1 : Int32)) st52 fun st60 =>
  some ((st60.1 0 6), st60)) else some ((-3 : Int32), st)
def K_RuleBook_add (st : sk_M) : Option (Int32 × sk_M) :=
  if (st.1 0 7) < (8 : Int32) then (sk_wI 8 27 (st.1 0 7) (st.1 0 9) st fun st24 =>
  sk_wL 8 28 (st24.1 0 7) (st24.2 0 8) st24 fun st37 =>
  sk_wL 8 29 (st37.1 0 7) (st37.2 0 9) st37 fun st50 =>
  sk_wL 8 30 (st50.1 0 7) (st50.2 0 10) st50 fun st63 =>
  sk_fI 7 ((st63.1 0 7) + (1 : Int32)) st63 fun st71 =>
  some ((st71.1 0 7), st71)) else some ((-3 : Int32), st)
def K_RuleBook_classesNamed_L5 (N : Nat) (st : sk_M) (self5 : (Int64 × Int64 × Int32) → Option Int64) : (Int64 × Int64 × Int32) → Option Int64 := fun z => match z with
  | (v0, v3, v5) => if (10 : Int32) ≤ v5 then (some v3) else sk_rI 10 35 v5 st fun x19 =>
  if (K_SF_has v0 ((x19 * (10 : Int32)) + v5)) = 0 then (self5 (v0, v3, (v5 + 1))) else self5 (v0, (v3 ||| (K_SF_bit v5)), (v5 + 1))
def K_RuleBook_classesNamed (N : Nat) (st : sk_M) (v0 : Int64) : Option Int64 :=
  sk_lp N (K_RuleBook_classesNamed_L5 N st) (v0, (0 : Int64), (0 : Int32))
def K_RuleBook_classesAbout_J63 (N : Nat) (st : sk_M) (v1 : Int32) (v5 : Int64) : Option Int64 :=
  sk_rL 8 28 v1 st fun x70 =>
  sk_oR (K_RuleBook_classesNamed N st x70) fun x72 =>
  some (v5 &&& x72)
def K_RuleBook_classesAbout_L17 (N : Nat) (st : sk_M) (ke63 : Int32 → Int64 → Option Int64) (self17 : (Int32 × Int64 × Int64 × Int32) → Option Int64) : (Int32 × Int64 × Int64 × Int32) → Option Int64 := fun z => match z with
  | (v1, v3, v5, v7) => if (10 : Int32) ≤ v7 then (ke63 v1 v5) else if (K_Types_isThere st v7) = 0 then (self17 (v1, v3, v5, (v7 + 1))) else sk_rL 10 42 v7 st fun x39 =>
  if (lg_cmp (x39 &&& v3) (0 : Int64)) = 0 then (self17 (v1, v3, v5, (v7 + 1))) else self17 (v1, v3, (v5 ||| (K_SF_bit v7)), (v7 + 1))
def K_RuleBook_classesAbout (N : Nat) (st : sk_M) (v1 : Int32) : Option Int64 :=
  sk_rL 8 29 v1 st fun x5 =>
  sk_oR (K_RuleBook_classesNamed N st x5) fun x7 =>
  sk_lp N (K_RuleBook_classesAbout_L17 N st (fun v1 v5 => K_RuleBook_classesAbout_J63 N st v1 v5)) (v1, x7, (0 : Int64), (1 : Int32))
def K_RuleBook_membersMeant_L5 (N : Nat) (st : sk_M) (self5 : (Int32 × Int64 × Int32) → Option Int64) : (Int32 × Int64 × Int32) → Option Int64 := fun z => match z with
  | (v1, v3, v5) => if (st.1 0 5) ≤ v5 then (some (v3 &&& (st.2 0 0))) else sk_rL 8 31 v1 st fun x19 =>
  sk_rI 40 17 v5 st fun x26 =>
  if (K_SF_has x19 x26) = 0 then (self5 (v1, v3, (v5 + 1))) else sk_rL 8 30 v1 st fun x38 =>
  sk_rI 40 18 v5 st fun x45 =>
  if (K_SF_has x38 x45) = 0 then (self5 (v1, v3, (v5 + 1))) else self5 (v1, (v3 ||| (K_SF_bit v5)), (v5 + 1))
def K_RuleBook_membersMeant (N : Nat) (st : sk_M) (v1 : Int32) : Option Int64 :=
  sk_lp N (K_RuleBook_membersMeant_L5 N st) (v1, (0 : Int64), (1 : Int32))
def K_RuleBook_look_L2 (N : Nat) (self2 : (sk_M × Int32) → Option sk_M) : (sk_M × Int32) → Option sk_M := fun z => match z with
  | (st, v3) => if (st.1 0 7) ≤ v3 then (some st) else sk_oR (K_RuleBook_classesAbout N st v3) fun x18 =>
  sk_wL 8 31 v3 x18 st fun st21 =>
  sk_oR (K_RuleBook_membersMeant N st21 v3) fun x30 =>
  sk_wL 8 32 v3 x30 st21 fun st33 =>
  self2 (st33, (v3 + 1))
def K_RuleBook_look (N : Nat) (st : sk_M) : Option sk_M :=
  sk_lp N (K_RuleBook_look_L2 N) (st, (0 : Int32))
def K_RuleBook_greatestAbout_L7 (N : Nat) (st : sk_M) (self7 : (Int32 × Int32) → Option Int32) : (Int32 × Int32) → Option Int32 := fun z => match z with
  | (v1, v2) => if v2 < 0 then (some (-2 : Int32)) else sk_rL 8 31 v2 st fun x16 =>
  if (K_SF_has x16 v1) = 0 then (self7 (v1, (v2 + (-1)))) else some v2
def K_RuleBook_greatestAbout (N : Nat) (st : sk_M) (v1 : Int32) : Option Int32 :=
  sk_lp N (K_RuleBook_greatestAbout_L7 N st) (v1, ((st.1 0 7) - (1 : Int32)))
def K_RuleReader_cut_J45 (N : Nat) (self9 : (sk_M × Int32 × Int32) → Option sk_M) (st : sk_M) (v1 : Int32) (v2 : Int32) : Option sk_M :=
  sk_fI 8 ((st.1 0 8) + (1 : Int32)) st fun st52 =>
  sk_wI 62 33 (st52.1 0 8) v1 st52 fun st64 =>
  sk_wI 62 34 (st64.1 0 8) v2 st64 fun st74 =>
  self9 (st74, (v2 + (1 : Int32)), (v2 + 1))
def K_RuleReader_cut_L9 (N : Nat) (self9 : (sk_M × Int32 × Int32) → Option sk_M) : (sk_M × Int32 × Int32) → Option sk_M := fun z => match z with
  | (st, v1, v2) => if (st.1 0 0) < v2 then (some st) else if v2 = (st.1 0 0) then (K_RuleReader_cut_J45 N self9 st v1 v2) else sk_rI 60 13 v2 st fun x39 =>
  if x39 = (32 : Int32) then (K_RuleReader_cut_J45 N self9 st v1 v2) else self9 (st, v1, (v2 + 1))
def K_RuleReader_cut (N : Nat) (st : sk_M) : Option sk_M :=
  sk_fI 8 (0 : Int32) st fun st2 =>
  sk_lp N (K_RuleReader_cut_L9 N) (st2, (0 : Int32), (0 : Int32))
def K_RuleReader_reads_L32 (N : Nat) (j2 : Nat) (st : sk_M) (self32 : (Int32 × Int32) → Option Int32) : (Int32 × Int32) → Option Int32 := fun z => match z with
  | (v1, v3) => if (J_length j2) ≤ v3 then (some (1 : Int32)) else sk_rI 62 33 v1 st fun x52 =>
  sk_rI 60 13 (x52 + v3) st fun x55 =>
  sk_oR (J_charAt j2 v3) fun x58 =>
  if x55 = x58 then (self32 (v1, (v3 + 1))) else some (0 : Int32)
def K_RuleReader_reads (N : Nat) (j2 : Nat) (st : sk_M) (v1 : Int32) : Option Int32 :=
  if (st.1 0 8) < v1 then (some (0 : Int32)) else sk_rI 62 34 v1 st fun x13 =>
  sk_rI 62 33 v1 st fun x19 =>
  if (x13 - x19) = (J_length j2) then (sk_lp N (K_RuleReader_reads_L32 N j2 st) (v1, (0 : Int32))) else some (0 : Int32)
def K_RuleReader_sortOfRule (N : Nat) (st : sk_M) : Option Int32 :=
  sk_oR (K_RuleReader_reads N 0 st (1 : Int32)) fun x4 =>
  if x4 = 0 then (sk_oR (K_RuleReader_reads N 1 st (1 : Int32)) fun x16 =>
  if x16 = 0 then (sk_oR (K_RuleReader_reads N 2 st (1 : Int32)) fun x28 =>
  if x28 = 0 then (some (0 : Int32)) else some (3 : Int32)) else some (2 : Int32)) else some (1 : Int32)
def K_RuleReader_isPattern_L34 (N : Nat) (st : sk_M) (self34 : (Int32 × Int32 × Int32) → Option Int32) : (Int32 × Int32 × Int32) → Option Int32 := fun z => match z with
  | (v1, v2, v3) => sk_rI 62 34 v1 st fun x40 =>
  if (x40 - v2) ≤ v3 then (some (1 : Int32)) else sk_rI 60 13 v3 st fun x54 =>
  if x54 = (59 : Int32) then (some (0 : Int32)) else if x54 = (123 : Int32) then (some (0 : Int32)) else if x54 = (125 : Int32) then (some (0 : Int32)) else self34 (v1, v2, (v3 + 1))
def K_RuleReader_isPattern (N : Nat) (st : sk_M) (v1 : Int32) (v2 : Int32) : Option Int32 :=
  if (st.1 0 8) < v1 then (some (0 : Int32)) else sk_rI 62 34 v1 st fun x13 =>
  sk_rI 62 33 v1 st fun x21 =>
  if x21 < (x13 - v2) then (sk_rI 62 33 v1 st fun x32 =>
  sk_lp N (K_RuleReader_isPattern_L34 N st) (v1, v2, x32)) else some (0 : Int32)
def K_RuleReader_afterOne_J61 (N : Nat) (st : sk_M) (self5 : (Int32 × Int32 × Int32 × Int32) → Option Int32) (v1 : Int32) (v2 : Int32) (v3 : Int32) (v4 : Int32) (s0 : Int32) : Option Int32 :=
  if s0 = 0 then (self5 (v1, v2, v3, (v4 + 1))) else if ((v1 >>> (v4 &&& 31)) &&& (1 : Int32)) = 0 then (self5 (v1, v2, v3, (v4 + 1))) else self5 (v1, v2, (v3 ||| ((2 : Int32) <<< (v4 &&& 31))), (v4 + 1))
def K_RuleReader_afterOne_L5 (N : Nat) (st : sk_M) (self5 : (Int32 × Int32 × Int32 × Int32) → Option Int32) : (Int32 × Int32 × Int32 × Int32) → Option Int32 := fun z => match z with
  | (v1, v2, v3, v4) => if (st.1 0 2) ≤ v4 then (some v3) else sk_rI 8 15 v4 st fun x26 =>
  if v2 = (63 : Int32) then (if x26 = (46 : Int32) then (K_RuleReader_afterOne_J61 N st self5 v1 v2 v3 v4 (0 : Int32)) else K_RuleReader_afterOne_J61 N st self5 v1 v2 v3 v4 (1 : Int32)) else if x26 = v2 then (K_RuleReader_afterOne_J61 N st self5 v1 v2 v3 v4 (1 : Int32)) else K_RuleReader_afterOne_J61 N st self5 v1 v2 v3 v4 (0 : Int32)
def K_RuleReader_afterOne (N : Nat) (st : sk_M) (v1 : Int32) (v2 : Int32) : Option Int32 :=
  sk_lp N (K_RuleReader_afterOne_L5 N st) (v1, v2, (0 : Int32), (0 : Int32))
def K_RuleReader_afterMany_J36 (N : Nat) (st : sk_M) (self5 : (Int32 × Int32 × Int32) → Option Int32) (v2 : Int32) (v3 : Int32) (v4 : Int32) : Option Int32 :=
  if ((v3 >>> (v4 &&& 31)) &&& (1 : Int32)) = 0 then (self5 (v2, v3, (v4 + 1))) else self5 (v2, (v3 ||| ((2 : Int32) <<< (v4 &&& 31))), (v4 + 1))
def K_RuleReader_afterMany_L5 (N : Nat) (st : sk_M) (self5 : (Int32 × Int32 × Int32) → Option Int32) : (Int32 × Int32 × Int32) → Option Int32 := fun z => match z with
  | (v2, v3, v4) => if (st.1 0 2) ≤ v4 then (some v3) else if v2 = 0 then (sk_rI 8 15 v4 st fun x30 =>
  if x30 = (46 : Int32) then (self5 (v2, v3, (v4 + 1))) else K_RuleReader_afterMany_J36 N st self5 v2 v3 v4) else K_RuleReader_afterMany_J36 N st self5 v2 v3 v4
def K_RuleReader_afterMany (N : Nat) (st : sk_M) (v1 : Int32) (v2 : Int32) : Option Int32 :=
  sk_lp N (K_RuleReader_afterMany_L5 N st) (v2, v1, (0 : Int32))
def K_RuleReader_fits_J96 (N : Nat) (st : sk_M) (v3 : Int32) : Option Int32 :=
  if ((v3 >>> ((st.1 0 2) &&& 31)) &&& (1 : Int32)) = 0 then (some (0 : Int32)) else some (1 : Int32)
def K_RuleReader_fits_J83 (N : Nat) (st : sk_M) (ke96 : Int32 → Option Int32) (self5 : (Int32 × Int32 × Int32) → Option Int32) (v2 : Int32) (v3 : Int32) (v4 : Int32) : Option Int32 :=
  sk_oR (K_RuleReader_afterMany N st v3 (0 : Int32)) fun x86 =>
  self5 (v2, x86, (v4 + 1))
def K_RuleReader_fits_L5 (N : Nat) (st : sk_M) (ke96 : Int32 → Option Int32) (self5 : (Int32 × Int32 × Int32) → Option Int32) : (Int32 × Int32 × Int32) → Option Int32 := fun z => match z with
  | (v2, v3, v4) => if v2 ≤ v4 then (ke96 v3) else sk_rI 60 13 v4 st fun x20 =>
  if x20 = (42 : Int32) then (if v2 ≤ (v4 + (1 : Int32)) then (K_RuleReader_fits_J83 N st ke96 self5 v2 v3 v4) else sk_rI 60 13 (v4 + (1 : Int32)) st fun x64 =>
  if x64 = (42 : Int32) then (sk_oR (K_RuleReader_afterMany N st v3 (1 : Int32)) fun x73 =>
  self5 (v2, x73, ((v4 + 1) + 1))) else K_RuleReader_fits_J83 N st ke96 self5 v2 v3 v4) else sk_rI 60 13 v4 st fun x37 =>
  sk_oR (K_RuleReader_afterOne N st v3 x37) fun x38 =>
  self5 (v2, x38, (v4 + 1))
def K_RuleReader_fits (N : Nat) (st : sk_M) (v1 : Int32) (v2 : Int32) : Option Int32 :=
  sk_lp N (K_RuleReader_fits_L5 N st (fun v3 => K_RuleReader_fits_J96 N st v3)) (v2, (1 : Int32), v1)
def K_RuleReader_namesThatFit_L5 (N : Nat) (self5 : (sk_M × Int32 × Int64 × Int32) → Option (Int64 × sk_M)) : (sk_M × Int32 × Int64 × Int32) → Option (Int64 × sk_M) := fun z => match z with
  | (st, v1, v2, v4) => if (30 : Int32) ≤ v4 then (some (v2, st)) else sk_oR (K_Text_wipe 2 st) fun st16 =>
  sk_oR (K_Text_putOldName 2 st16 (v4 / (10 : Int32)) (v4 - v4 / (10 : Int32) * (10 : Int32))) fun st33 =>
  sk_rI 62 33 v1 st33 fun x42 =>
  sk_rI 62 34 v1 st33 fun x48 =>
  sk_oR (K_RuleReader_fits N st33 x42 x48) fun x49 =>
  if x49 = 0 then (self5 (st33, v1, v2, (v4 + 1))) else self5 (st33, v1, (v2 ||| (K_SF_bit v4)), (v4 + 1))
def K_RuleReader_namesThatFit (N : Nat) (st : sk_M) (v1 : Int32) : Option (Int64 × sk_M) :=
  sk_lp N (K_RuleReader_namesThatFit_L5 N) (st, v1, (0 : Int64), (0 : Int32))
def K_RuleReader_endsClause (st : sk_M) (v1 : Int32) : Option Int32 :=
  if (st.1 0 8) < v1 then (some (0 : Int32)) else sk_rI 62 34 v1 st fun x13 =>
  sk_rI 62 33 v1 st fun x19 =>
  if x13 ≤ x19 then (some (0 : Int32)) else sk_rI 62 34 v1 st fun x35 =>
  sk_rI 60 13 (x35 - (1 : Int32)) st fun x38 =>
  if x38 = (59 : Int32) then (some (1 : Int32)) else some (0 : Int32)
def K_RuleReader_textsThatFit_J76 (N : Nat) (self20 : (sk_M × Int32 × Int32 × Int64 × Int32) → Option (Int64 × sk_M)) (st : sk_M) (v1 : Int32) (v2 : Int32) (v3 : Int64) (v5 : Int32) (s0 : Int32) : Option (Int64 × sk_M) :=
  if s0 = 0 then (self20 (st, v1, v2, v3, (v5 + 1))) else sk_rI 62 33 (v1 + (1 : Int32)) st fun x91 =>
  sk_rI 62 34 (v1 + (1 : Int32)) st fun x99 =>
  sk_oR (K_RuleReader_fits N st x91 (x99 - (1 : Int32))) fun x102 =>
  if x102 = 0 then (self20 (st, v1, v2, v3, (v5 + 1))) else self20 (st, v1, v2, (v3 ||| (K_SF_bit v5)), (v5 + 1))
def K_RuleReader_textsThatFit_J71 (N : Nat) (self20 : (sk_M × Int32 × Int32 × Int64 × Int32) → Option (Int64 × sk_M)) (st : sk_M) (v1 : Int32) (v2 : Int32) (v3 : Int64) (v5 : Int32) : Option (Int64 × sk_M) :=
  K_RuleReader_textsThatFit_J76 N self20 st v1 v2 v3 v5 (1 : Int32)
def K_RuleReader_textsThatFit_J63 (N : Nat) (self20 : (sk_M × Int32 × Int32 × Int64 × Int32) → Option (Int64 × sk_M)) (st : sk_M) (v1 : Int32) (v2 : Int32) (v3 : Int64) (v5 : Int32) (s0 : Int32) : Option (Int64 × sk_M) :=
  if s0 = (K_SF_isMethod v5) then (K_RuleReader_textsThatFit_J71 N self20 st v1 v2 v3 v5) else K_RuleReader_textsThatFit_J76 N self20 st v1 v2 v3 v5 (0 : Int32)
def K_RuleReader_textsThatFit_L20 (N : Nat) (self20 : (sk_M × Int32 × Int32 × Int64 × Int32) → Option (Int64 × sk_M)) : (sk_M × Int32 × Int32 × Int64 × Int32) → Option (Int64 × sk_M) := fun z => match z with
  | (st, v1, v2, v3, v5) => if (32 : Int32) ≤ v5 then (some (v3, st)) else sk_oR (K_Text_wipe 2 st) fun st31 =>
  sk_oR (K_Text_putOldText N 2 st31 (K_SF_wordOf v5)) fun st43 =>
  if v2 = (120 : Int32) then (K_RuleReader_textsThatFit_J71 N self20 st43 v1 v2 v3 v5) else if v2 = (109 : Int32) then (K_RuleReader_textsThatFit_J63 N self20 st43 v1 v2 v3 v5 (1 : Int32)) else K_RuleReader_textsThatFit_J63 N self20 st43 v1 v2 v3 v5 (0 : Int32)
def K_RuleReader_textsThatFit (N : Nat) (st : sk_M) (v1 : Int32) : Option (Int64 × sk_M) :=
  sk_rI 62 33 v1 st fun x12 =>
  sk_rI 60 13 x12 st fun x13 =>
  sk_lp N (K_RuleReader_textsThatFit_L20 N) (st, v1, x13, (0 : Int64), (0 : Int32))
def K_RuleReader_readBody_J51 (N : Nat) (st : sk_M) (v3 : Int32) : Option (Int32 × sk_M) :=
  if (st.1 0 8) ≤ v3 then (some ((0 : Int32), st)) else some ((v3 + (1 : Int32)), st)
def K_RuleReader_readBody_J99 (N : Nat) (ke51 : sk_M → Int32 → Option (Int32 × sk_M)) (self28 : (sk_M × Int32 × Int32) → Option (Int32 × sk_M)) (st : sk_M) (v2 : Int32) (v3 : Int32) : Option (Int32 × sk_M) :=
  sk_oR (K_RuleReader_endsClause st (v3 + (1 : Int32))) fun x103 =>
  if x103 = 0 then (some ((v3 + (1 : Int32)), st)) else sk_oR (K_RuleReader_isPattern N st (v3 + (1 : Int32)) (1 : Int32)) fun x114 =>
  if x114 = 0 then (some ((v3 + (1 : Int32)), st)) else sk_oW (K_RuleReader_textsThatFit N st v3) fun x131 st131 =>
  sk_fL 10 ((st.2 0 10) ||| x131) st131 fun st135 =>
  self28 (st135, v2, (v3 + 2))
def K_RuleReader_readBody_J67 (N : Nat) (ke51 : sk_M → Int32 → Option (Int32 × sk_M)) (self28 : (sk_M × Int32 × Int32) → Option (Int32 × sk_M)) (st : sk_M) (v2 : Int32) (v3 : Int32) : Option (Int32 × sk_M) :=
  sk_oR (K_RuleReader_reads N 7 st v3) fun x71 =>
  if x71 = 0 then (sk_oR (K_RuleReader_reads N 8 st v3) fun x81 =>
  if x81 = 0 then (sk_oR (K_RuleReader_reads N 9 st v3) fun x91 =>
  if x91 = 0 then (some (v3, st)) else K_RuleReader_readBody_J99 N ke51 self28 st v2 v3) else K_RuleReader_readBody_J99 N ke51 self28 st v2 v3) else K_RuleReader_readBody_J99 N ke51 self28 st v2 v3
def K_RuleReader_readBody_L28 (N : Nat) (ke51 : sk_M → Int32 → Option (Int32 × sk_M)) (self28 : (sk_M × Int32 × Int32) → Option (Int32 × sk_M)) : (sk_M × Int32 × Int32) → Option (Int32 × sk_M) := fun z => match z with
  | (st, v2, v3) => if (st.1 0 8) < v3 then (some (((st.1 0 8) + (1 : Int32)), st)) else if v3 ≤ v2 then (K_RuleReader_readBody_J67 N ke51 self28 st v2 v3) else sk_oR (K_RuleReader_reads N 6 st v3) fun x45 =>
  if x45 = 0 then (K_RuleReader_readBody_J67 N ke51 self28 st v2 v3) else ke51 st v3
def K_RuleReader_readBody (N : Nat) (st : sk_M) (v1 : Int32) : Option (Int32 × sk_M) :=
  if v1 ≤ (st.1 0 8) then (sk_oR (K_RuleReader_reads N 5 st v1) fun x14 =>
  if x14 = 0 then (some (v1, st)) else sk_lp N (K_RuleReader_readBody_L28 N (fun st v3 => K_RuleReader_readBody_J51 N st v3)) (st, (v1 + (1 : Int32)), (v1 + (1 : Int32)))) else some ((0 : Int32), st)
def K_RuleReader_read_J111 (N : Nat) (st : sk_M) (s1 : Int32) : Option (Int32 × sk_M) :=
  sk_oW (K_RuleReader_readBody N st s1) fun x111 st111 =>
  some (x111, st111)
def K_RuleReader_read_J92 (N : Nat) (st : sk_M) (v1 : Int32) (s1 : Int64) : Option (Int32 × sk_M) :=
  sk_fL 9 s1 st fun st92 =>
  sk_fL 10 (0 : Int64) st92 fun st97 =>
  if v1 = 0 then (K_RuleReader_read_J111 N st97 (4 : Int32)) else K_RuleReader_read_J111 N st97 (6 : Int32)
def K_RuleReader_read_J67 (N : Nat) (st : sk_M) (v1 : Int32) : Option (Int32 × sk_M) :=
  sk_oW (K_RuleReader_namesThatFit N st (3 : Int32)) fun x70 st70 =>
  sk_fL 8 x70 st70 fun st73 =>
  if v1 = 0 then (K_RuleReader_read_J92 N st73 v1 (-1 : Int64)) else sk_oW (K_RuleReader_namesThatFit N st73 (5 : Int32)) fun x83 st83 =>
  K_RuleReader_read_J92 N st83 v1 x83
def K_RuleReader_read (N : Nat) (st : sk_M) : Option (Int32 × sk_M) :=
  sk_oR (K_RuleReader_cut N st) fun st1 =>
  sk_oR (K_RuleReader_sortOfRule N st1) fun x6 =>
  sk_fI 9 x6 st1 fun st9 =>
  if (st9.1 0 9) = 0 then (some ((1 : Int32), st9)) else sk_oR (K_RuleReader_reads N 3 st9 (2 : Int32)) fun x25 =>
  if x25 = 0 then (some ((2 : Int32), st9)) else sk_oR (K_RuleReader_isPattern N st9 (3 : Int32) (0 : Int32)) fun x36 =>
  if x36 = 0 then (some ((3 : Int32), st9)) else sk_oR (K_RuleReader_reads N 4 st9 (4 : Int32)) fun x48 =>
  if x48 = 0 then (K_RuleReader_read_J67 N st9 x48) else sk_oR (K_RuleReader_isPattern N st9 (5 : Int32) (0 : Int32)) fun x59 =>
  if x59 = 0 then (some ((5 : Int32), st9)) else K_RuleReader_read_J67 N st9 x48
def K_Text_isSame_L19 (N : Nat) (i0 : Nat) (i1 : Nat) (st : sk_M) (self19 : (Int32 × Int32) → Option Int32) : (Int32 × Int32) → Option Int32 := fun z => match z with
  | (v2, v3) => if v2 = 0 then (if v2 &&& 1 = v2 then (some v2) else none) else if (st.1 0 i0) ≤ v3 then (if v2 &&& 1 = v2 then (some v2) else none) else sk_rI (capT i0) (13 + i0) v3 st fun x36 =>
  sk_rI (capT i1) (13 + i1) v3 st fun x42 =>
  if x36 = x42 then (self19 ((1 : Int32), (v3 + 1))) else self19 ((0 : Int32), (v3 + 1))
def K_Text_isSame_J16 (N : Nat) (i0 : Nat) (i1 : Nat) (st : sk_M) (s0 : Int32) : Option Int32 :=
  sk_lp N (K_Text_isSame_L19 N i0 i1 st) (s0, (0 : Int32))
def K_Text_isSame (N : Nat) (i0 : Nat) (i1 : Nat) (st : sk_M) : Option Int32 :=
  if (st.1 0 i0) = (st.1 0 i1) then (K_Text_isSame_J16 N i0 i1 st (1 : Int32)) else K_Text_isSame_J16 N i0 i1 st (0 : Int32)
def K_SF_within (v0 : Int32) (v1 : Int32) (v2 : Int32) : Int32 :=
  if v0 < v1 then ((0 : Int32)) else if v2 < v0 then ((0 : Int32)) else (1 : Int32)
def K_Text_answer (i0 : Nat) (st : sk_M) (v1 : Int32) : Option Int32 :=
  if v1 = (-1 : Int32) then (some (st.1 0 i0)) else if (K_SF_within v1 (0 : Int32) ((st.1 0 i0) - (1 : Int32))) = 0 then (some (-2 : Int32)) else sk_rI (capT i0) (13 + i0) v1 st fun x29 =>
  some x29
def K_Types_relateOne_L142 (N : Nat) (self142 : (sk_M × Int32 × Int32) → Option sk_M) : (sk_M × Int32 × Int32) → Option sk_M := fun z => match z with
  | (st, v1, v4) => if v1 ≤ v4 then (some st) else sk_rL 10 40 v1 st fun x153 =>
  if (K_SF_has x153 v4) = 0 then (self142 (st, v1, (v4 + 1))) else sk_rL 10 42 v1 st fun x168 =>
  sk_rL 10 42 v4 st fun x175 =>
  sk_wL 10 42 v1 (x168 ||| x175) st fun st177 =>
  self142 (st177, v1, (v4 + 1))
def K_Types_relateOne_J57 (N : Nat) (st : sk_M) (v1 : Int32) (s1 : Int32) (s2 : Int32) : Option sk_M :=
  sk_wI 10 39 s1 s2 st fun st57 =>
  sk_rI 10 38 v1 st57 fun x68 =>
  sk_wL 10 40 v1 ((x68.toInt64 &&& ((K_SF_bit v1) - (1 : Int64))) &&& (st57.2 0 12)) st57 fun st82 =>
  sk_rI 10 39 v1 st82 fun x101 =>
  sk_rL 10 41 x101 st82 fun x102 =>
  sk_wL 10 41 v1 ((K_SF_bit v1) ||| x102) st82 fun st104 =>
  sk_rI 10 39 v1 st104 fun x115 =>
  sk_rI 10 39 v1 st104 fun x128 =>
  sk_rL 10 42 x128 st104 fun x129 =>
  sk_rL 10 40 v1 st104 fun x136 =>
  sk_wL 10 42 v1 (((K_SF_bit x115) ||| x129) ||| x136) st104 fun st138 =>
  sk_lp N (K_Types_relateOne_L142 N) (st138, v1, (0 : Int32))
def K_Types_relateOne_J42 (N : Nat) (st : sk_M) (v1 : Int32) (v2 : Int32) (s0 : Int32) : Option sk_M :=
  if s0 = 0 then (K_Types_relateOne_J57 N st v1 v1 (0 : Int32)) else K_Types_relateOne_J57 N st v1 v1 v2
def K_Types_relateOne_J41 (N : Nat) (st : sk_M) (v1 : Int32) (v2 : Int32) : Option sk_M :=
  K_Types_relateOne_J42 N st v1 v2 (0 : Int32)
def K_Types_relateOne (N : Nat) (st : sk_M) (v1 : Int32) : Option sk_M :=
  sk_rI 10 37 v1 st fun x5 =>
  if (K_Types_isThere st x5) = 0 then (K_Types_relateOne_J41 N st v1 x5) else if (K_SF_has (st.2 0 12) x5) = 0 then (if (K_SF_has (st.2 0 12) v1) = 0 then (K_Types_relateOne_J42 N st v1 x5 (1 : Int32)) else K_Types_relateOne_J41 N st v1 x5) else K_Types_relateOne_J41 N st v1 x5
def K_Types_relate_J82 (N : Nat) (self22 : (sk_M × Int32) → Option sk_M) (st : sk_M) (v1 : Int32) : Option sk_M :=
  if v1 ≤ 0 then (self22 (st, (v1 + 1))) else sk_oR (K_Types_relateOne N st v1) fun st88 =>
  self22 (st88, (v1 + 1))
def K_Types_relate_J60 (N : Nat) (self22 : (sk_M × Int32) → Option sk_M) (st : sk_M) (v1 : Int32) : Option sk_M :=
  sk_rI 10 36 v1 st fun x65 =>
  if x65 = 0 then (sk_fL 13 ((st.2 0 13) ||| (K_SF_bit v1)) st fun st79 =>
  K_Types_relate_J82 N self22 st79 v1) else K_Types_relate_J82 N self22 st v1
def K_Types_relate_L22 (N : Nat) (self22 : (sk_M × Int32) → Option sk_M) : (sk_M × Int32) → Option sk_M := fun z => match z with
  | (st, v1) => if (10 : Int32) ≤ v1 then (some st) else if (K_Types_isThere st v1) = 0 then (self22 (st, (v1 + 1))) else sk_rI 10 36 v1 st fun x41 =>
  if (x41 &&& (1 : Int32)) = 0 then (K_Types_relate_J60 N self22 st v1) else sk_fL 12 ((st.2 0 12) ||| (K_SF_bit v1)) st fun st57 =>
  K_Types_relate_J60 N self22 st57 v1
def K_Types_relate (N : Nat) (st : sk_M) : Option sk_M :=
  sk_fL 12 (0 : Int64) st fun st2 =>
  sk_fL 13 (0 : Int64) st2 fun st7 =>
  sk_wL 10 41 (0 : Int32) (K_SF_bit (0 : Int32)) st7 fun st19 =>
  sk_lp N (K_Types_relate_L22 N) (st19, (0 : Int32))
def K_Types_reset (N : Nat) (st : sk_M) : Option sk_M :=
  sk_fL 11 (K_SF_bit (0 : Int32)) st fun st5 =>
  sk_oR (K_Types_relate N st5) fun st9 =>
  some st9
def K_Types_declare (N : Nat) (st : sk_M) (v1 : Int32) (v2 : Int32) (v3 : Int32) (v4 : Int32) (v5 : Int32) : Option sk_M :=
  sk_wI 10 35 v1 v2 st fun st6 =>
  sk_wI 10 36 v1 v3 st6 fun st13 =>
  sk_wI 10 37 v1 v4 st13 fun st21 =>
  sk_wI 10 38 v1 v5 st21 fun st29 =>
  sk_fL 11 ((st29.2 0 11) ||| (K_SF_bit v1)) st29 fun st40 =>
  sk_oR (K_Types_relate N st40) fun st44 =>
  some st44
def K_Types_forget (N : Nat) (st : sk_M) (v1 : Int32) : Option sk_M :=
  sk_fL 11 ((st.2 0 11) &&& ((K_SF_bit v1) ^^^ (-1 : Int64))) st fun st14 =>
  sk_oR (K_Types_relate N st14) fun st18 =>
  some st18
def K_SF_type (N : Nat) (st : sk_M) (v1 : Int32) (v2 : Int32) (v3 : Int32) (v4 : Int32) (v5 : Int32) : Option (Int32 × sk_M) :=
  if (K_SF_within v1 (1 : Int32) (9 : Int32)) = 0 then (some ((0 : Int32), st)) else if (K_SF_within v2 (0 : Int32) (2 : Int32)) = 0 then (some ((0 : Int32), st)) else if (K_SF_within v3 (0 : Int32) (3 : Int32)) = 0 then (some ((0 : Int32), st)) else if (K_SF_within v4 (0 : Int32) (v1 - (1 : Int32))) = 0 then (some ((0 : Int32), st)) else if (K_SF_within v5 (0 : Int32) (1023 : Int32)) = 0 then (some ((0 : Int32), st)) else sk_oR (K_Types_declare N st v1 v2 v3 v4 v5) fun st69 =>
  sk_fI 10 (0 : Int32) st69 fun st74 =>
  some ((1 : Int32), st74)
def K_SF_drop (N : Nat) (st : sk_M) (v1 : Int32) : Option (Int32 × sk_M) :=
  if v1 = 0 then (some ((0 : Int32), st)) else if (K_Types_isThere st v1) = 0 then (some ((0 : Int32), st)) else sk_oR (K_Types_forget N st v1) fun st22 =>
  sk_oR (K_Members_discardAllOf N st22 v1) fun st30 =>
  sk_fI 10 (0 : Int32) st30 fun st35 =>
  some ((1 : Int32), st35)
def K_SF_member_J56 (st : sk_M) (v1 : Int32) (v2 : Int32) (v3 : Int32) (v4 : Int32) (v5 : Int32) (s0 : Int32) (s1 : Int32) (s2 : Int32) : Option (Int32 × sk_M) :=
  if (K_SF_within s0 s1 (s2 - (1 : Int32))) = 0 then (some ((-1 : Int32), st)) else if (K_SF_within v3 (0 : Int32) (1 : Int32)) = 0 then (some ((-1 : Int32), st)) else sk_oR (K_Members_at st v1 (K_SF_signature v5 v2 v3)) fun x91 =>
  if x91 = (-2 : Int32) then (sk_fI 10 (0 : Int32) st fun st103 =>
  sk_oW (K_Members_add st103 v1 (K_SF_signature v5 v2 v3) v4) fun x115 st115 =>
  some (x115, st115)) else some ((-1 : Int32), st)
def K_SF_member_J40 (st : sk_M) (v1 : Int32) (v2 : Int32) (v3 : Int32) (v4 : Int32) (s0 : Int32) : Option (Int32 × sk_M) :=
  if s0 = 0 then (K_SF_member_J56 st v1 v2 v3 v4 s0 v2 (0 : Int32) (6 : Int32)) else K_SF_member_J56 st v1 v2 v3 v4 s0 v2 (0 : Int32) (8 : Int32)
def K_SF_member (st : sk_M) (v1 : Int32) (v2 : Int32) (v3 : Int32) (v4 : Int32) : Option (Int32 × sk_M) :=
  if v1 = 0 then (some ((-1 : Int32), st)) else if (K_Types_isThere st v1) = 0 then (some ((-1 : Int32), st)) else if (K_SF_within v4 (0 : Int32) (7 : Int32)) = 0 then (some ((-1 : Int32), st)) else if (v4 &&& (1 : Int32)) = 0 then (K_SF_member_J40 st v1 v2 v3 v4 (0 : Int32)) else K_SF_member_J40 st v1 v2 v3 v4 (1 : Int32)
def K_SF_remove (st : sk_M) (v1 : Int32) : Option (Int32 × sk_M) :=
  if v1 = 0 then (some ((0 : Int32), st)) else if (K_Members_isAlive st v1) = 0 then (some ((0 : Int32), st)) else sk_oR (K_Members_discard st v1) fun st22 =>
  sk_fI 10 (0 : Int32) st22 fun st27 =>
  some ((1 : Int32), st27)
def K_SF_isWanted (v0 : Int32) (v1 : Int32) (v2 : Int32) : Int32 :=
  if (K_SF_within v0 (0 : Int32) (9 : Int32)) = 0 then ((0 : Int32)) else if (K_SF_within v1 (0 : Int32) (7 : Int32)) = 0 then ((0 : Int32)) else if (K_SF_within v2 (0 : Int32) (1 : Int32)) = 0 then ((0 : Int32)) else (1 : Int32)
def K_SF_refer_J73 (st : sk_M) (v4 : Int32) (v5 : Int32) (s1 : Int32) (s2 : Int32) (s3 : Int32) (s4 : Int32) : Option (Int32 × sk_M) :=
  sk_oW (K_References_add st s1 s2 s3 (K_SF_signature s4 v4 v5)) fun x80 st80 =>
  some (x80, st80)
def K_SF_refer (st : sk_M) (v1 : Int32) (v2 : Int32) (v3 : Int32) (v4 : Int32) (v5 : Int32) : Option (Int32 × sk_M) :=
  if v1 = 0 then (some ((-1 : Int32), st)) else if (K_Members_isAlive st v1) = 0 then (some ((-1 : Int32), st)) else sk_oR (K_Members_hasFlag st v1 (1 : Int32)) fun x21 =>
  if x21 = 0 then (some ((-1 : Int32), st)) else if (K_SF_within v2 (0 : Int32) (5 : Int32)) = 0 then (some ((-1 : Int32), st)) else if (K_SF_isWanted v3 v4 v5) = 0 then (some ((-1 : Int32), st)) else sk_fI 10 (0 : Int32) st fun st53 =>
  if v2 = (2 : Int32) then (K_SF_refer_J73 st53 v4 v5 v1 v2 v3 (0 : Int32)) else K_SF_refer_J73 st53 v4 v5 v1 v2 v3 (1 : Int32)
def K_SF_letter (st : sk_M) (v1 : Int32) : Option (Int32 × sk_M) :=
  if (K_SF_within v1 (32 : Int32) (126 : Int32)) = 0 then (some ((-1 : Int32), st)) else sk_oW (K_Text_put 0 st v1) fun x18 st18 =>
  if x18 = 0 then (some ((-3 : Int32), st18)) else some ((st18.1 0 0), st18)
def K_SF_rule (N : Nat) (st : sk_M) : Option (Int32 × sk_M) :=
  sk_oW (K_RuleReader_read N st) fun x4 st4 =>
  sk_oR (K_Text_wipe 0 st4) fun st12 =>
  if x4 = 0 then (sk_fI 10 (0 : Int32) st12 fun st26 =>
  sk_oW (K_RuleBook_add st26) fun x37 st37 =>
  some (x37, st37)) else some (((-10 : Int32) - x4), st12)
def K_SF_clear_J49 (N : Nat) (st : sk_M) (v2 : Int32) : Option (Int32 × sk_M) :=
  sk_fI 10 (0 : Int32) st fun st51 =>
  some (v2, st51)
def K_SF_clear (N : Nat) (st : sk_M) (v1 : Int32) : Option (Int32 × sk_M) :=
  sk_fI 7 (0 : Int32) st fun st13 =>
  sk_oR (K_Text_wipe 0 st13) fun st20 =>
  if v1 = 0 then (K_SF_clear_J49 N st20 (st.1 0 7)) else sk_oR (K_Types_reset N st20) fun st31 =>
  sk_oR (K_Members_reset N st31) fun st38 =>
  sk_fI 6 (0 : Int32) st38 fun st46 =>
  K_SF_clear_J49 N st46 (st.1 0 7)
def K_SF_settle (N : Nat) (st : sk_M) : Option sk_M :=
  if (st.1 0 10) = 0 then (sk_oR (K_RuleBook_look N st) fun st20 =>
  sk_oR (K_Needs_work N st20) fun st27 =>
  sk_oR (K_Names_work N st27) fun st34 =>
  sk_fI 4 (1 : Int32) st34 fun st42 =>
  sk_fI 10 (1 : Int32) st42 fun st47 =>
  some st47) else some st
def K_SF_needs (N : Nat) (st : sk_M) (v1 : Int32) (v2 : Int32) : Option (Int32 × sk_M) :=
  if (K_SF_within v2 (0 : Int32) (5 : Int32)) = 0 then (some ((-1 : Int32), st)) else if (K_Types_isThere st v1) = 0 then (some ((-2 : Int32), st)) else sk_oR (K_SF_settle N st) fun st26 =>
  if v2 = 0 then (some ((K_SF_asNumber (K_SF_has (st26.2 0 4) v1)), st26)) else if v2 = 1 then (some ((K_SF_asNumber (K_SF_has (st26.2 0 5) v1)), st26)) else if v2 = 2 then (some ((K_SF_asNumber (K_SF_has (st26.2 0 6) v1)), st26)) else if v2 = 3 then (some ((K_SF_asNumber (K_SF_has (st26.2 0 2) v1)), st26)) else if v2 = 4 then (sk_rL 10 42 v1 st26 fun x132 =>
  some ((J_bitCount x132), st26)) else sk_oR (K_RuleBook_greatestAbout N st26 v1) fun x142 =>
  some (x142, st26)
def K_SF_part (N : Nat) (st : sk_M) (v1 : Int32) (v2 : Int32) : Option (Int32 × sk_M) :=
  if (K_SF_within v2 (0 : Int32) (5 : Int32)) = 0 then (some ((-1 : Int32), st)) else if (K_Members_isAlive st v1) = 0 then (some ((-2 : Int32), st)) else sk_oR (K_SF_settle N st) fun st26 =>
  if v2 = 0 then (some ((K_SF_asNumber (K_SF_has (st26.2 0 7) v1)), st26)) else if v2 = 1 then (sk_rI 40 18 v1 st26 fun x94 =>
  some ((K_SF_asNumber (K_SF_has (st26.2 0 3) x94)), st26)) else if v2 = 2 then (sk_rI 40 17 v1 st26 fun x110 =>
  some (x110, st26)) else if v2 = 3 then (sk_rI 40 18 v1 st26 fun x120 =>
  some ((K_SF_wordOf x120), st26)) else if v2 = 4 then (sk_rI 40 18 v1 st26 fun x133 =>
  some ((K_SF_shapeOf x133), st26)) else sk_rI 40 19 v1 st26 fun x146 =>
  some (x146, st26)
def K_SF_found_J64 (N : Nat) (st : sk_M) (v3 : Int32) (v4 : Int32) (v6 : Int64) (s1 : Int32) (s2 : Int32) : Option (Int32 × sk_M) :=
  sk_oR (K_Members_find N st s1 (K_SF_signature s2 v3 v4) v6) fun x72 =>
  some (x72, st)
def K_SF_found_J47 (N : Nat) (st : sk_M) (v1 : Int32) (v2 : Int32) (v3 : Int32) (v4 : Int32) (s0 : Int64) : Option (Int32 × sk_M) :=
  if v1 = (2 : Int32) then (K_SF_found_J64 N st v3 v4 s0 v2 (0 : Int32)) else K_SF_found_J64 N st v3 v4 s0 v2 (1 : Int32)
def K_SF_found (N : Nat) (st : sk_M) (v1 : Int32) (v2 : Int32) (v3 : Int32) (v4 : Int32) (v5 : Int32) : Option (Int32 × sk_M) :=
  if (K_SF_within v1 (2 : Int32) (5 : Int32)) = 0 then (some ((-1 : Int32), st)) else if (K_SF_isWanted v2 v3 v4) = 0 then (some ((-1 : Int32), st)) else sk_oR (K_SF_settle N st) fun st22 =>
  if v5 = 0 then (K_SF_found_J47 N st22 v1 v2 v3 v4 (st22.2 0 0)) else K_SF_found_J47 N st22 v1 v2 v3 v4 (st22.2 0 7)
def K_SF_selected_J37 (N : Nat) (st : sk_M) (v1 : Int32) (v2 : Int32) (v3 : Int32) (s0 : Int64) : Option (Int32 × sk_M) :=
  sk_oR (K_Members_find N st v1 (K_SF_signature (1 : Int32) v2 v3) (s0 &&& (st.2 0 1))) fun x60 =>
  some (x60, st)
def K_SF_selected (N : Nat) (st : sk_M) (v1 : Int32) (v2 : Int32) (v3 : Int32) (v4 : Int32) : Option (Int32 × sk_M) :=
  if (K_SF_isWanted v1 v2 v3) = 0 then (some ((-1 : Int32), st)) else sk_oR (K_SF_settle N st) fun st12 =>
  if v4 = 0 then (K_SF_selected_J37 N st12 v1 v2 v3 (st12.2 0 0)) else K_SF_selected_J37 N st12 v1 v2 v3 (st12.2 0 7)
def K_SF_name_J81 (N : Nat) (st : sk_M) (v3 : Int32) : Option (Int32 × sk_M) :=
  sk_oR (K_Text_answer 1 st v3) fun x86 =>
  some (x86, st)
def K_SF_name_J25 (N : Nat) (st : sk_M) (v1 : Int32) (v2 : Int32) (v3 : Int32) (s0 : Int64) : Option (Int32 × sk_M) :=
  if (K_SF_has s0 v2) = 0 then (some ((-2 : Int32), st)) else sk_oR (K_Text_wipe 1 st) fun st39 =>
  if v1 = 0 then (sk_oR (K_Names_tellName 1 st39 v2) fun st78 =>
  K_SF_name_J81 N st78 v3) else sk_rI 40 18 v2 st39 fun x62 =>
  sk_oR (K_Names_tellText N 1 st39 x62) fun st63 =>
  K_SF_name_J81 N st63 v3
def K_SF_name (N : Nat) (st : sk_M) (v1 : Int32) (v2 : Int32) (v3 : Int32) : Option (Int32 × sk_M) :=
  sk_oR (K_SF_settle N st) fun st1 =>
  if v1 = 0 then (K_SF_name_J25 N st1 v1 v2 v3 (st1.2 0 4)) else K_SF_name_J25 N st1 v1 v2 v3 (st1.2 0 7)
def K_SF_mapping (N : Nat) (st : sk_M) (v1 : Int32) : Option (Int32 × sk_M) :=
  sk_oR (K_SF_settle N st) fun st1 =>
  sk_oR (K_Mapping_write N st1) fun st8 =>
  sk_oR (K_Text_answer 3 st8 v1) fun x19 =>
  some (x19, st8)
def K_SF_classNamedByDraft_L2 (N : Nat) (self2 : (sk_M × Int32) → Option (Int32 × sk_M)) : (sk_M × Int32) → Option (Int32 × sk_M) := fun z => match z with
  | (st, v1) => if (10 : Int32) ≤ v1 then (some ((-2 : Int32), st)) else if (K_SF_has (st.2 0 4) v1) = 0 then (self2 (st, (v1 + 1))) else sk_oR (K_Text_wipe 1 st) fun st26 =>
  sk_oR (K_Names_tellName 1 st26 v1) fun st38 =>
  sk_oR (K_Text_isSame N 1 0 st38) fun x49 =>
  if x49 = 0 then (self2 (st38, (v1 + 1))) else some (v1, st38)
def K_SF_classNamedByDraft (N : Nat) (st : sk_M) : Option (Int32 × sk_M) :=
  sk_lp N (K_SF_classNamedByDraft_L2 N) (st, (0 : Int32))
def K_SF_memberWithText_L3 (N : Nat) (self3 : (sk_M × Int32 × Int32 × Int32 × Int32 × Int32) → Option (Int32 × sk_M)) : (sk_M × Int32 × Int32 × Int32 × Int32 × Int32) → Option (Int32 × sk_M) := fun z => match z with
  | (st, v1, v2, v3, v4, v5) => if (8 : Int32) ≤ v5 then (some ((-2 : Int32), st)) else sk_oR (K_Members_at st v1 (K_SF_signature v4 v5 v3)) fun x27 =>
  if (K_SF_has (st.2 0 7) x27) = 0 then (self3 (st, v1, v2, v3, v4, (v5 + 1))) else sk_oR (K_Text_wipe 1 st) fun st51 =>
  sk_oR (K_Names_tellText N 1 st51 (K_SF_signature v4 v5 v3)) fun st64 =>
  sk_oR (K_Text_answer 1 st64 (0 : Int32)) fun x72 =>
  if x72 = v2 then (some (x27, st64)) else self3 (st64, v1, v2, v3, v4, (v5 + 1))
def K_SF_memberWithText (N : Nat) (st : sk_M) (v1 : Int32) (v2 : Int32) (v3 : Int32) (v4 : Int32) : Option (Int32 × sk_M) :=
  sk_lp N (K_SF_memberWithText_L3 N) (st, v1, v2, v3, v4, (0 : Int32))
def K_SF_trace_J15 (N : Nat) (st : sk_M) (v1 : Int32) (v2 : Int32) (v3 : Int32) : Option (Int32 × sk_M) :=
  if (K_SF_within v2 (0 : Int32) (1 : Int32)) = 0 then (some ((-1 : Int32), st)) else sk_oR (K_SF_settle N st) fun st27 =>
  sk_oW (K_SF_classNamedByDraft N st27) fun x31 st31 =>
  if x31 = (-2 : Int32) then (some (x31, st31)) else if v1 = 0 then (some (x31, st31)) else sk_oW (K_SF_memberWithText N st31 x31 v1 v2 v3) fun x56 st56 =>
  some (x56, st56)
def K_SF_trace (N : Nat) (st : sk_M) (v1 : Int32) (v2 : Int32) (v3 : Int32) : Option (Int32 × sk_M) :=
  if v1 = 0 then (K_SF_trace_J15 N st v1 v2 v3) else if (K_SF_within v1 (97 : Int32) (122 : Int32)) = 0 then (some ((-1 : Int32), st)) else K_SF_trace_J15 N st v1 v2 v3
def K_SF_count (N : Nat) (st : sk_M) (v1 : Int32) : Option (Int32 × sk_M) :=
  if (K_SF_within v1 (0 : Int32) (9 : Int32)) = 0 then (some ((-1 : Int32), st)) else sk_oR (K_SF_settle N st) fun st13 =>
  if v1 = 0 then (some ((J_bitCount (st13.2 0 11)), st13)) else if v1 = 1 then (some ((J_bitCount (st13.2 0 0)), st13)) else if v1 = 2 then (some ((st13.1 0 6), st13)) else if v1 = 3 then (some ((st13.1 0 7), st13)) else if v1 = 4 then (some ((J_bitCount (st13.2 0 4)), st13)) else if v1 = 5 then (some ((J_bitCount (st13.2 0 5)), st13)) else if v1 = 6 then (some ((J_bitCount (st13.2 0 6)), st13)) else if v1 = 7 then (some ((J_bitCount (st13.2 0 7)), st13)) else if v1 = 8 then (sk_oR (K_Needs_countReferences N st13) fun x154 =>
  some (x154, st13)) else sk_oR (K_Needs_countMisses N st13) fun x162 =>
  some (x162, st13)
theorem bz_K_SF_has (x : Int64) (y : Int32) : K_SF_has x y &&& 1 = K_SF_has x y := by
  unfold K_SF_has
  repeat' split
  all_goals decide
