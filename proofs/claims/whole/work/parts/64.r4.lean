/-! WHAT IS NEEDED, worked out by the class -/
def kS (k : sk_M) (i x : Nat) : Prop := i < 4 ∧ lb (k.2 0 (4 + i)) x = true
def KA (σ : Ab) (k : sk_M) : Prop := ∀ r, r < σ 0 3 → (∀ c, lb (k.2 31 r) c = true ↔ abt σ r c) ∧ ∀ x, lb (k.2 32 r) x = true ↔ mnt σ r x
def Kn (k k' : sk_M) : Prop := k'.1 = k.1 ∧ ∀ q i, (q ≠ 0 ∨ i < 4 ∨ 7 < i) → k'.2 q i = k.2 q i
theorem Kn.kb {k k' : sk_M} (h : Kn k k') : Kb k k' := ⟨fun q i _ => by rw [h.1], fun q i a => h.2 q i (by unfold cbL at a; omega)⟩
theorem Kn.tr {k k' k'' : sk_M} (h : Kn k k') (h' : Kn k' k'') : Kn k k'' := ⟨h'.1.trans h.1, fun q i a => (h'.2 q i a).trans (h.2 q i a)⟩
theorem KA.kn {σ : Ab} {k k' : sk_M} (h : KA σ k) (e : Kn k k') : KA σ k' := fun r hr => by
  rw [e.2 31 r (by omega), e.2 32 r (by omega)]; exact h r hr
def GN (σ : Ab) (k : sk_M) : Prop := RB σ k ∧ KA σ k ∧ ∀ i x, kS k i x → ND σ i x
def PN (σ : Ab) (k k' : sk_M) : Prop := GN σ k' ∧ Kn k k' ∧ ∀ i x, kS k i x → kS k' i x
def SE (k k' : sk_M) : Prop := ∀ i x, kS k' i x → kS k i x
theorem PN.rf {σ : Ab} {k : sk_M} (h : GN σ k) : PN σ k k := ⟨h, ⟨rfl, fun _ _ _ => rfl⟩, fun _ _ h => h⟩
theorem PN.tr {σ : Ab} {k k' k'' : sk_M} (h : PN σ k k') (h' : PN σ k' k'') : PN σ k k'' := ⟨h'.1, h.2.1.tr h'.2.1, fun i x a => h'.2.2 i x (h.2.2 i x a)⟩
theorem SE.l {σ : Ab} {k k' k'' : sk_M} (h' : PN σ k' k'') (e : SE k k'') : SE k k' := fun i x a => e i x (h'.2.2 i x a)
theorem SE.r {σ : Ab} {k k' k'' : sk_M} (h : PN σ k k') (e : SE k k'') : SE k' k'' := fun i x a => h.2.2 i x (e i x a)
theorem SE.q {σ : Ab} {k k' : sk_M} (h : PN σ k k') (e : SE k k') : kS k' = kS k := by
  funext i x
  exact propext ⟨e i x, h.2.2 i x⟩
/-- what holds if nothing was added -/
def QN (k k' : sk_M) (T : (Nat → Nat → Prop) → Prop) : Prop := SE k k' → T (kS k)
section
variable {σ : Ab} {k : sk_M} {N : Nat}
theorem QN.tr {k' k'' : sk_M} {T : (Nat → Nat → Prop) → Prop} (h' : PN σ k' k'') (q : QN k k' T) : QN k k'' T := fun e => q (SE.l h' e)
theorem QN.of {k' k'' : sk_M} {T : (Nat → Nat → Prop) → Prop} (h : PN σ k k') (h' : PN σ k' k'') (q : QN k' k'' T) : QN k k'' T := fun e => by
  have := q (SE.r h e)
  rw [SE.q h (SE.l h' e)] at this
  exact this
theorem or_pn (hG : GN σ k) {i : Nat} (hi : i < 4) {s : Int64} (hs : ∀ x, lb s x = true → ND σ i x) : PN σ k (sk_wl k 0 (4 + i) (k.2 0 (4 + i) ||| s)) ∧ ∀ x, lb s x = true → kS (sk_wl k 0 (4 + i) (k.2 0 (4 + i) ||| s)) i x := by
  have kn : Kn k (sk_wl k 0 (4 + i) (k.2 0 (4 + i) ||| s)) := ⟨rfl, fun q j a => by rw [w2_n (by omega)]⟩
  have row : ∀ j x, kS (sk_wl k 0 (4 + i) (k.2 0 (4 + i) ||| s)) j x ↔ kS k j x ∨ (j = i ∧ lb s x = true) := fun j x => by
    unfold kS
    by_cases e : j = i
    · subst e
      rw [w2_s, lb_or, Bool.or_eq_true]
      exact ⟨fun q => q.2.elim (fun z => Or.inl ⟨q.1, z⟩) (fun z => Or.inr ⟨rfl, z⟩), fun q => q.elim (fun z => ⟨z.1, Or.inl z.2⟩) (fun z => ⟨hi, Or.inr z.2⟩)⟩
    · rw [w2_n (by omega)]
      exact ⟨Or.inl, fun q => q.elim id (fun z => absurd z.1 e)⟩
  refine ⟨⟨⟨hG.1.same kn.kb, hG.2.1.kn kn, fun j x a => ?_⟩, kn, fun j x a => (row j x).mpr (Or.inl a)⟩, fun x a => (row i x).mpr (Or.inr ⟨rfl, a⟩)⟩
  rcases (row j x).mp a with a' | ⟨e, a'⟩
  · exact hG.2.2 j x a'
  · rw [e]; exact hs x a'
theorem bit_pn (hG : GN σ k) {i c : Nat} (hi : i < 4) (hc : c < 64) (hn : ND σ i c) : PN σ k (sk_wl k 0 (4 + i) (k.2 0 (4 + i) ||| K_SF_bit (nI c))) ∧ kS (sk_wl k 0 (4 + i) (k.2 0 (4 + i) ||| K_SF_bit (nI c))) i c := by
  have h := or_pn hG hi (s := K_SF_bit (nI c)) (fun x hx => by rw [lb_bit hc, decide_eq_true_eq] at hx; rw [hx]; exact hn)
  exact ⟨h.1, h.2 c (by rw [lb_bit hc]; exact decide_eq_true rfl)⟩
theorem GN.nd (hI : IA σ) (hG : GN σ k) {i x : Nat} (h : kS k i x) : (i < 3 → x < 10 ∧ σ 1 x = 1) ∧ (i = 3 → alive σ x) := nd_th hI i x (hG.2.2 i x h)
theorem k_ofNeeded (hI : IA σ) (hM : KM σ k) (hN : 80 < N) (s : Int64) : Ev (K_Needs_ofNeededClasses N k s) (fun r => ∀ x, lb r x = true ↔ lb s x = true ∧ (x < σ 0 0 → kS k 0 (σ 8 x))) := by
  have hn := hI.1.2.1
  unfold K_Needs_ofNeededClasses
  refine ev_lp (fun n z => ∃ v i, z = (v, nI i) ∧ i + n = σ 0 0 ∧ ∀ x, lb v x = true ↔ lb s x = true ∧ (x < i → kS k 0 (σ 8 x))) ?_ N (σ 0 0) _ (by omega) ⟨s, 0, rfl, by omega, fun x => ⟨fun h => ⟨h, fun z => by omega⟩, fun h => h.1⟩⟩
  rintro n z self ⟨v, i, rfl, hin, hv⟩ ih
  unfold K_Needs_ofNeededClasses_L5
  dsimp only
  refine ev_le (σ 0 0) i (hu := hM.1) (fun h => ?_) (fun hi => ?_)
  · rw [show i = σ 0 0 by omega] at hv
    exact ev_some hv
  have b8 := (hI.2.2.2.1 i hi).1
  refine ev_rI (by omega) (by decide) ?_
  rw [(hM.2.1 i hi).1]
  refine ev_has (σ 8 i) (by omega) (P := kS k 0 (σ 8 i)) ⟨fun h => ⟨by omega, h⟩, fun h => h.2⟩ (fun h => ?_) (fun h => ?_)
  · rw [nI_1]
    refine ih (n - 1) _ (by omega) ⟨_, i + 1, rfl, by omega, fun x => ?_⟩
    rw [lb_and, Bool.and_eq_true, hv]
    rcases Nat.lt_or_ge x 64 with q | q
    · rw [lb_not _ q, lb_bit (by omega)]
      constructor
      · rintro ⟨⟨h1, h2⟩, h3⟩
        refine ⟨h1, fun z => ?_⟩
        rcases Nat.lt_or_ge x i with y | y
        · exact h2 y
        · rw [show x = i by omega] at h3; simp at h3
      · rintro ⟨h1, h2⟩
        refine ⟨⟨h1, fun z => h2 (by omega)⟩, ?_⟩
        simp
        intro e
        subst e
        exact h (h2 (by omega))
    · constructor
      · rintro ⟨⟨h1, h2⟩, h3⟩
        rw [lb_big q] at h3; cases h3
      · rintro ⟨h1, h2⟩
        rw [lb_big q] at h1; cases h1
  · rw [nI_1]
    refine ih (n - 1) _ (by omega) ⟨v, i + 1, rfl, by omega, fun x => ?_⟩
    rw [hv]
    constructor
    · rintro ⟨h1, h2⟩
      refine ⟨h1, fun z => ?_⟩
      rcases Nat.lt_or_ge x i with y | y
      · exact h2 y
      · rw [show x = i by omega]; exact h
    · rintro ⟨h1, h2⟩
      exact ⟨h1, fun z => h2 (by omega)⟩
theorem k_addKept (hI : IA σ) (hG : GN σ k) (hN : 80 < N) : Ev (K_Needs_addKept N k) (fun k' => PN σ k k' ∧ ∀ r, r < σ 0 3 → (∀ c, σ 20 r = 0 → abt σ r c → kS k' 0 c ∧ kS k' 2 c ∧ (σ 3 c = 0 → σ 2 c = 0 → kS k' 1 c)) ∧ ∀ x, σ 20 r = 0 → mnt σ r x → kS k' 3 x) := by
  have h8 := hI.1.2.2.2.2
  have CL0 := ND_CL σ
  unfold K_Needs_addKept
  refine ev_lp (fun n z => ∃ st i, z = (st, nI i) ∧ i + n = σ 0 3 ∧ PN σ k st ∧ ∀ r, r < i → (∀ c, σ 20 r = 0 → abt σ r c → kS st 0 c ∧ kS st 2 c ∧ (σ 3 c = 0 → σ 2 c = 0 → kS st 1 c)) ∧ ∀ x, σ 20 r = 0 → mnt σ r x → kS st 3 x) ?_ N (σ 0 3) _ (by omega) ⟨k, 0, rfl, by omega, PN.rf hG, fun r h => by omega⟩
  rintro n z self ⟨st, r, rfl, hrn, hP, hd⟩ ih
  have hB := hP.1.1.2.2.2.2.2
  unfold K_Needs_addKept_L2
  dsimp only
  refine ev_le (σ 0 3) r (hu := hB.1) (fun h => ?_) (fun hr => ?_)
  · rw [show r = σ 0 3 by omega] at hd
    exact ev_some ⟨hP, hd⟩
  have s20 := (hI.2.2.2.2.2.2.2.2 r hr).1
  obtain ⟨ab, mn⟩ := hP.1.2.1 r hr
  refine ev_rI (by omega) (by decide) ?_
  refine ev_qn (σ 20 r + 1) 1 (hu := (hB.2 r hr).1) (fun h => ?_) (fun h => ?_)
  · have h : σ 20 r = 0 := by omega
    have cl := CL0.2.2.1 r hr
    refine ev_rL (by omega) (by decide) ?_
    refine ev_fL ?_
    have o1 := or_pn hP.1 (i := 0) (by omega) (s := st.2 31 r) (fun x hx => (cl.1 x h ((ab x).mp hx)).1)
    obtain ⟨st1, e1⟩ : ∃ s, s = sk_wl st 0 4 (st.2 0 4 ||| st.2 31 r) := ⟨_, rfl⟩
    rw [← e1]
    have o1 : PN σ st st1 ∧ ∀ x, lb (st.2 31 r) x = true → kS st1 0 x := by rw [e1]; exact o1
    refine ev_rL (by omega) (by decide) ?_
    refine ev_fL ?_
    rw [o1.1.2.1.2 31 r (by omega)]
    have o2 := or_pn o1.1.1 (i := 2) (by omega) (s := st.2 31 r) (fun x hx => (cl.1 x h ((ab x).mp hx)).2.1)
    obtain ⟨st2, e2⟩ : ∃ s, s = sk_wl st1 0 6 (st1.2 0 6 ||| st.2 31 r) := ⟨_, rfl⟩
    rw [← e2]
    have o2 : PN σ st1 st2 ∧ ∀ x, lb (st.2 31 r) x = true → kS st2 2 x := by rw [e2]; exact o2
    refine ev_rL (by omega) (by decide) ?_
    refine ev_fL ?_
    have p2 := o1.1.tr o2.1
    rw [p2.2.1.2 31 r (by omega), p2.2.1.2 0 13 (by omega)]
    have mk := hP.1.1.2.1.2.1
    have o3 := or_pn o2.1.1 (i := 1) (by omega) (s := st.2 31 r &&& st.2 0 13) (fun x hx => by
      rw [lb_and, Bool.and_eq_true, ab, mk] at hx
      exact (cl.1 x h hx.1).2.2 hx.2.2.2.2 hx.2.2.2.1)
    obtain ⟨st3, e3⟩ : ∃ s, s = sk_wl st2 0 5 (st2.2 0 5 ||| (st.2 31 r &&& st.2 0 13)) := ⟨_, rfl⟩
    rw [← e3]
    have o3 : PN σ st2 st3 ∧ ∀ x, lb (st.2 31 r &&& st.2 0 13) x = true → kS st3 1 x := by rw [e3]; exact o3
    refine ev_rL (by omega) (by decide) ?_
    refine ev_fL ?_
    have p3 := p2.tr o3.1
    rw [p3.2.1.2 32 r (by omega)]
    have o4 := or_pn o3.1.1 (i := 3) (by omega) (s := st.2 32 r) (fun x hx => cl.2.1 x h ((mn x).mp hx))
    obtain ⟨st4, e4⟩ : ∃ s, s = sk_wl st3 0 7 (st3.2 0 7 ||| st.2 32 r) := ⟨_, rfl⟩
    rw [← e4]
    have o4 : PN σ st3 st4 ∧ ∀ x, lb (st.2 32 r) x = true → kS st4 3 x := by rw [e4]; exact o4
    have p4 := p3.tr o4.1
    rw [nI_1]
    refine ih (n - 1) _ (by omega) ⟨st4, r + 1, rfl, by omega, hP.tr p4, fun r' h' => ?_⟩
    rcases Nat.lt_or_ge r' r with q | q
    · exact ⟨fun c g1 g2 => by obtain ⟨u1, u2, u3⟩ := (hd r' q).1 c g1 g2; exact ⟨p4.2.2 _ _ u1, p4.2.2 _ _ u2, fun a b => p4.2.2 _ _ (u3 a b)⟩, fun x g1 g2 => p4.2.2 _ _ ((hd r' q).2 x g1 g2)⟩
    · rw [show r' = r by omega]
      refine ⟨fun c _ g2 => ⟨(o2.1.tr (o3.1.tr o4.1)).2.2 _ _ (o1.2 c ((ab c).mpr g2)), (o3.1.tr o4.1).2.2 _ _ (o2.2 c ((ab c).mpr g2)), fun a b => o4.1.2.2 _ _ (o3.2 c ?_)⟩, fun x _ g2 => o4.2 x ((mn x).mpr g2)⟩
      rw [lb_and, Bool.and_eq_true, ab, mk]
      exact ⟨g2, g2.2.1, g2.2.2.1, b, a⟩
  · rw [nI_1]
    refine ih (n - 1) _ (by omega) ⟨st, r + 1, rfl, by omega, hP, fun r' h' => ?_⟩
    rcases Nat.lt_or_ge r' r with q | q
    · exact hd r' q
    · rw [show r' = r by omega]
      exact ⟨fun c g1 _ => by omega, fun x g1 _ => by omega⟩
theorem k_addByKeepMembers (hI : IA σ) (hG : GN σ k) (hN : 80 < N) : Ev (K_Needs_addByKeepMembers N k) (fun k' => PN σ k k' ∧ QN k k' (fun S => ∀ r, r < σ 0 3 → ∀ x, σ 20 r = 2 → S 0 (σ 8 x) → mnt σ r x → S 3 x)) := by
  have h8 := hI.1.2.2.2.2
  have CL0 := ND_CL σ
  unfold K_Needs_addByKeepMembers
  refine ev_lp (fun n z => ∃ st i, z = (st, nI i) ∧ i + n = σ 0 3 ∧ PN σ k st ∧ QN k st (fun S => ∀ r, r < i → ∀ x, σ 20 r = 2 → S 0 (σ 8 x) → mnt σ r x → S 3 x)) ?_ N (σ 0 3) _ (by omega) ⟨k, 0, rfl, by omega, PN.rf hG, fun _ r h => by omega⟩
  rintro n z self ⟨st, r, rfl, hrn, hP, hd⟩ ih
  have hB := hP.1.1.2.2.2.2.2
  unfold K_Needs_addByKeepMembers_L2
  dsimp only
  refine ev_le (σ 0 3) r (hu := hB.1) (fun h => ?_) (fun hr => ?_)
  · rw [show r = σ 0 3 by omega] at hd
    exact ev_some ⟨hP, hd⟩
  have s20 := (hI.2.2.2.2.2.2.2.2 r hr).1
  obtain ⟨ab, mn⟩ := hP.1.2.1 r hr
  refine ev_rI (by omega) (by decide) ?_
  refine ev_qn (σ 20 r + 1) 3 (hu := (hB.2 r hr).1) (fun h => ?_) (fun h => ?_)
  · have h : σ 20 r = 2 := by omega
    refine ev_rL (by omega) (by decide) ?_
    refine ev_oR (k_ofNeeded hI hP.1.1.2.2.1 hN _) (fun s hs => ?_)
    refine ev_fL ?_
    have o1 := or_pn hP.1 (i := 3) (by omega) (s := s) (fun x hx => by
      have q := (hs x).mp hx
      have m := (mn x).mp q.1
      exact (CL0.2.2.1 r hr).2.2 x h (hP.1.2.2 0 _ (q.2 m.1.1)) m)
    rw [nI_1]
    refine ih (n - 1) _ (by omega) ⟨_, r + 1, rfl, by omega, hP.tr o1.1, fun e r' h' x g1 g2 g3 => ?_⟩
    have e0 := SE.l o1.1 e
    rcases Nat.lt_or_ge r' r with q | q
    · exact hd e0 r' q x g1 g2 g3
    · rw [show r' = r by omega] at g3
      refine e 3 x (o1.2 x ((hs x).mpr ⟨(mn x).mpr g3, fun _ => ?_⟩))
      rw [SE.q hP e0]; exact g2
  · rw [nI_1]
    refine ih (n - 1) _ (by omega) ⟨st, r + 1, rfl, by omega, hP, fun e r' h' x g1 g2 g3 => ?_⟩
    rcases Nat.lt_or_ge r' r with q | q
    · exact hd e r' q x g1 g2 g3
    · rw [show r' = r by omega] at g1; omega
theorem k_addByMembers (hI : IA σ) (hG : GN σ k) (hN : 80 < N) : Ev (K_Needs_addByMembers N k) (fun k' => PN σ k k' ∧ QN k k' (fun S => ∀ x, x < σ 0 0 → S 3 x → S 0 (σ 8 x))) := by
  have hn := hI.1.2.1
  have CL0 := ND_CL σ
  unfold K_Needs_addByMembers
  refine ev_lp (fun n z => ∃ st i, z = (st, nI i) ∧ i + n = σ 0 0 ∧ PN σ k st ∧ QN k st (fun S => ∀ x, x < i → S 3 x → S 0 (σ 8 x))) ?_ N (σ 0 0) _ (by omega) ⟨k, 0, rfl, by omega, PN.rf hG, fun _ r h => by omega⟩
  rintro n z self ⟨st, x, rfl, hxn, hP, hd⟩ ih
  have hM := hP.1.1.2.2.1
  unfold K_Needs_addByMembers_L2
  dsimp only
  refine ev_le (σ 0 0) x (hu := hM.1) (fun h => ?_) (fun hx => ?_)
  · rw [show x = σ 0 0 by omega] at hd
    exact ev_some ⟨hP, hd⟩
  have b8 := (hI.2.2.2.1 x hx).1
  refine ev_has x (by omega) (P := kS st 3 x) ⟨fun h => ⟨by omega, h⟩, fun h => h.2⟩ (fun h => ?_) (fun h => ?_)
  · rw [nI_1]
    refine ih (n - 1) _ (by omega) ⟨st, x + 1, rfl, by omega, hP, fun e y hy g => ?_⟩
    rcases Nat.lt_or_ge y x with q | q
    · exact hd e y q g
    · rw [show y = x by omega] at g
      exact absurd (hP.2.2 _ _ g) h
  · refine ev_rI (by omega) (by decide) ?_
    rw [(hM.2.1 x hx).1]
    refine ev_fL ?_
    have o1 := bit_pn hP.1 (i := 0) (c := σ 8 x) (by omega) (by omega) (CL0.2.2.2.2.1 x hx (hP.1.2.2 3 x h))
    rw [nI_1]
    refine ih (n - 1) _ (by omega) ⟨_, x + 1, rfl, by omega, hP.tr o1.1, fun e y hy g => ?_⟩
    rcases Nat.lt_or_ge y x with q | q
    · exact hd (SE.l o1.1 e) y q g
    · rw [show y = x by omega]
      exact e 0 _ o1.2
/-- the class's find, as the reference's -/
theorem k_findS (hI : IA σ) (hB : RB σ k) (hN : 80 < N) {c g : Nat} (hc : c < 10) (hg : g < 32) (h16 : 16 ≤ g) : Ev (K_Members_find N k (nI c) (nI g) (k.2 0 1)) (fun r => FO σ c g (fun y => σ 11 y < 2) r) := by
  refine (k_find hI hB.1 hB.2.1 hB.2.2.1 hN hc hg (A := fun y => alive σ y ∧ σ 11 y = 1) (fun i _ => hB.2.2.1.2.2.2.1 i)).mono (fun r hr => ?_)
  obtain ⟨o, h1, h2, h3⟩ := hr
  refine ⟨o, h1, h2, fun h => LK_cong (fun x ha hs => ?_) (h3 h)⟩
  have b := hI.2.2.2.1 x ha.1
  unfold sgn at hs
  exact ⟨fun z => by omega, fun z => ⟨ha, by omega⟩⟩
theorem k_findA (hI : IA σ) (hB : RB σ k) (hN : 80 < N) {c g : Nat} (hc : c < 10) (hg : g < 32) : Ev (K_Members_find N k (nI c) (nI g) (k.2 0 0)) (fun r => FO σ c g (fun _ => True) r) := by
  refine (k_find hI hB.1 hB.2.1 hB.2.2.1 hN hc hg (A := alive σ) (fun i _ => hB.2.2.1.2.2.1 i)).mono (fun r hr => ?_)
  obtain ⟨o, h1, h2, h3⟩ := hr
  exact ⟨o, h1, h2, fun h => LK_cong (fun x ha hs => ⟨fun _ => trivial, fun _ => ha⟩) (h3 h)⟩
theorem oI_no {x : Nat} (hx : x < 40) : ¬ oI (some x) = -2 := fun z => by
  have := nI_pos (n := x) (by omega)
  rw [show nI x = -2 from z] at this
  exact this (by decide)
theorem k_addSelected (hI : IA σ) (hG : GN σ k) (hN : 80 < N) {c g : Nat} (hc : c < 10) (hg : g < 32) (h16 : 16 ≤ g) (hs : ∀ d x, d < 10 → ND σ 1 d → (d = c ∨ abv σ d c) → LK σ d g (fun y => σ 11 y < 2) (some x) → ND σ 3 x) : Ev (K_Needs_addSelected N k (nI c) (nI g)) (fun k' => PN σ k k' ∧ QN k k' (fun S => ∀ d x, d < 10 → S 1 d → (d = c ∨ abv σ d c) → LK σ d g (fun y => σ 11 y < 2) (some x) → S 3 x)) := by
  have hn := hI.1.2.1
  unfold K_Needs_addSelected
  refine ev_lp (fun n z => ∃ st i, z = (st, nI c, nI g, nI i) ∧ i + n = 10 ∧ PN σ k st ∧ QN k st (fun S => ∀ d x, d < i → S 1 d → (d = c ∨ abv σ d c) → LK σ d g (fun y => σ 11 y < 2) (some x) → S 3 x)) ?_ N (10 - c) _ (by omega) ⟨k, c, rfl, by omega, PN.rf hG, fun _ d x h1 h2 h3 => by
    rcases h3 with h3 | h3
    · omega
    · have := abv_lt hI d (by omega) c h3; omega⟩
  rintro n z self ⟨st, d, rfl, hdn, hP, hd⟩ ih
  unfold K_Needs_addSelected_L2
  dsimp only
  refine ev_le 10 d (fun h => ?_) (fun hd10 => ?_)
  · rw [show d = 10 by omega] at hd
    exact ev_some ⟨hP, hd⟩
  have next : (∀ x, kS k 1 d → (d = c ∨ abv σ d c) → LK σ d g (fun y => σ 11 y < 2) (some x) → False) → Ev (self (st, nI c, nI g, nI d + 1)) (fun k' => PN σ k k' ∧ QN k k' (fun S => ∀ d x, d < 10 → S 1 d → (d = c ∨ abv σ d c) → LK σ d g (fun y => σ 11 y < 2) (some x) → S 3 x)) := fun hx => by
    rw [nI_1]
    refine ih (n - 1) _ (by omega) ⟨st, d + 1, rfl, by omega, hP, fun e d' x h1 h2 h3 h4 => ?_⟩
    rcases Nat.lt_or_ge d' d with q | q
    · exact hd e d' x q h2 h3 h4
    · rw [show d' = d by omega] at h2 h3 h4
      exact (hx x h2 h3 h4).elim
  refine ev_has d (by omega) (P := kS st 1 d) ⟨fun h => ⟨by omega, h⟩, fun h => h.2⟩ (fun h => next (fun x g1 _ _ => h (hP.2.2 _ _ g1))) (fun h => ?_)
  have th := ((hP.1.nd hI h).1 (by omega)).2
  have hU : Ev (K_Types_isUnder st (nI d) (nI c)) (fun r => (r = 0 ∧ ¬ (d = c ∨ abv σ d c)) ∨ (r = 1 ∧ (d = c ∨ abv σ d c))) := by
    unfold K_Types_isUnder
    refine ev_qn d c (fun h => ev_some (Or.inr ⟨rfl, Or.inl h⟩)) (fun h => ?_)
    refine ev_rL hd10 (by decide) ?_
    exact ev_has c (by omega) ((hP.1.1.2.1.2.2.2 d hd10 th).2.2 c) (fun h2 => ev_some (Or.inl ⟨rfl, fun z => z.elim h h2⟩)) (fun h2 => ev_some (Or.inr ⟨rfl, Or.inr h2⟩))
  refine ev_oR hU (fun r hr => ?_)
  rcases hr with ⟨rfl, hr⟩ | ⟨rfl, hr⟩
  · rw [if_pos rfl]
    exact next (fun x _ g2 _ => hr g2)
  rw [if_neg (by decide)]
  refine ev_oR (k_findS hI hP.1.1 hN hd10 hg h16) (fun r hf => ?_)
  obtain ⟨o, rfl, _, hl⟩ := hf
  have hl := hl th
  cases o with
  | none =>
    rw [if_pos (show oI none = -2 from rfl)]
    exact next (fun x _ _ g3 => by have := LK_unique hI hl g3; cases this)
  | some x =>
    have hx := (LK_lt hl).1.1
    rw [if_neg (oI_no (by omega))]
    refine ev_fL ?_
    have o1 := bit_pn hP.1 (i := 3) (c := x) (by omega) (by omega) (hs d x hd10 (hP.1.2.2 1 d h) hr hl)
    rw [nI_1]
    refine ih (n - 1) _ (by omega) ⟨_, d + 1, rfl, by omega, hP.tr o1.1, fun e d' x' h1 h2 h3 h4 => ?_⟩
    rcases Nat.lt_or_ge d' d with q | q
    · exact hd (SE.l o1.1 e) d' x' q h2 h3 h4
    · rw [show d' = d by omega] at h4
      have := LK_unique hI hl h4
      cases this
      exact e 3 x o1.2
theorem gI_lt {i : Nat} (hI : IA σ) (hi : i < σ 0 1) : gI σ i < 32 := by
  obtain ⟨g1, g2, g3, g4, g5, g6, g7⟩ := hI.2.2.2.2.2.2.1 i hi
  unfold gI; split <;> omega
theorem k_hasFlag2 (hI : IA σ) (hM : KM σ k) {x : Nat} (hx : x < σ 0 0) : Ev (K_Members_hasFlag k (nI x) 2) (fun r => (r = 0 ∧ ¬ σ 11 x / 2 % 2 = 1) ∨ (r = 1 ∧ σ 11 x / 2 % 2 = 1)) := by
  have hn := hI.1.2.1
  have b11 := (hI.2.2.2.1 x hx).2.2.2.1
  unfold K_Members_hasFlag
  refine ev_rI (by omega) (by decide) ?_
  rw [(hM.2.1 x hx).2.2]
  refine ev_if (fun h => ev_some (Or.inl ⟨rfl, (fl2 _ b11).mp h⟩)) (fun h => ev_some (Or.inr ⟨rfl, Classical.byContradiction (fun q => h ((fl2 _ b11).mpr q))⟩))
theorem k_addFound (hI : IA σ) (hG : GN σ k) (hN : 80 < N) {c g : Nat} (hc : c < 10) (ht : σ 1 c = 1) (hg : g < 32) (hs : ∀ x, LK σ c g (fun _ => True) (some x) → ND σ 3 x ∧ (σ 11 x / 2 % 2 = 1 → ND σ 2 (σ 8 x))) : Ev (K_Needs_addFound N k (nI c) (nI g)) (fun k' => PN σ k k' ∧ QN k k' (fun S => ∀ x, LK σ c g (fun _ => True) (some x) → S 3 x ∧ (σ 11 x / 2 % 2 = 1 → S 2 (σ 8 x)))) := by
  have hn := hI.1.2.1
  unfold K_Needs_addFound
  refine ev_oR (k_findA hI hG.1 hN hc hg) (fun r hf => ?_)
  obtain ⟨o, rfl, _, hl⟩ := hf
  have hl := hl ht
  cases o with
  | none =>
    rw [if_pos (show oI none = -2 from rfl)]
    exact ev_some ⟨PN.rf hG, fun _ x g3 => by have := LK_unique hI hl g3; cases this⟩
  | some x =>
    have hx := (LK_lt hl).1.1
    have b8 := (hI.2.2.2.1 x hx).1
    rw [if_neg (oI_no (by omega))]
    refine ev_fL ?_
    have o1 := bit_pn hG (i := 3) (c := x) (by omega) (by omega) (hs x hl).1
    obtain ⟨st1, e1⟩ : ∃ s, s = sk_wl k 0 7 (k.2 0 7 ||| K_SF_bit (oI (some x))) := ⟨_, rfl⟩
    rw [← e1]
    have o1 : PN σ k st1 ∧ kS st1 3 x := by rw [e1]; exact o1
    refine ev_oR (k_hasFlag2 hI o1.1.1.1.2.2.1 hx) (fun r hr => ?_)
    rcases hr with ⟨rfl, hr⟩ | ⟨rfl, hr⟩
    · rw [if_pos rfl]
      refine ev_some ⟨o1.1, fun e y hy => ?_⟩
      have := LK_unique hI hl hy
      cases this
      exact ⟨e 3 x o1.2, fun z => absurd z hr⟩
    · rw [if_neg (by decide)]
      refine ev_rI (show x < 40 by omega) (by decide) ?_
      rw [(o1.1.1.1.2.2.1.2.1 x hx).1]
      refine ev_fL ?_
      have o2 := bit_pn o1.1.1 (i := 2) (c := σ 8 x) (by omega) (by omega) ((hs x hl).2 hr)
      refine ev_some ⟨o1.1.tr o2.1, fun e y hy => ?_⟩
      have := LK_unique hI hl hy
      cases this
      exact ⟨e 3 x (o2.1.2.2 _ _ o1.2), fun _ => e 2 _ o2.2⟩
end
