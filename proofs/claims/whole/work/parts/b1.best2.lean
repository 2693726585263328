theorem X10_ch1 {j : Nat} {K : Nat → Ob} {M : Ob} {s : Nat} (hR : RI j K M) (hS : KSS K s) (hs : s < 4) {a b : Mo} (ha : okm M s a) (hb : okm M s b) (k0 : K 0 11 0 = moI a) (k1 : K 0 11 1 = moI b) {k n : Nat} (hk : k = 1 ∨ k = 2 ∨ k = 3) (lc : Int32 × Nat) {Q : Nat × Int32 × Int32 × Int32 × (Nat → Ob) → Prop}
    (h : ∀ K', KF K K' → wp (f_X10_chosenOf_L17 n K' (iN s) (stp M s a b k lc).1 (iN (stp M s a b k lc).2) (iN (k + 1))) Q) :
    wp (f_X10_chosenOf_L17 (n + 1) K (iN s) lc.1 (iN lc.2) (iN k)) Q := by
  have hcan := X10_can (Nz_of hR.1 hs ha) (Nz_of hR.1 hs hb) k0 k1 hk
  obtain ⟨m0, m1⟩ := X10_mendIn k0 k1 hk
  have hk3 : ¬ ((3 : Int32) < iN k) := by show ¬ (iN 3 < iN k); rw [iN_lt (by omega) (by omega)]; omega
  have e1 : iN k + 1 = iN (k + 1) := iN_add k 1
  rw [f_X10_chosenOf_L17, if_neg hk3, hcan, eq_b1]
  unfold stp at h
  by_cases ho : okc a b k = true
  · rw [ho, if_neg (show ¬ (biN true = 0) by decide), m0, eq_b1, m1, eq_b1]
    obtain ⟨⟨r1, r2, K'⟩, ep, p1, p2, p3, p4, p5⟩ := X10_price hR hS hs (sA a k) (sB b k) (okm_A ha k) (okm_B hb k)
    simp only at p1 p2 p3 p4 p5
    subst p1
    subst p2
    have hF : KF K K' := ⟨p3, p4, p5⟩
    rw [ep, eq_b3]
    show wp (if (0 : Nat) = 0 then (if lc.1 ≤ prc M s (sA a k) (sB b k) then lb (iN k + 1) (fun w => f_X10_chosenOf_L17 n K' (iN s) lc.1 (iN lc.2) w) else lb (iN k + 1) (fun w => f_X10_chosenOf_L17 n K' (iN s) (prc M s (sA a k) (sB b k)) (iN k) w)) else _) Q
    rw [if_pos rfl, eq_lb, eq_lb, e1]
    rw [ho, Bool.true_and] at h
    by_cases hle : lc.1 ≤ prc M s (sA a k) (sB b k)
    · rw [if_pos hle]
      have := h K' hF
      rw [if_neg (by rw [decide_eq_true_eq]; exact i32_nlt.mpr hle)] at this
      exact this
    · rw [if_neg hle]
      have := h K' hF
      rw [if_pos (by rw [decide_eq_true_eq]; exact i32_nle.mp hle)] at this
      exact this
  · have ho' : okc a b k = false := by cases h : okc a b k; rfl; exact absurd h ho
    rw [ho', if_pos (show biN false = 0 from rfl), eq_lb, e1]
    have := h K (KF_r K)
    rw [ho', Bool.false_and, if_neg (by decide)] at this
    exact this
theorem X10_chosen {j : Nat} {K : Nat → Ob} {M : Ob} {s : Nat} (hR : RD j K M s) (hS : KSS K s) (hs : s < 4) {a b : Mo} (ha : okm M s a) (hb : okm M s b) (k0 : K 0 11 0 = moI a) (k1 : K 0 11 1 = moI b) :
    wp (f_X10_chosenOf K (iN s)) (fun r => r.1 = 0 ∧ r.2.1 = iN (bes M s a b) ∧ KF K r.2.2) := by
  have hw := (RD_w hs hR).1
  rw [f_X10_chosenOf, X10_sAt K hs, eq_b2]
  show wp (if (0 : Nat) = 0 then grd (decide (s < 4)) (bnd1 (f_X0_wholePrice (K (14 + s))) _) else _) _
  rw [if_pos rfl, decide_eq_true hs, eq_grd, hw, eq_b1]
  simp only [wp_b5]
  unfold bes
  refine X10_ch1 (n := 199) (k := 1) hR.1 hS hs ha hb k0 k1 (Or.inl rfl) (bef M s, 0) ?_
  intro K1 f1
  have q1 := RI_K (KF_c f1) hR.1
  refine X10_ch1 (n := 198) (k := 2) q1 (KF_S hs f1 hS) hs ha hb (by rw [f1.2.2 11 (by decide)]; exact k0) (by rw [f1.2.2 11 (by decide)]; exact k1) (Or.inr (Or.inl rfl)) _ ?_
  intro K2 f2
  have f2' := KF_t f1 f2
  refine X10_ch1 (n := 197) (k := 3) (RI_K (KF_c f2) q1) (KF_S hs f2' hS) hs ha hb (by rw [f2'.2.2 11 (by decide)]; exact k0) (by rw [f2'.2.2 11 (by decide)]; exact k1) (Or.inr (Or.inr rfl)) _ ?_
  intro K3 f3
  generalize stp M s a b 3 (stp M s a b 2 (stp M s a b 1 (bef M s, 0))) = lc
  show wp (f_X10_chosenOf_L17 (196 + 1) K3 (iN s) lc.1 (iN lc.2) (iN 4)) _
  rw [f_X10_chosenOf_L17, if_pos (by decide)]
  refine wp_some.mpr ?_
  show wp (if 100 ≤ 1 then _ else some (0, iN lc.2, K3)) _
  rw [if_neg (by decide)]
  exact wp_some.mpr ⟨rfl, rfl, KF_t f2' f3⟩
/-- the mend of the fault i, by the class -/
theorem X10_mdl {j : Nat} {K : Nat → Ob} {M : Ob} {s : Nat} (hR : RD j K M s) (hS : KSS K s) (hs : s < 4) (hN : NR (K (14 + s)) (gr M) (K 5) (wL (gr M) (cM M s) (evn M s))) (i : Nat) (hi : i < 2147483648) :
    ∃ r K', f_X9_findRelaxed (K 5) (K (14 + s)) (iN i) = some r ∧ f_X10_mendOf K (iN s) r = some (0, moI (mdl M s i), K') ∧ KF K K' := by
  obtain ⟨r, e1, hr⟩ := X9_find hR.1.1.2.2.2 hN (wL_W hR.1.1.2.2.2 hR.2.2.2 _) (iN i)
  have hlen := fM_len hR
  rcases hr with ⟨f1, f2⟩ | ⟨i', σ, f1, f2, f3, f4, f5, f6, f7, f8⟩
  · refine ⟨r, K, e1, ?_, KF_r K⟩
    rw [f2, X10_mendNo]
    have : ¬ (i < (fM M s).length) := fun h => f1 i h rfl
    unfold mdl
    rw [if_neg this]; rfl
  · have hii : i = i' := (iN_eq hi (by have : i' < (fM M s).length := f1; omega)).mp f2
    subst hii
    have hok := fM_ok hR.1.1 hs hR.2.2.2 f1
    obtain ⟨⟨v0, v1, K3⟩, ev, v2, v3, v4⟩ := X10_mendOf hR hS hs f3 f4 f5 f7 hok
    simp only at v2 v3 v4
    subst v2
    have hmdl : mdl M s i = mdo M s ((fM M s).getD i (dum, 0)).1 ((fM M s).getD i (dum, 0)).2 := if_pos f1
    refine ⟨r, K3, e1, ?_, v4⟩
    rw [f6, hmdl, ← v3]; exact ev
theorem mdl_ok {M : Ob} {s i : Nat} (hM : WM M) (hs : s < 4) (hW : WCh (gr M) (cM M s)) (hT : ∀ i, i < (fM M s).length → tR (gr M) ((fM M s).getD i (dum, 0)).1 ((fM M s).getD i (dum, 0)).2 ≠ 0) : okm M s (mdl M s i) := by
  unfold mdl
  by_cases hi : i < (fM M s).length
  · rw [if_pos hi]
    have hok := fM_ok hM hs hW hi
    have hz := hT i hi
    unfold mdo
    split
    · exact cdo_ok hM hok hz (Or.inr rfl)
    · split
      · exact cdo_ok hM hok hz (Or.inl rfl)
      · exact fun _ _ h => by cases h
  · rw [if_neg hi]; exact fun _ _ h => by cases h
theorem fM_nz {j : Nat} {K : Nat → Ob} {M : Ob} {s : Nat} (hs : s < 4) (hR : RD j K M s) : ∀ i, i < (fM M s).length → tR (gr M) ((fM M s).getD i (dum, 0)).1 ((fM M s).getD i (dum, 0)).2 ≠ 0 := by
  intro i hi
  obtain ⟨q, m1, m2, m3, m4, m5⟩ := RD_mf hs hR
  obtain ⟨d, -, -, -, -, -, d6, -⟩ := m3.2 i (by rw [m4]; exact hi)
  rw [m4, gr_cg (M := M) (M' := q) (fun k hk => m2 k (by omega))] at d6
  exact d6
