/-! The class leaves all readings, then strikes. -/
theorem X6_leave1 {x xl M : Ob} (hx : QX3 xl M) (hm : WLex M) {w p : Nat} (hw : w < nn (M 0 0)) (hp : p < 6) :
    wp (f_X6_leaveAll_L47 200 x xl (iN p) (iN (rwM M w)) (iN (cnM M w)) (iN 0)) (fun r => (∀ k, k ≠ 4 → k ≠ 5 → r.2 k = x k) ∧ (∀ j, j < cnM M w → r.2 4 (p * 4 + j) = ctM M w j ∧ r.2 5 (p * 4 + j) = iN (pkM M w j)) ∧ ∀ i, i < p * 4 → r.2 4 i = x 4 i ∧ r.2 5 i = x 5 i) := by
  have hw40 : w < 40 := by
    obtain ⟨⟨nw, hnw, enw⟩, -⟩ := hm
    rw [enw, nn, iN_c (by omega)] at hw; omega
  have h4 := cnM_le hm hw40
  refine lp_up (F := fun n (y : Ob) i => f_X6_leaveAll_L47 n y xl (iN p) (iN (rwM M w)) (iN (cnM M w)) i) (V := fun k y => (∀ k, k ≠ 4 → k ≠ 5 → y k = x k) ∧ (∀ j, j < k → y 4 (p * 4 + j) = ctM M w j ∧ y 5 (p * 4 + j) = iN (pkM M w j)) ∧ ∀ i, i < p * 4 → y 4 i = x 4 i ∧ y 5 i = x 5 i) (hi := cnM M w) ?_ 200 0 x (by omega) (by omega) ⟨fun _ _ _ => rfl, fun j hj => absurd hj (Nat.not_lt_zero j), fun _ _ => ⟨rfl, rfl⟩⟩
  intro n y i hi hv hk
  by_cases he : i = cnM M w
  · subst he
    simp (disch := omega) only [f_X6_leaveAll_L47, ↓nM_lit, iN_lit, iN_add, iN_mul, iN_lt, iN_le, iN_eq, iN_c, gd_iN, iN_nM, nM_iN, iN_ltM, nM_lt, nM_le, iN_leM, iN_0M, nM_p1, iN_0s1, decide_true, decide_eq_true_eq, Nat.not_lt_zero, if_true, if_false, wp_some, wp_grd, wp_lb, wp_ite, wp_b1, wp_b2, wp_b3, wp_b4, wp_b5, Nat.le_refl]
    exact hv
  · have hi' : i < cnM M w := by omega
    obtain ⟨ca, cb⟩ := X3_cat hx hm hw hi'
    simp (disch := omega) only [f_X6_leaveAll_L47, ↓nM_lit, iN_lit, iN_add, iN_mul, iN_lt, iN_le, iN_eq, iN_c, gd_iN, iN_nM, nM_iN, iN_ltM, nM_lt, nM_le, iN_leM, iN_0M, nM_p1, iN_0s1, decide_true, decide_eq_true_eq, Nat.not_lt_zero, if_true, if_false, wp_some, wp_grd, wp_lb, wp_ite, wp_b1, wp_b2, wp_b3, wp_b4, wp_b5, eq_grd, eq_lb, eq_b1, eq_b2, eq_b3, eq_b4, eq_b5, show ¬ (cnM M w ≤ i) by omega, ca, cb, show p * 4 + i < 24 by omega, true_and]
    refine hk _ hi' ⟨?_, ?_, ?_⟩
    · intro k h1 h2; rw [upo_ne h2, upo_ne h1]; exact hv.1 k h1 h2
    · intro j hj
      by_cases e : j = i
      · subst e; simp only [upo_ap, and_self, if_true, show ¬ (4 = 5) by decide, show ¬ (5 = 4) by decide, false_and, if_false]
      · have := hv.2.1 j (by omega)
        simp only [upo_ap, show ¬ (4 = 5) by decide, show ¬ (5 = 4) by decide, false_and, if_false, show ¬ (p * 4 + j = p * 4 + i) by omega, and_false]
        exact this
    · intro j hj
      simp only [upo_ap, show ¬ (4 = 5) by decide, show ¬ (5 = 4) by decide, false_and, if_false, show ¬ (j = p * 4 + i) by omega, and_false]
      exact hv.2.2 j hj
theorem X6_leave {x xl M : Ob} (hx : QX3 xl M) (hm : WLex M) {n : Nat} {wd : Nat → Nat} (h6 : RW6 x n wd) (hw : ∀ p, p < n → wd p < nn (M 0 0)) :
    wp (f_X6_leaveAll x xl) (fun y => RL6 y (evW M n wd) (l0 (evW M n wd)) ∧ LB (evW M n wd) (l0 (evW M n wd)) ∧ ∀ k, k ≠ 2 → k ≠ 4 → k ≠ 5 → y k = x k) := by
  obtain ⟨x0, hn, x1⟩ := h6
  have hw40 : ∀ p, p < n → wd p < 40 := by
    intro p hp
    have := hw p hp
    obtain ⟨⟨nw, hnw, enw⟩, -⟩ := hm
    rw [enw, nn, iN_c (by omega)] at this; omega
  rw [f_X6_leaveAll]
  simp only [wp_some, wp_grd, wp_lb, wp_ite, wp_b1, wp_b2, wp_b3, wp_b4, wp_b5]
  have key : wp (f_X6_leaveAll_L2 200 x xl (iN 0)) (fun r => (∀ k, k ≠ 2 → k ≠ 4 → k ≠ 5 → r.2 k = x k) ∧ ∀ q, q < n → r.2 2 q = iN (2 ^ cnM M (wd q) - 1) ∧ ∀ k, k < cnM M (wd q) → r.2 4 (q * 4 + k) = ctM M (wd q) k ∧ r.2 5 (q * 4 + k) = iN (pkM M (wd q) k)) := by
    refine lp_up (F := fun n (y : Ob) i => f_X6_leaveAll_L2 n y xl i) (V := fun p y => (∀ k, k ≠ 2 → k ≠ 4 → k ≠ 5 → y k = x k) ∧ ∀ q, q < p → y 2 q = iN (2 ^ cnM M (wd q) - 1) ∧ ∀ k, k < cnM M (wd q) → y 4 (q * 4 + k) = ctM M (wd q) k ∧ y 5 (q * 4 + k) = iN (pkM M (wd q) k)) (hi := n) ?_ 200 0 x (by omega) (by omega) ⟨fun _ _ _ _ => rfl, fun j hj => absurd hj (Nat.not_lt_zero j)⟩
    intro f y i hi hv hk
    have y0 : y 0 0 = iN n := by rw [hv.1 0 (by decide) (by decide) (by decide)]; exact x0
    by_cases he : i = n
    · subst he
      simp (disch := omega) only [f_X6_leaveAll_L2, y0, ↓nM_lit, iN_lit, iN_add, iN_mul, iN_lt, iN_le, iN_eq, iN_c, gd_iN, iN_nM, nM_iN, iN_ltM, nM_lt, nM_le, iN_leM, iN_0M, nM_p1, iN_0s1, decide_true, decide_eq_true_eq, Nat.not_lt_zero, if_true, if_false, wp_some, wp_grd, wp_lb, wp_ite, wp_b1, wp_b2, wp_b3, wp_b4, wp_b5, Nat.le_refl]
      exact hv
    · have hi' : i < n := by omega
      have y1 : y 1 i = iN (wd i) := by rw [hv.1 1 (by decide) (by decide) (by decide)]; exact x1 i hi'
      obtain ⟨ra, rb⟩ := X3_row hx hm (hw i hi')
      have h4 := cnM_le hm (hw40 i hi')
      simp (disch := omega) only [f_X6_leaveAll_L2, y0, y1, show ¬ (n ≤ i) by omega, show i < 6 by omega, ra, rb, ↓nM_lit, iN_lit, iN_add, iN_mul, iN_lt, iN_le, iN_eq, iN_c, gd_iN, iN_nM, nM_iN, iN_ltM, nM_lt, nM_le, iN_leM, iN_0M, nM_p1, iN_0s1, decide_true, decide_eq_true_eq, Nat.not_lt_zero, if_true, if_false, wp_some, wp_grd, wp_lb, wp_ite, wp_b1, wp_b2, wp_b3, wp_b4, wp_b5, eq_grd, eq_lb, eq_b1, eq_b2, eq_b3, eq_b4, eq_b5, true_and]
      have e4' : (if cnM M (wd i) < 4 then iN (cnM M (wd i)) else iN 4) = iN (cnM M (wd i)) := by
        by_cases h : cnM M (wd i) < 4
        · rw [if_pos h]
        · rw [if_neg h, show cnM M (wd i) = 4 by omega]
      rw [e4']
      refine wp_mono (X6_leave1 hx hm (hw i hi') (show i < 6 by omega)) ?_
      intro r hr
      obtain ⟨a1, a2, a3⟩ := hr
      refine hk r.2 hi' ⟨?_, ?_⟩
      · intro k h1 h2 h3; rw [a1 k h2 h3, upo_ne h1]; exact hv.1 k h1 h2 h3
      · intro q hq
        by_cases e : q = i
        · subst e
          refine ⟨?_, a2⟩
          rw [a1 2 (by decide) (by decide), upo_ap, if_pos ⟨rfl, rfl⟩, bit_full h4]
        · obtain ⟨b1, b2⟩ := hv.2 q (by omega)
          refine ⟨?_, ?_⟩
          · rw [a1 2 (by decide) (by decide), upo_ap, if_neg (by omega)]; exact b1
          · intro k hk2
            have := cnM_le hm (hw40 q (by omega))
            obtain ⟨c1, c2⟩ := a3 (q * 4 + k) (by omega)
            rw [c1, c2, upo_ne (by decide), upo_ne (by decide)]
            exact b2 k hk2
  refine wp_mono key ?_
  intro r hr
  obtain ⟨hf, hv⟩ := hr
  refine ⟨⟨?_, ?_, ?_⟩, ?_, hf⟩
  · rw [hf 0 (by decide) (by decide) (by decide)]; exact x0
  · intro p hp
    rw [evW_L] at hp
    rw [l0, evW_C hp]; exact (hv p hp).1
  · intro p hp k hk
    rw [evW_L] at hp
    rw [evW_C hp] at hk
    rw [evW_T hp hk, evW_P hp hk]; exact (hv p hp).2 k hk
  · intro p hp
    have : 0 < 2 ^ eC (evW M n wd) p := Nat.two_pow_pos _
    rw [l0]; omega
/-- the whole of striking, by the class -/
theorem X7_strike {x7 R x xl M : Ob} (h7 : QX7 x7 R) (hx : QX3 xl M) (hm : WLex M) {n : Nat} {wd : Nat → Nat} (h6 : RW6 x n wd) (hw : ∀ p, p < n → wd p < nn (M 0 0)) :
    wp (f_X7_strike x7 xl x) (fun y => RL6 y (evW M n wd) (stk R (evW M n wd)) ∧ LB (evW M n wd) (stk R (evW M n wd)) ∧ y 7 0 = iN 1 ∧ ∀ k, k ≠ 2 → k ≠ 4 → k ≠ 5 → k ≠ 7 → y k = x k) := by
  have hw40 : ∀ p, p < n → wd p < 40 := by
    intro p hp
    have := hw p hp
    obtain ⟨⟨nw, hnw, enw⟩, -⟩ := hm
    rw [enw, nn, iN_c (by omega)] at this; omega
  have hE : EvB (evW M n wd) := evW_B hm h6.2.1 hw40
  rw [f_X7_strike]
  simp only [wp_some, wp_grd, wp_lb, wp_ite, wp_b1, wp_b2, wp_b3, wp_b4, wp_b5]
  refine wp_mono (X6_leave hx hm h6 hw) ?_
  intro y hy
  obtain ⟨y1, y2, y3⟩ := hy
  refine wp_mono (X7_rounds (x0 := y) (xl := xl) h7 hE 25 200 0 (l0 (evW M n wd)) y (by omega) (by omega) ⟨y1, y2, rfl, fun _ _ => rfl⟩) ?_
  intro r hr
  obtain ⟨r1, r2, r3⟩ := hr
  refine ⟨?_, r2, by rw [upo_ap, if_pos ⟨rfl, rfl⟩]; rfl, ?_⟩
  · obtain ⟨a, b, c⟩ := r1
    refine ⟨by rw [upo_ne (by decide)]; exact a, by rw [upo_ne (by decide)]; exact b, ?_⟩
    intro p hp k hk
    rw [upo_ne (by decide), upo_ne (by decide)]; exact c p hp k hk
  · intro k h1 h2 h3 h4
    rw [upo_ne h4, r3 k h1]; exact y3 k h1 h2 h3
