/-! A reading, a guess told. -/
theorem aF_y {a b c : Nat} (ha : a < 4) (hb : b < 4) (hc : c < 4) : f_X11_areFeatures (iN a) (iN b) (iN c) = some (iN 1) := by
  simp (disch := omega) only [f_X11_areFeatures, isI_y2 (show a ≤ 3 by omega) (show 3 < 2147483647 by decide), isI_y2 (show b ≤ 3 by omega) (show 3 < 2147483647 by decide), isI_y2 (show c ≤ 3 by omega) (show 3 < 2147483647 by decide), eq_grd, eq_lb, eq_b1, eq_b2, eq_b3, eq_b4, eq_b5, ↓nM_lit, iN_lit, iN_add, iN_mul, iN_lt, iN_le, iN_eq, iN_c, gd_iN, iN_nM, nM_iN, iN_ltM, nM_lt, nM_le, iN_leM, iN_0M, nM_p1, iN_0s1, decide_true, decide_eq_true_eq, Nat.not_lt_zero, if_true, if_false, show ¬ (1 = 0) by decide]
theorem an_tells {j : Nat} {K : Nat → Ob} {M : Ob} (hj : j < 1000000) (h : RI j K M) {w b c a f d : Nat} (hw : w < nn (M 0 0)) (eb : M 2 w = iN b) (hb : b < 4) (hc : c < 10) (ha : a < 4) (hf : f < 4) (hd : d < 4) : ∃ K', f_L_tells K (iN w) (iN 7) (iN c) (iN a) (iN f) (iN d) = some (iN (b + 1), K') ∧ RI (j + 1) K' (M9r (upo M 67 0 (iN 0)) w b 7 c a f d) := by
  obtain ⟨a1, a2, a3⟩ := RI_words h
  obtain ⟨r1, r2⟩ := rW_y h hw
  have e2 : f_X11_reading M (iN w) (iN 7) (iN c) (iN a) (iN f) (iN d) = some (iN (b + 1), M9r (upo M 67 0 (iN 0)) w b 7 c a f d) := by
    have e3 : f_X11_reading M (iN w) (iN 7) (iN c) (iN a) (iN f) (iN d) = f_X11_reading_J41 M (iN w) (iN 7) (iN c) (iN a) (iN f) (iN d) (iN 1) (iN 1) := by
      simp (disch := omega) only [f_X11_reading, r2, isI_y2 (show 7 ≤ 30 by omega) (show 30 < 2147483647 by decide), isD_y hc, aF_y ha hf hd, eq_grd, eq_lb, eq_b1, eq_b2, eq_b3, eq_b4, eq_b5, ↓nM_lit, iN_lit, iN_add, iN_mul, iN_lt, iN_le, iN_eq, iN_c, gd_iN, iN_nM, nM_iN, iN_ltM, nM_lt, nM_le, iN_leM, iN_0M, nM_p1, iN_0s1, decide_true, decide_eq_true_eq, Nat.not_lt_zero, if_true, if_false, show ¬ (1 = 0) by decide, if_false]
    rw [e3, J41_1 (show w < 40 by omega) (show b ≤ 4 by omega) eb, if_neg (by omega), J68_111 (show w < 40 by omega) hb eb]
  obtain ⟨k, r, K', b', M', t, f1, f2, f3, f4, f5⟩ := op_reading hj h (iN w) (iN 7) (iN c) (iN a) (iN f) (iN d)
  rw [e2] at f2
  obtain ⟨rfl, rfl⟩ := Prod.mk.inj (Option.some.inj f2)
  have ht : t = iN 0 := by
    rw [f_X11_thrown] at f3
    have := Option.some.inj f3
    rw [← this, M9r_o 67 (by omega), up_s]
  refine ⟨K', ?_, f5⟩
  rcases f4 with ⟨rfl, -, rfl⟩ | ⟨-, h1⟩ | ⟨-, h1⟩ | ⟨-, h1⟩
  · rw [f_L_tells, f1, eq_b3, kt_0, eq_b1]
  · rw [ht] at h1; exact absurd h1 (by decide)
  · rw [ht] at h1; exact absurd h1 (by decide)
  · rw [ht] at h1; exact absurd h1 (by decide)
