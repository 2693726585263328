/-! A guess told. -/
theorem an_guesses {j : Nat} {K : Nat → Ob} {M : Ob} (hj : j < 1000000) (h : RI j K M) {e b c a f d : Nat} (he : e < 10) (eb : M 6 e = iN b) (hb : b < 4) (hc : c < 10) (ha : a < 4) (hf : f < 4) (hd : d < 4) : ∃ K', f_L_guesses K (iN e) (iN c) (iN a) (iN f) (iN d) = some (iN (b + 1), K') ∧ RI (j + 1) K' (M9g (upo M 67 0 (iN 0)) e b c a f d) := by
  have e2 : f_X11_guess M (iN e) (iN c) (iN a) (iN f) (iN d) = some (iN (b + 1), M9g (upo M 67 0 (iN 0)) e b c a f d) := by
    have e3 : f_X11_guess M (iN e) (iN c) (iN a) (iN f) (iN d) = f_X11_guess_J30 M (iN e) (iN c) (iN a) (iN f) (iN d) (iN 1) := by
      simp (disch := omega) only [f_X11_guess, isD_y he, isD_y hc, aF_y ha hf hd, eq_grd, eq_lb, eq_b1, eq_b2, eq_b3, eq_b4, eq_b5, ↓nM_lit, iN_lit, iN_add, iN_mul, iN_lt, iN_le, iN_eq, iN_c, gd_iN, iN_nM, nM_iN, iN_ltM, nM_lt, nM_le, iN_leM, iN_0M, nM_p1, iN_0s1, decide_true, decide_eq_true_eq, Nat.not_lt_zero, if_true, if_false, show ¬ (1 = 0) by decide, if_false]
    rw [e3, J30_1 he (show b ≤ 4 by omega) eb, if_neg (by omega), J55_11 he hb eb]
  obtain ⟨k, r, K', b', M', t, f1, f2, f3, f4, f5⟩ := op_guess hj h (iN e) (iN c) (iN a) (iN f) (iN d)
  rw [e2] at f2
  obtain ⟨rfl, rfl⟩ := Prod.mk.inj (Option.some.inj f2)
  have ht : t = iN 0 := by
    rw [f_X11_thrown] at f3
    have := Option.some.inj f3
    rw [← this, M9g_o 67 (by omega), up_s]
  refine ⟨K', ?_, f5⟩
  rcases f4 with ⟨rfl, -, rfl⟩ | ⟨-, h1⟩ | ⟨-, h1⟩
  · rw [f_L_guesses, f1, eq_b3, kt_0, eq_b1]
  · rw [ht] at h1; exact absurd h1 (by decide)
  · rw [ht] at h1; exact absurd h1 (by decide)
