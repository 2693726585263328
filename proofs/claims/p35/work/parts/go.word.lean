/-! The law tells a word. -/
def M9w (M : Ob) (n a : Nat) : Ob := upo (upo (upo M 67 0 (iN 0)) 1 n (iN a)) 0 0 (iN (n + 1))
theorem an_adds {j : Nat} {K : Nat → Ob} {M : Ob} (h : RI j K M) {a n : Nat} (ha : a < 10) (en : nn (M 0 0) = n) (hn : n < 40) : ∃ K', f_L_adds K (iN a) = some (iN n, K') ∧ RI (j + 1) K' (M9w M n a) := by
  obtain ⟨a1, a2, a3⟩ := RI_words h
  rw [en] at a2
  have e2 : f_X11_word M (iN a) = some (iN n, M9w M n a) := by
    have n0 : upo M 67 0 (iN 0) 0 0 = iN n := by rw [upo_ne (by decide)]; exact a2
    unfold M9w
    generalize hNe : upo M 67 0 (iN 0) = N at n0
    simp (disch := omega) only [f_X11_word, isD_y ha, a2, show ¬ (40 ≤ n) by omega, f_X11_word_J19, mB_11, hNe, n0, ↓nM_lit, iN_lit, iN_add, iN_mul, iN_lt, iN_le, iN_eq, iN_c, gd_iN, iN_nM, nM_iN, iN_ltM, nM_lt, nM_le, iN_leM, iN_0M, nM_p1, iN_0s1, decide_true, decide_eq_true_eq, Nat.not_lt_zero, if_true, if_false, eq_grd, eq_lb, eq_b1, eq_b2, eq_b3, eq_b4, eq_b5, show ¬ (1 = 0) by decide, if_false, hn, upo_ne, up_s, iN_s1 (show 0 < n + 1 by omega), Nat.add_sub_cancel]
  obtain ⟨k, r, K', b, M', t, f1, f2, f3, f4, f5⟩ := op_word h (iN a)
  rw [e2] at f2
  obtain ⟨rfl, rfl⟩ := Prod.mk.inj (Option.some.inj f2)
  have ht : t = iN 0 := by
    rw [f_X11_thrown] at f3
    have := Option.some.inj f3
    rw [← this]
    unfold M9w
    rw [upo_ne (by decide), upo_ne (by decide), up_s]
  rcases f4 with ⟨rfl, -, rfl⟩ | ⟨-, h1⟩ | ⟨-, h1⟩
  · refine ⟨K', ?_, f5⟩
    rw [f_L_adds, f1, eq_b3, kt_0, eq_b1]
  · rw [ht] at h1; exact absurd h1 (by decide)
  · rw [ht] at h1; exact absurd h1 (by decide)
