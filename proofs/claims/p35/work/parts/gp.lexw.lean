/-! A word told: the law's rows. -/
theorem kt23_2 (r : Int32) : ktch [2, 3] 2 r = some (-1002) := by unfold ktch; rw [if_neg (by decide), if_neg (by decide), if_pos (by decide)]
theorem RI_un67 {j : Nat} {K : Nat → Ob} {M : Ob} {v : Int32} (h : RI j K (upo M 67 0 v)) : RI j K M := RI_cg (fun k hk => (upo_ne (by omega)).symm) h
theorem an_adds_n {j : Nat} {K : Nat → Ob} {M : Ob} (h : RI j K M) : ∃ K', f_L_adds K (iN 10) = some (-1002, K') ∧ RI (j + 1) K' M := by
  have hnb : nb (iN 10) 10 := nb_n (by decide)
  have e1 : f_X10_word K (iN 10) = some (2, 0, K) := by
    simp (disch := omega) only [f_X10_word, isB_n hnb, ↓nM_lit, iN_lit, iN_add, iN_mul, iN_lt, iN_le, iN_eq, iN_c, gd_iN, iN_nM, nM_iN, iN_ltM, nM_lt, nM_le, iN_leM, iN_0M, nM_p1, iN_0s1, decide_true, decide_eq_true_eq, Nat.not_lt_zero, if_true, if_false, eq_grd, eq_lb, eq_b1, eq_b2, eq_b3, eq_b4, eq_b5, if_true]
  refine ⟨K, ?_, RI_j h⟩
  rw [f_L_adds, e1, eq_b3, kt23_2, eq_b1]
theorem LX_word {c w u x t g q nr h p k : Rw} {M : Ob} {n a : Nat} (hX : LX c w u x t g q nr h p k M) (en : nn (M 0 0) = n) (hn : n < 6) (ha : a < 2) : LX (upd c 0 (iN (n + 1))) (upd w (4 * n) (iN a)) u x t g q nr h p k (M9w M n a) := by
  obtain ⟨⟨m, hm, c0, e0, w1, w2, w3⟩, x2, x3, x4, x5, x6⟩ := hX
  have emn : m = n := by rw [← en, e0, nn, iN_c (by omega)]
  subst emn
  have eo : ∀ k, k ≠ 0 → k ≠ 1 → k ≠ 67 → M9w M m a k = M k := fun k h0 h1 h67 => by unfold M9w; rw [upo_ne h0, upo_ne h1, upo_ne h67]
  have e00 : M9w M m a 0 0 = iN (m + 1) := up_s _ _ _ _
  have e1 : ∀ i, M9w M m a 1 i = if i = m then iN a else M 1 i := by
    intro i
    unfold M9w
    rw [upo_ne (by decide)]
    by_cases hi : i = m
    · rw [if_pos hi, hi, up_s]
    · rw [if_neg hi, up_i hi, upo_ne (by decide)]
  have ec : ∀ k, k ≠ 0 → upd c 0 (iN (m + 1)) k = c k := fun k hk => upd_ne hk
  refine ⟨⟨m + 1, by omega, upd_eq _ _ _, e00, ?_, ?_, ?_⟩, ?_, ?_, ?_, ?_, ?_⟩
  · intro i hi
    by_cases him : i = m
    · subst him
      exact ⟨a, ha, upd_eq _ _ _, by rw [e1, if_pos rfl]⟩
    · obtain ⟨e, he, h1, h2⟩ := w1 i (by omega)
      exact ⟨e, he, by rw [upd_ne (by omega)]; exact h1, by rw [e1, if_neg him]; exact h2⟩
  · intro i hi
    obtain ⟨b, hb, h0, h1, h2, h3⟩ := w2 i hi
    refine ⟨b, hb, fun hh => h0 (by omega), by rw [upd_ne (by omega)]; exact h1, by rw [eo 2 (by omega) (by omega) (by omega)]; exact h2, ?_⟩
    intro r hr
    rw [upd_ne (by omega), h3 r hr]
    unfold cdM
    rw [eo 4 (by omega) (by omega) (by omega), eo 5 (by omega) (by omega) (by omega)]
  · intro e he
    have := w3 e he
    unfold cdG at this ⊢
    rw [eo 6 (by omega) (by omega) (by omega), eo 7 (by omega) (by omega) (by omega), eo 8 (by omega) (by omega) (by omega)]
    exact this
  · unfold LXt at x2 ⊢
    rw [eo 9 (by omega) (by omega) (by omega), eo 10 (by omega) (by omega) (by omega)]
    exact ⟨fun s hs => by rw [ec _ (by omega)]; exact x2.1 s hs, x2.2⟩
  · unfold LXs at x3 ⊢
    rw [ec 1 (by omega), eo 15 (by omega) (by omega) (by omega), eo 16 (by omega) (by omega) (by omega), eo 17 (by omega) (by omega) (by omega), eo 18 (by omega) (by omega) (by omega), eo 19 (by omega) (by omega) (by omega), eo 20 (by omega) (by omega) (by omega)]
    exact x3
  · unfold LXg at x4 ⊢
    rw [ec 2 (by omega), eo 21 (by omega) (by omega) (by omega), eo 22 (by omega) (by omega) (by omega), eo 23 (by omega) (by omega) (by omega), eo 24 (by omega) (by omega) (by omega), eo 26 (by omega) (by omega) (by omega), eo 27 (by omega) (by omega) (by omega), eo 28 (by omega) (by omega) (by omega), eo 29 (by omega) (by omega) (by omega), eo 30 (by omega) (by omega) (by omega)]
    exact x4
  · unfold LXp at x5 ⊢
    rw [ec 3 (by omega), eo 59 (by omega) (by omega) (by omega), eo 60 (by omega) (by omega) (by omega), eo 61 (by omega) (by omega) (by omega), eo 62 (by omega) (by omega) (by omega), eo 63 (by omega) (by omega) (by omega), eo 64 (by omega) (by omega) (by omega), eo 65 (by omega) (by omega) (by omega)]
    exact x5
  · unfold LXh at x6 ⊢
    rw [ec 4 (by omega), ec 5 (by omega), eo 52 (by omega) (by omega) (by omega), eo 53 (by omega) (by omega) (by omega), eo 54 (by omega) (by omega) (by omega), eo 55 (by omega) (by omega) (by omega), eo 56 (by omega) (by omega) (by omega), eo 57 (by omega) (by omega) (by omega), eo 58 (by omega) (by omega) (by omega), eo 9 (by omega) (by omega) (by omega)]
    exact ⟨x6.1, x6.2.1, fun s hs => by rw [ec _ (by omega)]; exact x6.2.2 s hs⟩
/-- what an update of the law leaves -/
def UP (j : Nat) (K : Nat → Ob) (c w u x t g q nr h p k : Rw) : Prop := ∃ y, RI (j + 1) K y ∧ LX c w u x t g q nr h p k y ∧ LXe y
theorem L_J141 {j : Nat} {K : Nat → Ob} {c w u x t g q nr h p k : Rw} {M : Ob} (hR : RI j K M) (hX : LX c w u x t g q nr h p k M) (he : LXe M) {a : Nat} (ha : a < 2 ∨ a = 10) :
    wp (f_L_lexicon_J141 K c w u 0 (iN a)) (fun z => z.1 = 1 ∧ UP j z.2.1 z.2.2.1 z.2.2.2.1 z.2.2.2.2 x t g q nr h p k) := by
  obtain ⟨m, hm, c0, e0, -⟩ := id hX.1
  have en : nn (M 0 0) = m := by rw [e0, nn, iN_c (by omega)]
  have d1 : decide (0 + 1 ≤ 1) = true := rfl
  rcases ha with ha | rfl
  · by_cases h6 : m = 6
    · subst h6
      simp (disch := omega) only [f_L_lexicon_J141, ↓nM_lit, iN_lit, iN_add, iN_mul, iN_lt, iN_le, iN_eq, iN_c, gd_iN, iN_nM, nM_iN, iN_ltM, nM_lt, nM_le, iN_leM, iN_0M, nM_p1, iN_0s1, decide_true, decide_eq_true_eq, Nat.not_lt_zero, if_true, if_false, wp_some, wp_grd, wp_lb, wp_ite, wp_b1, wp_b2, wp_b3, wp_b4, wp_b5, ↓reduceIte, wp_b6, wp_b7, wp_b8, wp_b9, show ¬ (10 ≤ a) by omega, c0]
      exact ⟨trivial, M, RI_j hR, hX, he⟩
    · obtain ⟨K', e1, h1⟩ := an_adds hR (show a < 10 by omega) en (show m < 40 by omega)
      have hX' := LX_word hX en (show m < 6 by omega) ha
      have he' : LXe (M9w M m a) := by
        have eo : ∀ k, k ≠ 0 → k ≠ 1 → k ≠ 67 → M9w M m a k = M k := fun k h0 h1 h67 => by unfold M9w; rw [upo_ne h0, upo_ne h1, upo_ne h67]
        unfold LXe at he ⊢
        rw [eo 15 (by omega) (by omega) (by omega), eo 16 (by omega) (by omega) (by omega), eo 20 (by omega) (by omega) (by omega)]
        exact he
      have u0 : upd c 0 (iN (m + 1)) 0 = iN (m + 1) := upd_eq _ _ _
      simp (disch := omega) only [f_L_lexicon_J141, f_L_lexicon_J160, f_L_lexicon_J184, ↓nM_lit, iN_lit, iN_add, iN_mul, iN_lt, iN_le, iN_eq, iN_c, gd_iN, iN_nM, nM_iN, iN_ltM, nM_lt, nM_le, iN_leM, iN_0M, nM_p1, iN_0s1, decide_true, decide_eq_true_eq, Nat.not_lt_zero, if_true, if_false, wp_some, wp_grd, wp_lb, wp_ite, wp_b1, wp_b2, wp_b3, wp_b4, wp_b5, ↓reduceIte, wp_b6, wp_b7, wp_b8, wp_b9, eq_grd, eq_lb, eq_b1, eq_b2, eq_b3, eq_b4, eq_b5, eq_b6, eq_b7, eq_b8, eq_b9, show ¬ (10 ≤ a) by omega, c0, h6, show 4 * m < 24 by omega, e1, d1, u0, iN_sub, Nat.add_sub_cancel, true_and]
      exact ⟨M9w M m a, h1, hX', he'⟩
  · obtain ⟨K', e1, h1⟩ := an_adds_n hR
    simp (disch := omega) only [f_L_lexicon_J141, f_L_lexicon_J160, f_L_lexicon_J184, ↓nM_lit, iN_lit, iN_add, iN_mul, iN_lt, iN_le, iN_eq, iN_c, gd_iN, iN_nM, nM_iN, iN_ltM, nM_lt, nM_le, iN_leM, iN_0M, nM_p1, iN_0s1, decide_true, decide_eq_true_eq, Nat.not_lt_zero, if_true, if_false, wp_some, wp_grd, wp_lb, wp_ite, wp_b1, wp_b2, wp_b3, wp_b4, wp_b5, ↓reduceIte, wp_b6, wp_b7, wp_b8, wp_b9, eq_grd, eq_lb, eq_b1, eq_b2, eq_b3, eq_b4, eq_b5, eq_b6, eq_b7, eq_b8, eq_b9, Nat.le_refl, e1, d1, true_and]
    exact ⟨M, h1, hX, he⟩
