/-! A reading, a guess told: the law's rows; the law's lexicon. -/
theorem kt123_1 (r : Int32) : ktch [1, 2, 3] 1 r = some (-1001) := by unfold ktch; rw [if_neg (by decide), if_pos (by decide)]
theorem kt123_2 (r : Int32) : ktch [1, 2, 3] 2 r = some (-1002) := by unfold ktch; rw [if_neg (by decide), if_neg (by decide), if_pos (by decide)]
theorem kt123_3 (r : Int32) : ktch [1, 2, 3] 3 r = some (-1003) := by unfold ktch; rw [if_neg (by decide), if_neg (by decide), if_neg (by decide), if_pos (by decide)]
theorem LXw_cg {c c' w u : Rw} {M M' : Ob} (hc : c' 0 = c 0) (h : ∀ k, k < 9 → k ≠ 3 → M' k = M k) (x1 : LXw c w u M) : LXw c' w u M' := by
  unfold LXw cdM cdG at x1 ⊢
  rw [hc, h 0 (by omega) (by omega), h 1 (by omega) (by omega), h 2 (by omega) (by omega), h 4 (by omega) (by omega), h 5 (by omega) (by omega), h 6 (by omega) (by omega), h 7 (by omega) (by omega), h 8 (by omega) (by omega)]
  exact x1
theorem LXt_cg {c c' x : Rw} {M M' : Ob} (hc : ∀ s, s < 2 → c' (8 + s) = c (8 + s)) (h9 : M' 9 = M 9) (h10 : M' 10 = M 10) (x2 : LXt c x M) : LXt c' x M' := by
  unfold LXt at x2 ⊢
  rw [h9, h10]
  exact ⟨fun s hs => by rw [hc s hs]; exact x2.1 s hs, x2.2⟩
theorem LXs_cg {c c' t : Rw} {M M' : Ob} (hc : c' 1 = c 1) (h : ∀ k, 15 ≤ k → k ≤ 20 → M' k = M k) (x3 : LXs c t M) : LXs c' t M' := by
  unfold LXs at x3 ⊢
  rw [hc, h 15 (by omega) (by omega), h 16 (by omega) (by omega), h 17 (by omega) (by omega), h 18 (by omega) (by omega), h 19 (by omega) (by omega), h 20 (by omega) (by omega)]
  exact x3
theorem LXg_cg {c c' g q n : Rw} {M M' : Ob} (hc : c' 2 = c 2) (h : ∀ k, 21 ≤ k → k ≤ 30 → M' k = M k) (x4 : LXg c g q n M) : LXg c' g q n M' := by
  unfold LXg at x4 ⊢
  rw [hc, h 21 (by omega) (by omega), h 22 (by omega) (by omega), h 23 (by omega) (by omega), h 24 (by omega) (by omega), h 26 (by omega) (by omega), h 27 (by omega) (by omega), h 28 (by omega) (by omega), h 29 (by omega) (by omega), h 30 (by omega) (by omega)]
  exact x4
theorem LXp_cg {c c' p k : Rw} {M M' : Ob} (hc : c' 3 = c 3) (h : ∀ k, 59 ≤ k → k ≤ 65 → M' k = M k) (x5 : LXp c p k M) : LXp c' p k M' := by
  unfold LXp at x5 ⊢
  rw [hc, h 59 (by omega) (by omega), h 60 (by omega) (by omega), h 61 (by omega) (by omega), h 62 (by omega) (by omega), h 63 (by omega) (by omega), h 64 (by omega) (by omega), h 65 (by omega) (by omega)]
  exact x5
theorem LXe_cs {M M' : Ob} (h : ∀ k, 15 ≤ k → k ≤ 20 → M' k = M k) (he : LXe M) : LXe M' := by
  unfold LXe at he ⊢
  rw [h 15 (by omega) (by omega), h 16 (by omega) (by omega), h 20 (by omega) (by omega)]
  exact he
theorem LX_reading {c w u x t g q nr h p k : Rw} {M : Ob} {j : Nat} (hX : LX c w u x t g q nr h p k M) (hV : VR M j) (hj : j < 1000000) {i b cc a f d : Nat} (hi : i < 6) (hin : i < nn (M 0 0)) (eb : M 2 i = iN b) (hb : b < 2) (hc : cc < 10) (ha : a < 4) (hf : f < 4) (hd : d < 4) : LX (upd c 4 (c 4 + iN 1)) (upd (upd w (4 * i + 2 + b) (iN (1000 * cc + 100 * a + 10 * f + d))) (4 * i + 1) (iN (b + 1))) u x t g q nr h p k (M9r (upo M 67 0 (iN 0)) i b 7 cc a f d) := by
  obtain ⟨⟨m, hm, c0, e0, w1, w2, w3⟩, x2, x3, x4, x5, x6⟩ := hX
  have emn : nn (M 0 0) = m := by rw [e0, nn, iN_c (by omega)]
  rw [emn] at hin
  have eo : ∀ k, k ≠ 2 → k ≠ 3 → k ≠ 4 → k ≠ 5 → k ≠ 52 → k ≠ 67 → M9r (upo M 67 0 (iN 0)) i b 7 cc a f d k = M k := fun k h2 h3 h4 h5 h52 h67 => by rw [M9r_o k ⟨h2, h3, h4, h5, h52⟩, upo_ne h67]
  have e2 : ∀ z, M9r (upo M 67 0 (iN 0)) i b 7 cc a f d 2 z = if z = i then iN (b + 1) else M 2 z := fun z => by rw [M9r_2, upo_ne (by decide)]
  have e4 : ∀ z, M9r (upo M 67 0 (iN 0)) i b 7 cc a f d 4 z = if z = 4 * i + b then iN cc else M 4 z := fun z => by rw [M9r_4, upo_ne (by decide)]
  have e5 : ∀ z, M9r (upo M 67 0 (iN 0)) i b 7 cc a f d 5 z = if z = 3 * (4 * i + b) + 2 then iN d else if z = 3 * (4 * i + b) + 1 then iN f else if z = 3 * (4 * i + b) then iN a else M 5 z := fun z => by rw [M9r_5, upo_ne (by decide)]
  have e52 : M9r (upo M 67 0 (iN 0)) i b 7 cc a f d 52 0 = M 52 0 + iN 1 := by rw [M9r_52, upo_ne (by decide)]
  generalize M9r (upo M 67 0 (iN 0)) i b 7 cc a f d = M' at eo e2 e4 e5 e52
  have ec : ∀ k, k ≠ 4 → upd c 4 (c 4 + iN 1) k = c k := fun k hk => upd_ne hk
  have same : ∀ i' r, (i' ≠ i ∨ r ≠ b) → i' < 6 → r < 2 → cdM M' i' r = cdM M i' r := by
    intro i' r hne hi' hr
    unfold cdM
    rw [e4, if_neg (by omega), e5, e5, e5, if_neg (by omega), if_neg (by omega), if_neg (by omega), if_neg (by omega), if_neg (by omega), if_neg (by omega), if_neg (by omega), if_neg (by omega), if_neg (by omega)]
  have hit : cdM M' i b = 1000 * cc + 100 * a + 10 * f + d := by
    unfold cdM
    rw [e4, if_pos rfl, e5, e5, e5, if_neg (by omega), if_neg (by omega), if_pos (by omega), if_neg (by omega), if_pos (by omega), if_pos (by omega), nnI (by omega), nnI (by omega), nnI (by omega), nnI (by omega)]
  refine ⟨⟨m, hm, by rw [ec 0 (by decide)]; exact c0, by rw [eo 0 (by omega) (by omega) (by omega) (by omega) (by omega) (by omega)]; exact e0, ?_, ?_, ?_⟩, LXt_cg (fun s hs => ec _ (by omega)) (eo 9 (by omega) (by omega) (by omega) (by omega) (by omega) (by omega)) (eo 10 (by omega) (by omega) (by omega) (by omega) (by omega) (by omega)) x2, LXs_cg (ec 1 (by decide)) (fun k _ _ => eo k (by omega) (by omega) (by omega) (by omega) (by omega) (by omega)) x3, LXg_cg (ec 2 (by decide)) (fun k _ _ => eo k (by omega) (by omega) (by omega) (by omega) (by omega) (by omega)) x4, LXp_cg (ec 3 (by decide)) (fun k _ _ => eo k (by omega) (by omega) (by omega) (by omega) (by omega) (by omega)) x5, LXh_up x6 hV hj e52 (fun k _ _ => eo k (by omega) (by omega) (by omega) (by omega) (by omega) (by omega)) (upd_eq _ _ _) (ec 5 (by decide)) (fun s hs => ec _ (by omega))⟩
  · intro i' hi'
    obtain ⟨e, he, h1, h2⟩ := w1 i' hi'
    exact ⟨e, he, by rw [upd_ne (by omega), upd_ne (by omega)]; exact h1, by rw [eo 1 (by omega) (by omega) (by omega) (by omega) (by omega) (by omega)]; exact h2⟩
  · intro i' hi'
    obtain ⟨b', hb', h0, h1, h2, h3⟩ := w2 i' hi'
    by_cases hii : i' = i
    · subst hii
      have ebb : b' = b := by
        rw [h2, iN_eq (by omega) (by omega)] at eb; exact eb
      subst ebb
      refine ⟨b' + 1, by omega, fun hh => absurd hin (by omega), upd_eq _ _ _, by rw [e2, if_pos rfl], ?_⟩
      intro r hr
      by_cases hrb : r = b'
      · subst hrb
        rw [upd_ne (by omega), upd_eq, hit]
      · rw [upd_ne (by omega), upd_ne (by omega), h3 r (by omega), same i' r (Or.inr hrb) hi' (by omega)]
    · refine ⟨b', hb', h0, by rw [upd_ne (by omega), upd_ne (by omega)]; exact h1, by rw [e2, if_neg hii]; exact h2, ?_⟩
      intro r hr
      rw [upd_ne (by omega), upd_ne (by omega), h3 r hr, same i' r (Or.inl hii) hi' (by omega)]
  · intro e he
    have := w3 e he
    unfold cdG at this ⊢
    rw [eo 6 (by omega) (by omega) (by omega) (by omega) (by omega) (by omega), eo 7 (by omega) (by omega) (by omega) (by omega) (by omega) (by omega), eo 8 (by omega) (by omega) (by omega) (by omega) (by omega) (by omega)]
    exact this
theorem LX_guess {c w u x t g q nr h p k : Rw} {M : Ob} {j : Nat} (hX : LX c w u x t g q nr h p k M) (hV : VR M j) (hj : j < 1000000) {e cc a f d : Nat} (he : e < 2) (hc : cc < 10) (ha : a < 4) (hf : f < 4) (hd : d < 4) : LX (upd c 4 (c 4 + iN 1)) w (upd u e (iN (1000 * cc + 100 * a + 10 * f + d))) x t g q nr h p k (M9g (upo M 67 0 (iN 0)) e 0 cc a f d) := by
  obtain ⟨⟨m, hm, c0, e0, w1, w2, w3⟩, x2, x3, x4, x5, x6⟩ := hX
  have eo : ∀ k, k ≠ 6 → k ≠ 7 → k ≠ 8 → k ≠ 52 → k ≠ 67 → M9g (upo M 67 0 (iN 0)) e 0 cc a f d k = M k := fun k h6 h7 h8 h52 h67 => by rw [M9g_o k ⟨h6, h7, h8, h52⟩, upo_ne h67]
  have e6 : ∀ z, M9g (upo M 67 0 (iN 0)) e 0 cc a f d 6 z = if z = e then iN (0 + 1) else M 6 z := fun z => by rw [M9g_6, upo_ne (by decide)]
  have e7 : ∀ z, M9g (upo M 67 0 (iN 0)) e 0 cc a f d 7 z = if z = 4 * e + 0 then iN cc else M 7 z := fun z => by rw [M9g_7, upo_ne (by decide)]
  have e8 : ∀ z, M9g (upo M 67 0 (iN 0)) e 0 cc a f d 8 z = if z = 3 * (4 * e + 0) + 2 then iN d else if z = 3 * (4 * e + 0) + 1 then iN f else if z = 3 * (4 * e + 0) then iN a else M 8 z := fun z => by rw [M9g_8, upo_ne (by decide)]
  have e52 : M9g (upo M 67 0 (iN 0)) e 0 cc a f d 52 0 = M 52 0 + iN 1 := by rw [M9g_52, upo_ne (by decide)]
  generalize M9g (upo M 67 0 (iN 0)) e 0 cc a f d = M' at eo e6 e7 e8 e52
  have ec : ∀ k, k ≠ 4 → upd c 4 (c 4 + iN 1) k = c k := fun k hk => upd_ne hk
  have same : ∀ z, z ≠ e → z < 2 → cdG M' z = cdG M z := by
    intro z hne hz
    unfold cdG
    rw [e7, if_neg (by omega), e8, e8, e8, if_neg (by omega), if_neg (by omega), if_neg (by omega), if_neg (by omega), if_neg (by omega), if_neg (by omega), if_neg (by omega), if_neg (by omega), if_neg (by omega)]
  have hit : cdG M' e = 1000 * cc + 100 * a + 10 * f + d := by
    unfold cdG
    rw [e7, if_pos (by omega), e8, e8, e8, if_neg (by omega), if_neg (by omega), if_pos (by omega), if_neg (by omega), if_pos (by omega), if_pos (by omega), nnI (by omega), nnI (by omega), nnI (by omega), nnI (by omega)]
  refine ⟨⟨m, hm, by rw [ec 0 (by decide)]; exact c0, by rw [eo 0 (by omega) (by omega) (by omega) (by omega) (by omega)]; exact e0, ?_, ?_, ?_⟩, LXt_cg (fun s hs => ec _ (by omega)) (eo 9 (by omega) (by omega) (by omega) (by omega) (by omega)) (eo 10 (by omega) (by omega) (by omega) (by omega) (by omega)) x2, LXs_cg (ec 1 (by decide)) (fun k _ _ => eo k (by omega) (by omega) (by omega) (by omega) (by omega)) x3, LXg_cg (ec 2 (by decide)) (fun k _ _ => eo k (by omega) (by omega) (by omega) (by omega) (by omega)) x4, LXp_cg (ec 3 (by decide)) (fun k _ _ => eo k (by omega) (by omega) (by omega) (by omega) (by omega)) x5, LXh_up x6 hV hj e52 (fun k _ _ => eo k (by omega) (by omega) (by omega) (by omega) (by omega)) (upd_eq _ _ _) (ec 5 (by decide)) (fun s hs => ec _ (by omega))⟩
  · rw [eo 1 (by omega) (by omega) (by omega) (by omega) (by omega)]; exact w1
  · unfold cdM at w2 ⊢
    rw [eo 2 (by omega) (by omega) (by omega) (by omega) (by omega), eo 4 (by omega) (by omega) (by omega) (by omega) (by omega), eo 5 (by omega) (by omega) (by omega) (by omega) (by omega)]
    exact w2
  · intro z hz
    by_cases hze : z = e
    · subst hze
      exact Or.inr ⟨by rw [upd_eq, hit], by rw [e6, if_pos rfl]⟩
    · rw [upd_ne hze, e6, if_neg hze, same z hze hz]
      exact w3 z hz
theorem an_tells_n1 {j : Nat} {K : Nat → Ob} {M : Ob} (h : RI j K M) {i : Nat} (hi : i = nn (M 0 0)) (c a f d : Int32) : f_L_tells K (iN i) (iN 7) c a f d = some (-1001, K) := by
  have a3 := (RI_words h).2.2
  obtain ⟨r1, -⟩ := rW_n h (w := iN i) (by rw [hi]; exact nb_n (by omega))
  have e1 : f_X10_reading K (iN i) (iN 7) c a f d = some (1, 0, K) := by
    simp only [f_X10_reading, r1, eq_grd, eq_lb, eq_b1, eq_b2, eq_b3, eq_b4, eq_b5, show ¬ (1 = 0) by decide, if_false]
  rw [f_L_tells, e1, eq_b3, kt123_1, eq_b1]
theorem aF_n {a : Nat} (ha : a = 4) (b c : Int32) : f_X10_areFeatures (iN a) b c = some (iN 0) := by
  subst ha
  have := isB_n (nb_n (show 4 < 2147483648 by decide))
  simp only [f_X10_areFeatures, iN_lit, this, eq_grd, eq_lb, eq_b1, eq_b2, eq_b3, eq_b4, eq_b5, if_true]
theorem an_tells_n2 {j : Nat} {K : Nat → Ob} {M : Ob} (h : RI j K M) {i c a : Nat} (hi : i < nn (M 0 0)) (hca : c = 10 ∨ (c < 10 ∧ a = 4)) (f d : Int32) : f_L_tells K (iN i) (iN 7) (iN c) (iN a) f d = some (-1002, K) := by
  obtain ⟨r1, -⟩ := rW_y h hi
  have r2 := isB_y (show 7 < 31 by decide) (by decide)
  have e1 : f_X10_reading K (iN i) (iN 7) (iN c) (iN a) f d = some (2, 0, K) := by
    rcases hca with rfl | ⟨hc, ha⟩
    · have r3 := isB_n (nb_n (show 10 < 2147483648 by decide))
      simp (disch := omega) only [f_X10_reading, r1, eq_grd, eq_lb, eq_b1, eq_b2, eq_b3, eq_b4, eq_b5, ↓nM_lit, iN_lit, iN_add, iN_mul, iN_lt, iN_le, iN_eq, iN_c, gd_iN, iN_nM, nM_iN, iN_ltM, nM_lt, nM_le, iN_leM, iN_0M, nM_p1, iN_0s1, decide_true, decide_eq_true_eq, Nat.not_lt_zero, if_true, if_false, r2, r3, show ¬ (1 = 0) by decide, if_true, if_false]
    · have r3 := isB_y hc (by decide)
      have r4 := aF_n ha f d
      simp (disch := omega) only [f_X10_reading, r1, eq_grd, eq_lb, eq_b1, eq_b2, eq_b3, eq_b4, eq_b5, ↓nM_lit, iN_lit, iN_add, iN_mul, iN_lt, iN_le, iN_eq, iN_c, gd_iN, iN_nM, nM_iN, iN_ltM, nM_lt, nM_le, iN_leM, iN_0M, nM_p1, iN_0s1, decide_true, decide_eq_true_eq, Nat.not_lt_zero, if_true, if_false, r2, r3, r4, show ¬ (1 = 0) by decide, if_true, if_false]
  rw [f_L_tells, e1, eq_b3, kt123_2, eq_b1]
theorem an_guesses_n {K : Nat → Ob} {e c a : Nat} (he : e < 10) (hca : c = 10 ∨ (c < 10 ∧ a = 4)) (f d : Int32) : f_L_guesses K (iN e) (iN c) (iN a) f d = some (-1002, K) := by
  have r2 := isB_y he (by decide)
  have e1 : f_X10_guess K (iN e) (iN c) (iN a) f d = some (2, 0, K) := by
    rcases hca with rfl | ⟨hc, ha⟩
    · have r3 := isB_n (nb_n (show 10 < 2147483648 by decide))
      simp (disch := omega) only [f_X10_guess, eq_grd, eq_lb, eq_b1, eq_b2, eq_b3, eq_b4, eq_b5, ↓nM_lit, iN_lit, iN_add, iN_mul, iN_lt, iN_le, iN_eq, iN_c, gd_iN, iN_nM, nM_iN, iN_ltM, nM_lt, nM_le, iN_leM, iN_0M, nM_p1, iN_0s1, decide_true, decide_eq_true_eq, Nat.not_lt_zero, if_true, if_false, r2, r3, show ¬ (1 = 0) by decide, if_true, if_false]
    · have r3 := isB_y hc (by decide)
      have r4 := aF_n ha f d
      simp (disch := omega) only [f_X10_guess, eq_grd, eq_lb, eq_b1, eq_b2, eq_b3, eq_b4, eq_b5, ↓nM_lit, iN_lit, iN_add, iN_mul, iN_lt, iN_le, iN_eq, iN_c, gd_iN, iN_nM, nM_iN, iN_ltM, nM_lt, nM_le, iN_leM, iN_0M, nM_p1, iN_0s1, decide_true, decide_eq_true_eq, Nat.not_lt_zero, if_true, if_false, r2, r3, r4, show ¬ (1 = 0) by decide, if_true, if_false]
  rw [f_L_guesses, e1, eq_b3, kt23_2, eq_b1]
