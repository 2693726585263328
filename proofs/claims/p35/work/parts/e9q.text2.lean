theorem op_change {j : Nat} {K : Nat → Ob} {M : Ob} (hj : j < 1000000) (h : RI j K M) (p1 p2 p3 : Int32) : Op_change RI j K M p1 p2 p3 := by
  have J22 : f_X11_change_J22 M p1 p2 p3 = some (0, upo M 67 0 (iN 1)) := by
    rw [f_X11_change_J22, f_X11_change_J23, show (0 : Int32) = iN 0 from rfl, may_0, eq_b2]; exact if_pos rfl
  have bad : f_X10_change K p1 p2 p3 = some (1, 0, K) → f_X11_change M p1 p2 p3 = some (0, upo M 67 0 (iN 1)) → Op_change RI j K M p1 p2 p3 := fun e1 e2 =>
    ⟨1, 0, K, 0, upo M 67 0 (iN 1), iN 1, e1, e2, congrArg some (u67 _ _), Or.inr ⟨rfl, rfl⟩, RI_j (RI_67 _ h)⟩
  rcases in_or p1 (show 4 < 2147483648 by decide) with ⟨s, hs, e1⟩ | hn
  · obtain ⟨a1, a2, a3⟩ := RI_len h hs
    obtain ⟨b1, b2, b3⟩ := RI_words h
    rcases in_or p2 (show evn M s < 2147483648 by omega) with ⟨p, hp, e2⟩ | hn
    · rcases in_or p3 (show nn (M 0 0) < 2147483648 by omega) with ⟨w, hw, e3⟩ | hn
      · obtain ⟨r1, r2⟩ := rW_y h hw
        have hx := h.2.2.1 s hs
        have ht := WTxt_at h.1.2.1 hs
        have t10 := (ht.2.2 p hp).2
        have tw := (ht.2.2 p hp).1
        have x1 := hx.1.2.2 p hp
        have hN := RI_67 (iN 0) h
        have n67 : upo M 67 0 (iN 0) 67 0 = iN 0 := u67 _ _
        have n0 : upo M 67 0 (iN 0) 0 0 = M 0 0 := by rw [upo_ne (by decide)]
        have n10 : upo M 67 0 (iN 0) 10 = M 10 := upo_ne (by decide)
        have n9 : upo M 67 0 (iN 0) 9 = M 9 := upo_ne (by decide)
        have hM0 : f_X11_change M p1 p2 p3 = if iN (evw M s p) = iN w then some (iN (evw M s p), upo (upo (upo M 67 0 (iN 0)) 10 (6 * s + p) (iN w)) 55 s (upo M 67 0 (iN 0) 55 s + iN 0)) else some (iN (evw M s p), upo (upo (upo M 67 0 (iN 0)) 10 (6 * s + p) (iN w)) 55 s (upo M 67 0 (iN 0) 55 s + iN 1)) := by
          rw [f_X11_change, e1, e2, e3, isP_y hs a2 a3 hp, eq_b1, if_neg (by decide), r2, eq_b1, if_neg (by decide), f_X11_change_J23, show (1 : Int32) = iN 1 from rfl, may_1, eq_b2]
          rw [if_neg (show ¬ ((iN 1, upo M 67 0 (iN 0)).1 = 0) from (by decide : ¬ (iN 1 = 0)))]
          generalize upo M 67 0 (iN 0) = N at *
          generalize evw M s p = ww at *
          generalize evn M s = n at *
          simp only [iN_lit]
          simp (disch := omega) only [eq_grd, eq_lb, eq_b1, eq_b2, eq_b3, eq_b4, eq_b5, iN_mul, iN_add, gd_iN, iN_c, hs, show 6 * s + p < 24 by omega, decide_true, n10, t10, upo_ne]
        by_cases hww : evw M s p = w
        · rw [hww, if_pos rfl] at hM0
          have e0 : upo (upo (upo M 67 0 (iN 0)) 10 (6 * s + p) (iN w)) 55 s (upo M 67 0 (iN 0) 55 s + iN 0) = upo M 67 0 (iN 0) := by
            have q1 : upo (upo M 67 0 (iN 0)) 10 (6 * s + p) (iN w) = upo M 67 0 (iN 0) := by
              have : iN w = upo M 67 0 (iN 0) 10 (6 * s + p) := by rw [n10, t10, hww]
              rw [this]; exact upo_id _ _ _
            rw [q1]
            have : upo M 67 0 (iN 0) 55 s + iN 0 = upo M 67 0 (iN 0) 55 s := Int32.add_zero _
            rw [this]; exact upo_id _ _ _
          rw [e0] at hM0
          refine ⟨0, iN w, K, iN w, upo M 67 0 (iN 0), iN 0, ?_, hM0, congrArg some (u67 _ _), Or.inl ⟨rfl, rfl, rfl⟩, RI_j hN⟩
          subst e1; subst e2; subst e3
          rw [hww] at x1
          generalize evn M s = n at *
          simp (disch := omega) only [f_X10_change, X10_sAt K hs, eq_grd, eq_lb, eq_b1, eq_b2, eq_b3, eq_b4, eq_b5, if_true, hs, decide_true, f_X10_requirePlace, a1, isB_y hp (show n < 2147483648 by omega), r1, f_X6_wordIn, ↓nM_lit, iN_lit, iN_add, iN_mul, iN_lt, iN_le, iN_eq, iN_c, gd_iN, iN_nM, nM_iN, iN_ltM, nM_lt, nM_le, iN_leM, iN_0M, nM_p1, iN_0s1, decide_true, decide_eq_true_eq, Nat.not_lt_zero, if_true, if_false, show ¬ (1 = 0) by decide, if_false, show ¬ (n ≤ p) by omega, show p < 6 by omega, x1]
        · have hw31 : evw M s p < 2147483648 := by omega
          rw [if_neg (by rw [iN_eq hw31 (by omega)]; exact hww)] at hM0
          refine ⟨0, iN (evw M s p), va_up K (9 + s) (upo (upo (upo (K (9 + s)) 1 p (iN w)) 7 0 (iN 0)) 8 0 (iN 1)), iN (evw M s p), _, iN 0, ?_, hM0, ?_, Or.inl ⟨rfl, rfl, rfl⟩, ?_⟩
          · subst e1; subst e2; subst e3
            generalize evw M s p = ww at *
            generalize evn M s = n at *
            simp (disch := omega) only [f_X10_change, X10_sAt K hs, eq_grd, eq_lb, eq_b1, eq_b2, eq_b3, eq_b4, eq_b5, if_true, hs, decide_true, f_X10_requirePlace, a1, isB_y hp (show n < 2147483648 by omega), r1, f_X6_wordIn, f_X6_putWord, ↓nM_lit, iN_lit, iN_add, iN_mul, iN_lt, iN_le, iN_eq, iN_c, gd_iN, iN_nM, nM_iN, iN_ltM, nM_lt, nM_le, iN_leM, iN_0M, nM_p1, iN_0s1, decide_true, decide_eq_true_eq, Nat.not_lt_zero, if_true, if_false, show ¬ (1 = 0) by decide, if_false, show ¬ (n ≤ p) by omega, show p < 6 by omega, x1, hww, f_X6_outdate, vu_eq, vu_vu]
          · rw [f_X11_thrown, upo_ne (by decide), upo_ne (by decide), n67]
          · have xw := hx.1
            generalize upo M 67 0 (iN 0) = N at *
            have e10 : ∀ i, upo (upo N 10 (6 * s + p) (iN w)) 55 s (N 55 s + iN 1) 10 i = if i = 6 * s + p then iN w else N 10 i := fun i => by
              rw [upo_ne (by decide), upo_ap]; simp only [true_and]
            have e9 : upo (upo N 10 (6 * s + p) (iN w)) 55 s (N 55 s + iN 1) 9 = M 9 := by
              rw [upo_ne (by decide), upo_ne (by decide)]; exact n9
            have een : evn (upo (upo N 10 (6 * s + p) (iN w)) 55 s (N 55 s + iN 1)) s = evn M s := by unfold evn; rw [e9]
            refine RI_snt hj hN hs ?_ ?_ ?_ ⟨evn M s, a3, by rw [e9]; exact a2, ?_⟩ ?_ ?_
            · intro k hk; rw [upo_ne (by omega), upo_ne (by omega)]
            · intro t ht hne; rw [e9, n9]
            · intro i hi; rw [e10, if_neg (by omega)]
            · intro q hq
              rw [e10, n0]
              by_cases e : q = p
              · subst e; rw [if_pos rfl]; exact ⟨w, hw, rfl⟩
              · rw [if_neg (by omega), n10]
                exact ⟨evw M s q, (ht.2.2 q hq).1, (ht.2.2 q hq).2⟩
            · rw [een]
              refine ⟨by rw [upo_ne (by decide)]; exact xw.1, a3, ?_⟩
              intro q hq
              unfold evw
              rw [e10, upo_ap]
              by_cases e : q = p
              · subst e; rw [if_pos ⟨rfl, rfl⟩, if_pos rfl, nn, iN_c (by omega)]
              · rw [if_neg (fun h => e h.2), if_neg (by omega), n10, (ht.2.2 q hq).2, nn, iN_c (by have := (ht.2.2 q hq).1; omega)]
                exact xw.2.2 q hq
            · intro t
              rw [upo_ap]
              by_cases e : t = s
              · subst e; rw [if_pos ⟨rfl, rfl⟩, if_pos rfl]
              · rw [if_neg (fun h => e h.2), if_neg e, upo_ne (by decide)]
      · obtain ⟨r1, r2⟩ := rW_n h hn
        refine bad ?_ ?_
        · subst e1; subst e2
          generalize evn M s = n at *
          simp (disch := omega) only [f_X10_change, X10_sAt K hs, eq_grd, eq_lb, eq_b1, eq_b2, eq_b3, eq_b4, eq_b5, if_true, hs, decide_true, f_X10_requirePlace, a1, isB_y hp (show n < 2147483648 by omega), r1, ↓nM_lit, iN_lit, iN_add, iN_mul, iN_lt, iN_le, iN_eq, iN_c, gd_iN, iN_nM, nM_iN, iN_ltM, nM_lt, nM_le, iN_leM, iN_0M, nM_p1, iN_0s1, decide_true, decide_eq_true_eq, Nat.not_lt_zero, if_true, if_false, show ¬ (1 = 0) by decide, if_false]
        · rw [f_X11_change, J22, e1, e2, isP_y hs a2 a3 hp, eq_b1, if_neg (by decide), r2, eq_b1, if_pos (show iN 0 = 0 from rfl)]
    · refine bad ?_ ?_
      · subst e1
        generalize evn M s = n at *
        simp (disch := omega) only [f_X10_change, X10_sAt K hs, eq_grd, eq_lb, eq_b1, eq_b2, eq_b3, eq_b4, eq_b5, if_true, hs, decide_true, f_X10_requirePlace, a1, isB_n hn, ↓nM_lit, iN_lit, iN_add, iN_mul, iN_lt, iN_le, iN_eq, iN_c, gd_iN, iN_nM, nM_iN, iN_ltM, nM_lt, nM_le, iN_leM, iN_0M, nM_p1, iN_0s1, decide_true, decide_eq_true_eq, Nat.not_lt_zero, if_true, if_false, show ¬ (1 = 0) by decide, if_false]
      · rw [f_X11_change, J22, e1, isP_n hs a2 a3 hn, eq_b1, if_pos (show iN 0 = 0 from rfl)]
  · refine bad ?_ ?_
    · simp only [f_X10_change, sAt_n hn K, eq_grd, eq_lb, eq_b1, eq_b2, eq_b3, eq_b4, eq_b5]; rfl
    · rw [f_X11_change, J22, isP_s hn, eq_b1, if_pos (show iN 0 = 0 from rfl)]
theorem X6_take {x : Ob} {n p : Nat} (h0 : x 0 0 = iN n) (hn : n ≤ 6) (hp : p < n) : wp (f_X6_takeOut x (iN p)) (fun y => (∀ k, k ≠ 0 → k ≠ 1 → y k = x k) ∧ y 0 0 = iN (n - 1) ∧ ∀ q, q < n - 1 → y 1 q = x 1 (if q < p then q else q + 1)) := by
  have key : wp (f_X6_takeOut_L14 200 x (iN p)) (fun q => (∀ k, k ≠ 1 → q.2 k = x k) ∧ ∀ i, i < n - 1 → q.2 1 i = x 1 (if i < p then i else i + 1)) := by
    refine lp_up (F := fun f (y : Ob) j => f_X6_takeOut_L14 f y j) (V := fun i y => p ≤ i ∧ (∀ k, k ≠ 1 → y k = x k) ∧ ∀ q, y 1 q = x 1 (if q < p then q else if q < i then q + 1 else q)) (hi := n - 1) ?_ 200 p x (by omega) (by omega) ⟨Nat.le_refl _, fun _ _ => rfl, fun q => by congr 1; split <;> rfl⟩
    rintro f y i hi ⟨v1, v2, v3⟩ hk
    have e0 : y 0 0 = iN n := by rw [v2 0 (by decide)]; exact h0
    by_cases he : i = n - 1
    · simp (disch := omega) only [f_X6_takeOut_L14, e0, ↓nM_lit, iN_lit, iN_add, iN_mul, iN_lt, iN_le, iN_eq, iN_c, gd_iN, iN_nM, nM_iN, iN_ltM, nM_lt, nM_le, iN_leM, iN_0M, nM_p1, iN_0s1, decide_true, decide_eq_true_eq, Nat.not_lt_zero, if_true, if_false, wp_some, wp_grd, wp_lb, wp_ite, wp_b1, wp_b2, wp_b3, wp_b4, wp_b5, show n ≤ i + 1 by omega]
      refine ⟨v2, ?_⟩
      intro q hq
      rw [v3]; congr 1
      by_cases h1 : q < p
      · rw [if_pos h1, if_pos h1]
      · rw [if_neg h1, if_neg h1, if_pos (by omega)]
    · simp (disch := omega) only [f_X6_takeOut_L14, e0, ↓nM_lit, iN_lit, iN_add, iN_mul, iN_lt, iN_le, iN_eq, iN_c, gd_iN, iN_nM, nM_iN, iN_ltM, nM_lt, nM_le, iN_leM, iN_0M, nM_p1, iN_0s1, decide_true, decide_eq_true_eq, Nat.not_lt_zero, if_true, if_false, wp_some, wp_grd, wp_lb, wp_ite, wp_b1, wp_b2, wp_b3, wp_b4, wp_b5, show ¬ (n ≤ i + 1) by omega, show i + 1 < 6 by omega, show i < 6 by omega, true_and]
      refine hk _ (by omega) ⟨by omega, fun k hk => by rw [upo_ne hk]; exact v2 k hk, ?_⟩
      intro q
      rw [upo_ap]
      by_cases e : q = i
      · subst e
        rw [if_pos ⟨rfl, rfl⟩, v3]
        congr 1
        rw [if_neg (show ¬ (q + 1 < p) by omega), if_neg (show ¬ (q + 1 < q) by omega), if_neg (show ¬ (q < p) by omega), if_pos (Nat.lt_succ_self q)]
      · rw [if_neg (fun h => e h.2), v3]
        congr 1
        by_cases h1 : q < p
        · rw [if_pos h1, if_pos h1]
        · rw [if_neg h1, if_neg h1]
          by_cases h2 : q < i
          · rw [if_pos h2, if_pos (by omega)]
          · rw [if_neg h2, if_neg (by omega)]
  simp (disch := omega) only [f_X6_takeOut, h0, ↓nM_lit, iN_lit, iN_add, iN_mul, iN_lt, iN_le, iN_eq, iN_c, gd_iN, iN_nM, nM_iN, iN_ltM, nM_lt, nM_le, iN_leM, iN_0M, nM_p1, iN_0s1, decide_true, decide_eq_true_eq, Nat.not_lt_zero, if_true, if_false, wp_some, wp_grd, wp_lb, wp_ite, wp_b1, wp_b2, wp_b3, wp_b4, wp_b5, show ¬ (n ≤ p) by omega]
  refine wp_mono key ?_
  rintro ⟨q1, q2⟩ ⟨a1, a2⟩
  simp only at a1 a2 ⊢
  have e0 : q2 0 0 = iN n := by rw [a1 0 (by decide)]; exact h0
  refine ⟨fun k k0 k1 => by rw [upo_ne k0]; exact a1 k k1, by rw [up_s, e0, iN_s1 (by omega)], ?_⟩
  intro q hq
  rw [upo_ne (by decide)]; exact a2 q hq
theorem X11_take {N : Ob} {s n p : Nat} (hs : s < 4) (h9 : N 9 s = iN n) (hn : n ≤ 6) (hp : p < n) (v3 : Int32) : wp (f_X11_remove_L30 200 N (iN s) v3 (iN p)) (fun q => (∀ k, k ≠ 10 → q.2 k = N k) ∧ (∀ i, i < n - 1 → q.2 10 (6 * s + i) = N 10 (6 * s + (if i < p then i else i + 1))) ∧ ∀ i, (i < 6 * s ∨ 6 * s + 6 ≤ i) → q.2 10 i = N 10 i) := by
  refine lp_up (F := fun f (y : Ob) j => f_X11_remove_L30 f y (iN s) v3 j) (V := fun i y => p ≤ i ∧ (∀ k, k ≠ 10 → y k = N k) ∧ (∀ q, q < 6 → y 10 (6 * s + q) = N 10 (6 * s + (if q < p then q else if q < i then q + 1 else q))) ∧ ∀ i, (i < 6 * s ∨ 6 * s + 6 ≤ i) → y 10 i = N 10 i) (hi := n - 1) ?_ 200 p N (by omega) (by omega) ⟨Nat.le_refl _, fun _ _ => rfl, fun q _ => by congr 2; split <;> rfl, fun _ _ => rfl⟩
  rintro f y i hi ⟨v1, v2, v3', v4⟩ hk
  have e0 : y 9 s = iN n := by rw [v2 9 (by decide)]; exact h9
  by_cases he : i = n - 1
  · simp (disch := omega) only [f_X11_remove_L30, e0, ↓nM_lit, iN_lit, iN_add, iN_mul, iN_lt, iN_le, iN_eq, iN_c, gd_iN, iN_nM, nM_iN, iN_ltM, nM_lt, nM_le, iN_leM, iN_0M, nM_p1, iN_0s1, decide_true, decide_eq_true_eq, Nat.not_lt_zero, if_true, if_false, wp_some, wp_grd, wp_lb, wp_ite, wp_b1, wp_b2, wp_b3, wp_b4, wp_b5, eq_grd, eq_lb, eq_b1, eq_b2, eq_b3, eq_b4, eq_b5, hs, show n ≤ i + 1 by omega, true_and]
    refine ⟨v2, ?_, v4⟩
    intro q hq
    rw [v3' q (by omega)]; congr 2
    by_cases h1 : q < p
    · rw [if_pos h1, if_pos h1]
    · rw [if_neg h1, if_neg h1, if_pos (by omega)]
  · simp (disch := omega) only [f_X11_remove_L30, e0, ↓nM_lit, iN_lit, iN_add, iN_mul, iN_lt, iN_le, iN_eq, iN_c, gd_iN, iN_nM, nM_iN, iN_ltM, nM_lt, nM_le, iN_leM, iN_0M, nM_p1, iN_0s1, decide_true, decide_eq_true_eq, Nat.not_lt_zero, if_true, if_false, wp_some, wp_grd, wp_lb, wp_ite, wp_b1, wp_b2, wp_b3, wp_b4, wp_b5, eq_grd, eq_lb, eq_b1, eq_b2, eq_b3, eq_b4, eq_b5, hs, show ¬ (n ≤ i + 1) by omega, show 6 * s + i + 1 < 24 by omega, show 6 * s + i < 24 by omega, true_and]
    refine hk _ (by omega) ⟨by omega, fun k hk => by rw [upo_ne hk]; exact v2 k hk, ?_, ?_⟩
    · intro q hq
      rw [upo_ap]
      by_cases e : q = i
      · subst e
        rw [if_pos ⟨rfl, rfl⟩, Nat.add_assoc, v3' (q + 1) (by omega)]
        congr 2
        rw [if_neg (show ¬ (q + 1 < p) by omega), if_neg (show ¬ (q + 1 < q) by omega), if_neg (show ¬ (q < p) by omega), if_pos (Nat.lt_succ_self q)]
      · rw [if_neg (by omega), v3' q hq]
        congr 2
        by_cases h1 : q < p
        · rw [if_pos h1, if_pos h1]
        · rw [if_neg h1, if_neg h1]
          by_cases h2 : q < i
          · rw [if_pos h2, if_pos (by omega)]
          · rw [if_neg h2, if_neg (by omega)]
    · intro i2 hi2
      rw [upo_ap, if_neg (by omega)]; exact v4 i2 hi2
theorem op_remove {j : Nat} {K : Nat → Ob} {M : Ob} (hj : j < 1000000) (h : RI j K M) (p1 p2 : Int32) : Op_remove RI j K M p1 p2 := by
  have bad : f_X10_remove K p1 p2 = some (1, 0, K) → f_X11_remove M p1 p2 = some (0, upo M 67 0 (iN 1)) → Op_remove RI j K M p1 p2 := fun e1 e2 =>
    ⟨1, 0, K, 0, upo M 67 0 (iN 1), iN 1, e1, e2, congrArg some (u67 _ _), Or.inr ⟨rfl, rfl⟩, RI_j (RI_67 _ h)⟩
  rcases in_or p1 (show 4 < 2147483648 by decide) with ⟨s, hs, e1⟩ | hn
  · obtain ⟨a1, a2, a3⟩ := RI_len h hs
    rcases in_or p2 (show evn M s < 2147483648 by omega) with ⟨p, hp, e2⟩ | hn
    · have hx := h.2.2.1 s hs
      have ht := WTxt_at h.1.2.1 hs
      have t10 := (ht.2.2 p hp).2
      have x1 := hx.1.2.2 p hp
      have hw40 := WLex_nw h.1.1
      have hN := RI_67 (iN 0) h
      have n67 : upo M 67 0 (iN 0) 67 0 = iN 0 := u67 _ _
      have n0 : upo M 67 0 (iN 0) 0 0 = M 0 0 := by rw [upo_ne (by decide)]
      have n10 : upo M 67 0 (iN 0) 10 = M 10 := upo_ne (by decide)
      have n9 : upo M 67 0 (iN 0) 9 = M 9 := upo_ne (by decide)
      obtain ⟨y, y1, y2, y3, y4⟩ := X6_take a1 a3 hp
      obtain ⟨⟨z0, z⟩, z1, z2, z3, z4⟩ := X11_take (N := upo M 67 0 (iN 0)) hs (by rw [n9]; exact a2) a3 hp (iN (evw M s p))
      simp only at z2 z3 z4
      have z9 : z 9 s = iN (evn M s) := by rw [z2 9 (by decide), n9]; exact a2
      have z10 : ∀ q, q < evn M s - 1 → z 10 (6 * s + q) = iN (evw M s (if q < p then q else q + 1)) := by
        intro q hq
        rw [z3 q hq, n10]
        exact (ht.2.2 _ (by split <;> omega)).2
      have hcls : f_X11_remove M p1 p2 = some (iN (evw M s p), upo (upo z 9 s (iN (evn M s - 1))) 55 s (z 55 s + iN 1)) := by
        have ip := isP_y hs a2 a3 hp
        rw [f_X11_remove, e1, e2, ip, eq_b1, may_1, eq_b2]
        rw [if_neg (show ¬ ((iN 1, upo M 67 0 (iN 0)).1 = 0) from (by decide : ¬ (iN 1 = 0)))]
        generalize evw M s p = ww at *
        generalize evn M s = n at *
        generalize upo M 67 0 (iN 0) = N at *
        simp (disch := omega) only [eq_grd, eq_lb, eq_b1, eq_b2, eq_b3, eq_b4, eq_b5, ↓nM_lit, iN_lit, iN_add, iN_mul, iN_lt, iN_le, iN_eq, iN_c, gd_iN, iN_nM, nM_iN, iN_ltM, nM_lt, nM_le, iN_leM, iN_0M, nM_p1, iN_0s1, decide_true, decide_eq_true_eq, Nat.not_lt_zero, if_true, if_false, hs, n10, t10, show 6 * s + p < 24 by omega, z1, z9, iN_s1 (show 0 < n by omega), upo_ne, up_s]
      refine ⟨0, iN (evw M s p), va_up K (9 + s) (upo (upo y 7 0 (iN 0)) 8 0 (iN 1)), iN (evw M s p), _, iN 0, ?_, hcls, ?_, Or.inl ⟨rfl, rfl, rfl⟩, ?_⟩
      · subst e1; subst e2
        generalize evw M s p = ww at *
        generalize evn M s = n at *
        simp (disch := omega) only [f_X10_remove, X10_sAt K hs, eq_grd, eq_lb, eq_b1, eq_b2, eq_b3, eq_b4, eq_b5, if_true, hs, decide_true, f_X10_requirePlace, a1, isB_y hp (show n < 2147483648 by omega), f_X6_wordIn, y1, ↓nM_lit, iN_lit, iN_add, iN_mul, iN_lt, iN_le, iN_eq, iN_c, gd_iN, iN_nM, nM_iN, iN_ltM, nM_lt, nM_le, iN_leM, iN_0M, nM_p1, iN_0s1, decide_true, decide_eq_true_eq, Nat.not_lt_zero, if_true, if_false, show ¬ (1 = 0) by decide, if_false, show ¬ (n ≤ p) by omega, show p < 6 by omega, x1, f_X6_outdate, vu_eq, vu_vu]
      · rw [f_X11_thrown, upo_ne (by decide), upo_ne (by decide), z2 67 (by decide), n67]
      · have xw := hx.1
        have ht1 := fun q hq => (ht.2.2 q hq).1
        generalize hN' : upo M 67 0 (iN 0) = N at *
        have e10 : ∀ i, upo (upo z 9 s (iN (evn M s - 1))) 55 s (z 55 s + iN 1) 10 i = z 10 i := fun i => by
          rw [upo_ne (by decide), upo_ne (by decide)]
        have e9 : upo (upo z 9 s (iN (evn M s - 1))) 55 s (z 55 s + iN 1) 9 s = iN (evn M s - 1) := by
          rw [upo_ne (by decide), up_s]
        have een : evn (upo (upo z 9 s (iN (evn M s - 1))) 55 s (z 55 s + iN 1)) s = evn M s - 1 := by
          show nn (upo (upo z 9 s (iN (evn M s - 1))) 55 s (z 55 s + iN 1) 9 s) = evn M s - 1
          rw [e9, nn, iN_c (by omega)]
        refine RI_snt hj hN hs ?_ ?_ ?_ ⟨evn M s - 1, by omega, e9, ?_⟩ ?_ ?_
        · intro k hk; rw [upo_ne (by omega), upo_ne (by omega), z2 k (by omega)]
        · intro t ht hne; rw [upo_ne (by decide), up_i hne, z2 9 (by decide)]
        · intro i hi; rw [e10, z4 i hi]
        · intro q hq
          rw [e10, n0, z10 q hq]
          exact ⟨_, ht1 _ (by split <;> omega), rfl⟩
        · rw [een]
          refine ⟨y3, by omega, ?_⟩
          intro q hq
          have hlt := ht1 (if q < p then q else q + 1) (by split <;> omega)
          unfold evw at hlt ⊢
          rw [e10, z10 q hq, y4 q hq, xw.2.2 _ (by split <;> omega)]
          rw [show nn (iN (evw M s (if q < p then q else q + 1))) = evw M s (if q < p then q else q + 1) from by rw [nn, iN_c (by unfold evw; omega)]]
        · intro t
          rw [upo_ap]
          by_cases e : t = s
          · subst e; rw [if_pos ⟨rfl, rfl⟩, if_pos rfl, z2 55 (by decide)]
          · rw [if_neg (fun h => e h.2), if_neg e, upo_ne (by decide), z2 55 (by decide)]
    · refine bad ?_ ?_
      · subst e1
        generalize evn M s = n at *
        simp (disch := omega) only [f_X10_remove, X10_sAt K hs, eq_grd, eq_lb, eq_b1, eq_b2, eq_b3, eq_b4, eq_b5, if_true, hs, decide_true, f_X10_requirePlace, a1, isB_n hn, ↓nM_lit, iN_lit, iN_add, iN_mul, iN_lt, iN_le, iN_eq, iN_c, gd_iN, iN_nM, nM_iN, iN_ltM, nM_lt, nM_le, iN_leM, iN_0M, nM_p1, iN_0s1, decide_true, decide_eq_true_eq, Nat.not_lt_zero, if_true, if_false, show ¬ (1 = 0) by decide, if_false]
      · rw [f_X11_remove, e1, isP_n hs a2 a3 hn, eq_b1, may_0, eq_b2]; exact if_pos rfl
  · refine bad ?_ ?_
    · simp only [f_X10_remove, sAt_n hn K, eq_grd, eq_lb, eq_b1, eq_b2, eq_b3, eq_b4, eq_b5]; rfl
    · rw [f_X11_remove, isP_s hn, eq_b1, may_0, eq_b2]; exact if_pos rfl
