/-! The text: what the class does to the ghost. -/
def TX (M M' : Ob) (s n : Nat) (f : Nat → Int32) : Prop := (∀ k, k ≠ 9 → k ≠ 10 → k ≠ 55 → k ≠ 67 → M' k = M k) ∧ M' 9 s = iN n ∧ (∀ t, t ≠ s → M' 9 t = M 9 t) ∧ (∀ p, p < n → M' 10 (6 * s + p) = f p) ∧ (∀ i, (i < 6 * s ∨ 6 * s + 6 ≤ i) → M' 10 i = M 10 i) ∧ M' 55 s = M 55 s + iN 1 ∧ ∀ t, t ≠ s → M' 55 t = M 55 t
theorem upd_id {f : Nat → Int32} {k : Nat} {v : Int32} (h : v = f k) : upd f k v = f := by
  funext i
  rw [upd_ap]
  by_cases e : i = k
  · rw [if_pos e, h, e]
  · rw [if_neg e]
theorem appM {j : Nat} {K : Nat → Ob} {M : Ob} (h : RI j K M) {s w : Nat} (hs : s < 4) (hw : w < nn (M 0 0)) (h6 : evn M s ≠ 6) : f_X11_append M (iN s) (iN w) = some (iN (evn M s + 1), upo (upo (upo (upo M 67 0 (iN 0)) 10 (6 * s + evn M s) (iN w)) 9 s (iN (evn M s + 1))) 55 s (upo M 67 0 (iN 0) 55 s + iN 1)) := by
  obtain ⟨a1, a2, a3⟩ := RI_len h hs
  obtain ⟨r1, r2⟩ := rW_y h hw
  have hM0 : f_X11_append M (iN s) (iN w) = f_X11_append_J20 M (iN s) (iN w) (iN 1) := by
    rw [f_X11_append, isS_y hs, eq_b1, if_neg (by decide), r2, eq_b1, if_neg (by decide)]; rfl
  have n9 : upo M 67 0 (iN 0) 9 s = iN (evn M s) := by rw [upo_ne (by decide)]; exact a2
  rw [hM0, f_X11_append_J20, if_neg (by decide), gd_iN (by omega), decide_eq_true hs, eq_grd, iN_c (by omega), a2, if_neg (show ¬ ((6 : Int32) ≤ iN (evn M s)) from (by rw [iN_le (by decide) (by omega)]; omega : ¬ (iN 6 ≤ iN (evn M s)))), f_X11_append_J43, show (1 : Int32) = iN 1 from rfl, mB_11, eq_b2]
  rw [if_neg (show ¬ ((iN 1, upo M 67 0 (iN 0)).1 = 0) from (by decide : ¬ (iN 1 = 0)))]
  clear hM0 h r1 r2
  generalize evn M s = n at *
  generalize upo M 67 0 (iN 0) = N at *
  simp (disch := omega) only [eq_grd, eq_lb, eq_b1, eq_b2, eq_b3, eq_b4, eq_b5, ↓nM_lit, iN_lit, iN_add, iN_mul, iN_lt, iN_le, iN_eq, iN_c, gd_iN, iN_nM, nM_iN, iN_ltM, nM_lt, nM_le, iN_leM, iN_0M, nM_p1, iN_0s1, decide_true, decide_eq_true_eq, Nat.not_lt_zero, if_true, if_false, hs, n9, show 6 * s + n < 24 by omega, upo_ne, up_s]
theorem an_append {j : Nat} {K : Nat → Ob} {M : Ob} (hj : j < 1000000) (h : RI j K M) {s w : Nat} (hs : s < 4) (hw : w < nn (M 0 0)) (h6 : evn M s < 6) : ∃ K' M', f_L_two K (iN 0) (iN s) (iN w) = some (iN (evn M s + 1), K') ∧ RI (j + 1) K' M' ∧ TX M M' s (evn M s + 1) (fun p => if p = evn M s then iN w else M 10 (6 * s + p)) := by
  have e2 := appM h hs hw (by omega)
  obtain ⟨k, r, K', b', M', t, f1, f2, f3, f4, f5⟩ := op_append hj h (iN s) (iN w)
  rw [e2] at f2
  obtain ⟨rfl, rfl⟩ := Prod.mk.inj (Option.some.inj f2)
  have ht : t = iN 0 := by
    rw [f_X11_thrown] at f3
    have := Option.some.inj f3
    rw [← this, upo_ne (by decide), upo_ne (by decide), upo_ne (by decide), up_s]
  refine ⟨K', _, ?_, f5, ?_⟩
  · rcases f4 with ⟨rfl, -, rfl⟩ | ⟨-, h1⟩ | ⟨-, h1⟩
    · rw [f_L_two, if_pos (show iN 0 = 0 from rfl), f1, eq_b3, kt_0, eq_b1]
    · rw [ht] at h1; exact absurd h1 (by decide)
    · rw [ht] at h1; exact absurd h1 (by decide)
  · refine ⟨?_, ?_, ?_, ?_, ?_, ?_, ?_⟩
    · intro k h9 h10 h55 h67; rw [upo_ne h55, upo_ne h9, upo_ne h10, upo_ne h67]
    · rw [upo_ne (by decide), up_s]
    · intro t ht; rw [upo_ne (by decide), up_i ht, upo_ne (by decide), upo_ne (by decide)]
    · intro p hp
      dsimp only
      rw [upo_ne (by decide), upo_ne (by decide)]
      by_cases e : p = evn M s
      · rw [if_pos e, e, up_s]
      · rw [if_neg e, up_i (by omega), upo_ne (by decide)]
    · intro i hi
      rw [upo_ne (by decide), upo_ne (by decide), up_i (by omega), upo_ne (by decide)]
    · rw [up_s, upo_ne (by decide)]
    · intro t ht; rw [up_i ht, upo_ne (by decide), upo_ne (by decide), upo_ne (by decide)]
theorem an_append_n {j : Nat} {K : Nat → Ob} {M : Ob} (h : RI j K M) {s w : Nat} (hs : s < 4) (hw : w = nn (M 0 0)) : f_L_two K (iN 0) (iN s) (iN w) = some (-1001, K) := by
  have a3 := (RI_words h).2.2
  obtain ⟨r1, -⟩ := rW_n h (w := iN w) (by rw [hw]; exact nb_n (by omega))
  have e1 : f_X10_append K (iN s) (iN w) = some (1, 0, K) := by
    simp (disch := omega) only [f_X10_append, X10_sAt K hs, eq_grd, eq_lb, eq_b1, eq_b2, eq_b3, eq_b4, eq_b5, if_true, hs, decide_true, r1, ↓nM_lit, iN_lit, iN_add, iN_mul, iN_lt, iN_le, iN_eq, iN_c, gd_iN, iN_nM, nM_iN, iN_ltM, nM_lt, nM_le, iN_leM, iN_0M, nM_p1, iN_0s1, decide_true, decide_eq_true_eq, Nat.not_lt_zero, if_true, if_false, show ¬ (1 = 0) by decide, if_false]
  rw [f_L_two, if_pos (show iN 0 = 0 from rfl), e1, eq_b3, kt13_1, eq_b1]
theorem chgM {j : Nat} {K : Nat → Ob} {M : Ob} (h : RI j K M) {s p w : Nat} (hs : s < 4) (hp : p < evn M s) (hw : w < nn (M 0 0)) : f_X11_change M (iN s) (iN p) (iN w) = if iN (evw M s p) = iN w then some (iN (evw M s p), upo (upo (upo M 67 0 (iN 0)) 10 (6 * s + p) (iN w)) 55 s (upo M 67 0 (iN 0) 55 s + iN 0)) else some (iN (evw M s p), upo (upo (upo M 67 0 (iN 0)) 10 (6 * s + p) (iN w)) 55 s (upo M 67 0 (iN 0) 55 s + iN 1)) := by
  obtain ⟨a1, a2, a3⟩ := RI_len h hs
  obtain ⟨r1, r2⟩ := rW_y h hw
  have ht := WTxt_at h.1.2.1 hs
  have t10 := (ht.2.2 p hp).2
  have n10 : upo M 67 0 (iN 0) 10 = M 10 := upo_ne (by decide)
  have ip := isP_y hs a2 a3 hp
  rw [f_X11_change, ip, eq_b1, if_neg (by decide), r2, eq_b1, if_neg (by decide), f_X11_change_J23, show (1 : Int32) = iN 1 from rfl, may_1, eq_b2]
  rw [if_neg (show ¬ ((iN 1, upo M 67 0 (iN 0)).1 = 0) from (by decide : ¬ (iN 1 = 0)))]
  clear h r1 r2 ht ip
  generalize upo M 67 0 (iN 0) = N at *
  generalize evw M s p = ww at *
  generalize evn M s = n at *
  simp only [iN_lit]
  simp (disch := omega) only [eq_grd, eq_lb, eq_b1, eq_b2, eq_b3, eq_b4, eq_b5, iN_mul, iN_add, gd_iN, iN_c, hs, show 6 * s + p < 24 by omega, decide_true, n10, t10, upo_ne]
theorem an_change {j : Nat} {K : Nat → Ob} {M : Ob} (hj : j < 1000000) (h : RI j K M) {s p w : Nat} (hs : s < 4) (hp : p < evn M s) (hw : w < nn (M 0 0)) (v : Int32) : ∃ K', f_L_more K (iN 0) (iN s) (iN p) (iN w) v = some (iN (evw M s p), K') ∧ if evw M s p = w then RI (j + 1) K' M else ∃ M', RI (j + 1) K' M' ∧ TX M M' s (evn M s) (fun q => if q = p then iN w else M 10 (6 * s + q)) := by
  obtain ⟨a1, a2, a3⟩ := RI_len h hs
  have ht10 := WTxt_at h.1.2.1 hs
  have t10 := (ht10.2.2 p hp).2
  have tw := (ht10.2.2 p hp).1
  have hw40 := (RI_words h).2.2
  have e2 := chgM h hs hp hw
  obtain ⟨k, r, K', b', M', t, f1, f2, f3, f4, f5⟩ := op_change hj h (iN s) (iN p) (iN w)
  have fin : ∀ r', t = iN 0 → b' = r' → f_L_more K (iN 0) (iN s) (iN p) (iN w) v = some (r', K') := by
    intro r' ht hb
    rcases f4 with ⟨rfl, -, rfl⟩ | ⟨-, h1⟩
    · rw [f_L_more, if_pos (show iN 0 = 0 from rfl), f1, eq_b3, kt_0, eq_b1, hb]
    · rw [ht] at h1; exact absurd h1 (by decide)
  refine ⟨K', ?_⟩
  by_cases hww : evw M s p = w
  · rw [if_pos hww]
    rw [if_pos (by rw [hww]), f2] at e2
    obtain ⟨g1, g2⟩ := Prod.mk.inj (Option.some.inj e2)
    have e0 : M' = upo M 67 0 (iN 0) := by
      rw [g2]
      have q1 : upo (upo M 67 0 (iN 0)) 10 (6 * s + p) (iN w) = upo M 67 0 (iN 0) := by
        have : iN w = upo M 67 0 (iN 0) 10 (6 * s + p) := by rw [upo_ne (by decide), t10, hww]
        rw [this]; exact upo_id _ _ _
      rw [q1]
      have : upo M 67 0 (iN 0) 55 s + iN 0 = upo M 67 0 (iN 0) 55 s := Int32.add_zero _
      rw [this]; exact upo_id _ _ _
    rw [e0] at f3 f5
    refine ⟨fin _ ?_ g1, RI_un67 f5⟩
    rw [f_X11_thrown] at f3
    have := Option.some.inj f3
    rw [← this, up_s]
  · rw [if_neg hww]
    rw [if_neg (by rw [iN_eq (by omega) (by omega)]; exact hww), f2] at e2
    obtain ⟨g1, g2⟩ := Prod.mk.inj (Option.some.inj e2)
    subst g2
    refine ⟨fin _ ?_ g1, _, f5, ?_⟩
    · rw [f_X11_thrown] at f3
      have := Option.some.inj f3
      rw [← this, upo_ne (by decide), upo_ne (by decide), up_s]
    · refine ⟨?_, ?_, ?_, ?_, ?_, ?_, ?_⟩
      · intro k h9 h10 h55 h67; rw [upo_ne h55, upo_ne h10, upo_ne h67]
      · rw [upo_ne (by decide), upo_ne (by decide), upo_ne (by decide)]; exact a2
      · intro t ht; rw [upo_ne (by decide), upo_ne (by decide), upo_ne (by decide)]
      · intro q hq
        dsimp only
        rw [upo_ne (by decide)]
        by_cases e : q = p
        · rw [if_pos e, e, up_s]
        · rw [if_neg e, up_i (by omega), upo_ne (by decide)]
      · intro i hi
        rw [upo_ne (by decide), up_i (by omega), upo_ne (by decide)]
      · rw [up_s, upo_ne (by decide)]
      · intro t ht; rw [up_i ht, upo_ne (by decide), upo_ne (by decide)]
theorem an_change_n1 {j : Nat} {K : Nat → Ob} {M : Ob} (h : RI j K M) {s : Nat} {pl : Int32} (hs : s < 4) (hp : nb pl (evn M s)) (w v : Int32) : f_L_more K (iN 0) (iN s) pl w v = some (-1001, K) := by
  obtain ⟨a1, a2, a3⟩ := RI_len h hs
  have e1 : f_X10_change K (iN s) pl w = some (1, 0, K) := by
    clear h
    generalize evn M s = n at *
    simp (disch := omega) only [f_X10_change, X10_sAt K hs, eq_grd, eq_lb, eq_b1, eq_b2, eq_b3, eq_b4, eq_b5, if_true, hs, decide_true, f_X10_requirePlace, a1, isB_n hp, ↓nM_lit, iN_lit, iN_add, iN_mul, iN_lt, iN_le, iN_eq, iN_c, gd_iN, iN_nM, nM_iN, iN_ltM, nM_lt, nM_le, iN_leM, iN_0M, nM_p1, iN_0s1, decide_true, decide_eq_true_eq, Nat.not_lt_zero, if_true, if_false, show ¬ (1 = 0) by decide, if_false]
  rw [f_L_more, if_pos (show iN 0 = 0 from rfl), e1, eq_b3, kt1_1, eq_b1]
theorem an_change_n2 {j : Nat} {K : Nat → Ob} {M : Ob} (h : RI j K M) {s w : Nat} (pl : Int32) (hs : s < 4) (hw : w = nn (M 0 0)) (v : Int32) : f_L_more K (iN 0) (iN s) pl (iN w) v = some (-1001, K) := by
  obtain ⟨a1, a2, a3⟩ := RI_len h hs
  rcases in_or pl (show evn M s < 2147483648 by omega) with ⟨p, hp, rfl⟩ | hn
  · have b3 := (RI_words h).2.2
    obtain ⟨r1, -⟩ := rW_n h (w := iN w) (by rw [hw]; exact nb_n (by omega))
    have e1 : f_X10_change K (iN s) (iN p) (iN w) = some (1, 0, K) := by
      clear h hw b3
      generalize evn M s = n at *
      simp (disch := omega) only [f_X10_change, X10_sAt K hs, eq_grd, eq_lb, eq_b1, eq_b2, eq_b3, eq_b4, eq_b5, if_true, hs, decide_true, f_X10_requirePlace, a1, isB_y hp (show n < 2147483648 by omega), r1, ↓nM_lit, iN_lit, iN_add, iN_mul, iN_lt, iN_le, iN_eq, iN_c, gd_iN, iN_nM, nM_iN, iN_ltM, nM_lt, nM_le, iN_leM, iN_0M, nM_p1, iN_0s1, decide_true, decide_eq_true_eq, Nat.not_lt_zero, if_true, if_false, show ¬ (1 = 0) by decide, if_false]
    rw [f_L_more, if_pos (show iN 0 = 0 from rfl), e1, eq_b3, kt1_1, eq_b1]
  · exact an_change_n1 h hs hn _ _
theorem an_remove {j : Nat} {K : Nat → Ob} {M : Ob} (hj : j < 1000000) (h : RI j K M) {s p : Nat} (hs : s < 4) (hp : p < evn M s) : ∃ K' M', f_L_two K (iN 1) (iN s) (iN p) = some (iN (evw M s p), K') ∧ RI (j + 1) K' M' ∧ TX M M' s (evn M s - 1) (fun q => M 10 (6 * s + (if q < p then q else q + 1))) := by
  obtain ⟨a1, a2, a3⟩ := RI_len h hs
  have ht := WTxt_at h.1.2.1 hs
  have t10 := (ht.2.2 p hp).2
  have n10 : upo M 67 0 (iN 0) 10 = M 10 := upo_ne (by decide)
  have n9 : upo M 67 0 (iN 0) 9 = M 9 := upo_ne (by decide)
  obtain ⟨⟨z0, z⟩, z1, z2, z3, z4⟩ := X11_take (N := upo M 67 0 (iN 0)) hs (by rw [n9]; exact a2) a3 hp (iN (evw M s p))
  simp only at z2 z3 z4
  have z9 : z 9 s = iN (evn M s) := by rw [z2 9 (by decide), n9]; exact a2
  have e2 : f_X11_remove M (iN s) (iN p) = some (iN (evw M s p), upo (upo z 9 s (iN (evn M s - 1))) 55 s (z 55 s + iN 1)) := by
    have ip := isP_y hs a2 a3 hp
    rw [f_X11_remove, ip, eq_b1, may_1, eq_b2]
    rw [if_neg (show ¬ ((iN 1, upo M 67 0 (iN 0)).1 = 0) from (by decide : ¬ (iN 1 = 0)))]
    clear h ht ip
    generalize evw M s p = ww at *
    generalize evn M s = n at *
    generalize upo M 67 0 (iN 0) = N at *
    simp (disch := omega) only [eq_grd, eq_lb, eq_b1, eq_b2, eq_b3, eq_b4, eq_b5, ↓nM_lit, iN_lit, iN_add, iN_mul, iN_lt, iN_le, iN_eq, iN_c, gd_iN, iN_nM, nM_iN, iN_ltM, nM_lt, nM_le, iN_leM, iN_0M, nM_p1, iN_0s1, decide_true, decide_eq_true_eq, Nat.not_lt_zero, if_true, if_false, hs, n10, t10, show 6 * s + p < 24 by omega, z1, z9, iN_s1 (show 0 < n by omega), upo_ne, up_s]
  obtain ⟨k, r, K', b', M', t, f1, f2, f3, f4, f5⟩ := op_remove hj h (iN s) (iN p)
  rw [e2] at f2
  obtain ⟨rfl, rfl⟩ := Prod.mk.inj (Option.some.inj f2)
  have ht : t = iN 0 := by
    rw [f_X11_thrown] at f3
    have := Option.some.inj f3
    rw [← this, upo_ne (by decide), upo_ne (by decide), z2 67 (by decide), up_s]
  refine ⟨K', _, ?_, f5, ?_⟩
  · rcases f4 with ⟨rfl, -, rfl⟩ | ⟨-, h1⟩
    · rw [f_L_two, if_neg (show ¬ (iN 1 = 0) by decide), if_pos (show iN 1 = 1 from rfl), f1, eq_b3, kt_0, eq_b1]
    · rw [ht] at h1; exact absurd h1 (by decide)
  · refine ⟨?_, ?_, ?_, ?_, ?_, ?_, ?_⟩
    · intro k h9 h10 h55 h67; rw [upo_ne h55, upo_ne h9, z2 k h10, upo_ne h67]
    · rw [upo_ne (by decide), up_s]
    · intro t ht; rw [upo_ne (by decide), up_i ht, z2 9 (by decide), n9]
    · intro q hq
      rw [upo_ne (by decide), upo_ne (by decide), z3 q hq, n10]
    · intro i hi
      rw [upo_ne (by decide), upo_ne (by decide), z4 i hi, n10]
    · rw [up_s, z2 55 (by decide), upo_ne (by decide)]
    · intro t ht; rw [up_i ht, upo_ne (by decide), z2 55 (by decide), upo_ne (by decide)]
theorem an_remove_n {j : Nat} {K : Nat → Ob} {M : Ob} (h : RI j K M) {s : Nat} {pl : Int32} (hs : s < 4) (hp : nb pl (evn M s)) : f_L_two K (iN 1) (iN s) pl = some (-1001, K) := by
  obtain ⟨a1, a2, a3⟩ := RI_len h hs
  have e1 : f_X10_remove K (iN s) pl = some (1, 0, K) := by
    clear h
    generalize evn M s = n at *
    simp (disch := omega) only [f_X10_remove, X10_sAt K hs, eq_grd, eq_lb, eq_b1, eq_b2, eq_b3, eq_b4, eq_b5, if_true, hs, decide_true, f_X10_requirePlace, a1, isB_n hp, ↓nM_lit, iN_lit, iN_add, iN_mul, iN_lt, iN_le, iN_eq, iN_c, gd_iN, iN_nM, nM_iN, iN_ltM, nM_lt, nM_le, iN_leM, iN_0M, nM_p1, iN_0s1, decide_true, decide_eq_true_eq, Nat.not_lt_zero, if_true, if_false, show ¬ (1 = 0) by decide, if_false]
  rw [f_L_two, if_neg (show ¬ (iN 1 = 0) by decide), if_pos (show iN 1 = 1 from rfl), e1, eq_b3, kt13_1, eq_b1]
theorem LX_text {c w u x t g q nr h p k : Rw} {M M' : Ob} {j s n : Nat} {f : Nat → Int32} {c' x' : Rw} (hX : LX c w u x t g q nr h p k M) (hV : VR M j) (hj : j < 1000000) (hs : s < 2) (hn : n ≤ 3) (hT : TX M M' s n f) (c8 : c' (8 + s) = iN n) (c10 : c' (10 + s) = c (10 + s) + iN 1) (co : ∀ k, k ≠ 8 + s → k ≠ 10 + s → c' k = c k) (xs : ∀ p, p < n → x' (3 * s + p) = f p) (xo : ∀ i, (i < 3 * s ∨ 3 * s + 3 ≤ i) → x' i = x i) : LX c' w u x' t g q nr h p k M' := by
  obtain ⟨x1, x2, x3, x4, x5, x6⟩ := hX
  obtain ⟨t0, t1, t2, t3, t4, t5, t6⟩ := hT
  refine ⟨LXw_cg (co 0 (by omega) (by omega)) (fun k _ _ => t0 k (by omega) (by omega) (by omega) (by omega)) x1, ?_, LXs_cg (co 1 (by omega) (by omega)) (fun k _ _ => t0 k (by omega) (by omega) (by omega) (by omega)) x3, LXg_cg (co 2 (by omega) (by omega)) (fun k _ _ => t0 k (by omega) (by omega) (by omega) (by omega)) x4, LXp_cg (co 3 (by omega) (by omega)) (fun k _ _ => t0 k (by omega) (by omega) (by omega) (by omega)) x5, ?_⟩
  · obtain ⟨y1, y2, y3⟩ := x2
    refine ⟨?_, by rw [t2 2 (by omega)]; exact y2, by rw [t2 3 (by omega)]; exact y3⟩
    intro s' hs'
    by_cases e : s' = s
    · subst e
      exact ⟨n, hn, c8, t1, fun p hp => by rw [xs p hp, t3 p hp]⟩
    · obtain ⟨n', h1, h2, h3, h4⟩ := y1 s' hs'
      exact ⟨n', h1, by rw [co _ (by omega) (by omega)]; exact h2, by rw [t2 s' e]; exact h3, fun p hp => by rw [xo _ (by omega), t4 _ (by omega)]; exact h4 p hp⟩
  · obtain ⟨z1, z2, z3⟩ := x6
    obtain ⟨v, v1, v2, v3⟩ := hV
    refine ⟨by rw [co 4 (by omega) (by omega), t0 52 (by omega) (by omega) (by omega) (by omega)]; exact z1, by rw [co 5 (by omega) (by omega), t0 53 (by omega) (by omega) (by omega) (by omega)]; exact z2, ?_⟩
    intro s' hs'
    obtain ⟨a1, a2, a3, a4⟩ := z3 s' hs'
    rw [t0 52 (by omega) (by omega) (by omega) (by omega), t0 54 (by omega) (by omega) (by omega) (by omega), t0 56 (by omega) (by omega) (by omega) (by omega), t0 57 (by omega) (by omega) (by omega) (by omega), t0 58 (by omega) (by omega) (by omega) (by omega)]
    by_cases e : s' = s
    · subst e
      refine ⟨by rw [c10, t5, a1], a2, a3, ?_⟩
      intro _ hh
      exfalso
      obtain ⟨-, cc, d, d1, d2, d3, d4⟩ := v3 s' (by omega)
      rw [t5, d3, d4, iN_add, iN_eq (by omega) (by omega)] at hh
      omega
    · refine ⟨by rw [co _ (by omega) (by omega), t6 s' e]; exact a1, a2, a3, ?_⟩
      rw [t6 s' e, t2 s' e]
      exact a4
