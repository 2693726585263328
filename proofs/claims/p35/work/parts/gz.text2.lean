/-! The law's text. -/
theorem L_J311 {K : Nat → Ob} {c x : Rw} {n p s : Nat} (hs : s < 2) (hn : n ≤ 3) (hp : p < n) (c8 : c (8 + s) = iN n) (v10 : Int32) :
    wp (f_L_texts_L311 400 K c x 0 (iN s) (iN p) (iN 1) v10 (iN p)) (fun r => (∀ q, q < n - 1 → r.2 (3 * s + q) = x (3 * s + (if q < p then q else q + 1))) ∧ ∀ i, (i < 3 * s ∨ 3 * s + 3 ≤ i) → r.2 i = x i) := by
  refine lp_up (F := fun f (y : Rw) j => f_L_texts_L311 f K c y 0 (iN s) (iN p) (iN 1) v10 j) (V := fun i y => p ≤ i ∧ (∀ q, q < 3 → y (3 * s + q) = x (3 * s + (if q < p then q else if q < i then q + 1 else q))) ∧ ∀ i, (i < 3 * s ∨ 3 * s + 3 ≤ i) → y i = x i) (hi := n - 1) ?_ 400 p x (by omega) (by omega) ⟨Nat.le_refl _, fun q _ => by congr 2; split <;> rfl, fun _ _ => rfl⟩
  rintro f y i hi ⟨v1, v3', v4⟩ hk
  by_cases he : i = n - 1
  · simp (disch := omega) only [f_L_texts_L311, c8, ↓nM_lit, iN_lit, iN_add, iN_mul, iN_lt, iN_le, iN_eq, iN_c, gd_iN, iN_nM, nM_iN, iN_ltM, nM_lt, nM_le, iN_leM, iN_0M, nM_p1, iN_0s1, decide_true, decide_eq_true_eq, Nat.not_lt_zero, if_true, if_false, wp_some, wp_grd, wp_lb, wp_ite, wp_b1, wp_b2, wp_b3, wp_b4, wp_b5, ↓reduceIte, wp_b6, wp_b7, wp_b8, wp_b9, show ¬ (1 = 0) by decide, show 8 + s < 12 by omega, show n ≤ i + 1 by omega, true_and]
    refine ⟨?_, v4⟩
    intro q hq
    rw [v3' q (by omega)]; congr 2
    by_cases h1 : q < p
    · rw [if_pos h1, if_pos h1]
    · rw [if_neg h1, if_neg h1, if_pos (by omega)]
  · simp (disch := omega) only [f_L_texts_L311, c8, ↓nM_lit, iN_lit, iN_add, iN_mul, iN_lt, iN_le, iN_eq, iN_c, gd_iN, iN_nM, nM_iN, iN_ltM, nM_lt, nM_le, iN_leM, iN_0M, nM_p1, iN_0s1, decide_true, decide_eq_true_eq, Nat.not_lt_zero, if_true, if_false, wp_some, wp_grd, wp_lb, wp_ite, wp_b1, wp_b2, wp_b3, wp_b4, wp_b5, ↓reduceIte, wp_b6, wp_b7, wp_b8, wp_b9, show ¬ (1 = 0) by decide, show 8 + s < 12 by omega, show ¬ (n ≤ i + 1) by omega, show 3 * s + i + 1 < 6 by omega, show 3 * s + i < 6 by omega, true_and]
    refine hk _ (by omega) ⟨by omega, ?_, ?_⟩
    · intro q hq
      rw [upd_ap]
      by_cases e : q = i
      · subst e
        rw [if_pos rfl, Nat.add_assoc, v3' (q + 1) (by omega)]
        congr 2
        rw [if_neg (show ¬ (q + 1 < p) by omega), if_neg (show ¬ (q + 1 < q) by omega), if_neg (show ¬ (q < p) by omega), if_pos (Nat.lt_succ_self q)]
      · rw [if_neg (by omega), v3' q hq]
        congr 2
        by_cases h1 : q < p
        · rw [if_pos h1, if_pos h1]
        · rw [if_neg h1, if_neg h1]
          by_cases h2 : q < i
          · rw [if_pos h2, if_pos (by omega)]
          · rw [if_neg h2, if_neg (by omega)]
    · intro i2 hi2
      rw [upd_ne (by omega)]; exact v4 i2 hi2
theorem L_J92t {j : Nat} {K : Nat → Ob} {c w u x t g q nr h p k : Rw} {M : Ob} (hR : RI j K M) (hj : j < 1000000) (hX : LX c w u x t g q nr h p k M) (he : LXe M) {s wd is th kd : Nat} {pl : Int32} (hkd : kd ≤ 2) (hs : s < 2) (his : (is = 1 ∧ wd < nn (M 0 0)) ∨ (is = 0 ∧ wd = nn (M 0 0))) (hth : (th = 1 ∧ ∃ p, p < evn M s ∧ pl = iN p) ∨ (th = 0 ∧ nb pl (evn M s))) :
    wp (f_L_texts_J92 K c x 0 (iN kd) (iN s) (iN wd) (iN is) pl (iN th)) (fun z => z.1 = 1 ∧ UP j z.2.1 z.2.2.1 w u z.2.2.2 t g q nr h p k) := by
  have d1 : decide (0 + 1 ≤ 1) = true := rfl
  have hs4 : s < 4 := by omega
  obtain ⟨n, hn, c8, e9, hx⟩ := hX.2.1.1 s hs
  have hev : evn M s = n := by unfold evn; rw [e9, nnI (by omega)]
  rw [hev] at hth
  have ht := WTxt_at hR.1.2.1 hs4
  have hwd40 := (RI_words hR).2.2
  have hwd : wd < 2147483648 := by rcases his with ⟨-, h⟩ | ⟨-, h⟩ <;> omega
  have ks : ∀ M', (∃ n f, TX M M' s n f) → LXe M' := by
    rintro M' ⟨n', f', hT⟩
    exact LXe_cs (fun k h1 h2 => hT.1 k (by omega) (by omega) (by omega) (by omega)) he
  have u1 : ∀ v, upd c (8 + s) v (10 + s) = c (10 + s) := fun v => upd_ne (by omega)
  have u2 : ∀ v v', upd (upd c (8 + s) v) (10 + s) v' (8 + s) = v := fun v v' => by rw [upd_ne (by omega), upd_eq]
  have a8 : iN 8 + iN s = iN (8 + s) := iN_add 8 s
  have hcase : kd = 0 ∨ kd = 1 ∨ kd = 2 := by omega
  rcases hcase with rfl | rfl | rfl
  · rcases his with ⟨rfl, hw⟩ | ⟨rfl, hw⟩
    · by_cases h3 : n = 3
      · subst h3
        simp (disch := omega) only [f_L_texts_J92, ↓nM_lit, iN_lit, iN_add, iN_mul, iN_lt, iN_le, iN_eq, iN_c, gd_iN, iN_nM, nM_iN, iN_ltM, nM_lt, nM_le, iN_leM, iN_0M, nM_p1, iN_0s1, decide_true, decide_eq_true_eq, Nat.not_lt_zero, if_true, if_false, wp_some, wp_grd, wp_lb, wp_ite, wp_b1, wp_b2, wp_b3, wp_b4, wp_b5, ↓reduceIte, wp_b6, wp_b7, wp_b8, wp_b9, show ¬ (1 = 0) by decide, c8, show 8 + s < 12 by omega, true_and]
        exact ⟨M, RI_j hR, hX, he⟩
      · obtain ⟨K', M', t1, t2, t3⟩ := an_append hj hR hs4 hw (by omega)
        rw [hev] at t1 t3
        have hX' : LX (upd (upd c (8 + s) (iN (n + 1))) (10 + s) (c (10 + s) + iN 1)) w u (upd x (3 * s + n) (iN wd)) t g q nr h p k M' := by
          refine LX_text hX hR.2.2.2.1 hj hs (show n + 1 ≤ 3 by omega) t3 (by rw [upd_ne (by omega), upd_eq]) (upd_eq _ _ _) (fun k h1 h2 => by rw [upd_ne h2, upd_ne h1]) ?_ (fun i hi => upd_ne (by omega))
          intro q hq
          by_cases e : q = n
          · rw [if_pos e, e, upd_eq]
          · rw [if_neg e, upd_ne (by omega)]; exact hx q (by omega)
        simp (disch := omega) only [f_L_texts_J92, f_L_texts_J116, f_L_texts_J160, ↓nM_lit, iN_lit, iN_add, iN_mul, iN_lt, iN_le, iN_eq, iN_c, gd_iN, iN_nM, nM_iN, iN_ltM, nM_lt, nM_le, iN_leM, iN_0M, nM_p1, iN_0s1, decide_true, decide_eq_true_eq, Nat.not_lt_zero, if_true, if_false, wp_some, wp_grd, wp_lb, wp_ite, wp_b1, wp_b2, wp_b3, wp_b4, wp_b5, ↓reduceIte, wp_b6, wp_b7, wp_b8, wp_b9, eq_grd, eq_lb, eq_b1, eq_b2, eq_b3, eq_b4, eq_b5, eq_b6, eq_b7, eq_b8, eq_b9, show ¬ (1 = 0) by decide, c8, h3, show 8 + s < 12 by omega, show 10 + s < 12 by omega, show 3 * s + n < 6 by omega, t1, d1, u1, u2, true_and]
        exact ⟨M', t2, hX', ks M' ⟨_, _, t3⟩⟩
    · have t1 := an_append_n hR hs4 hw
      simp (disch := omega) only [f_L_texts_J92, f_L_texts_J116, f_L_texts_J160, ↓nM_lit, iN_lit, iN_add, iN_mul, iN_lt, iN_le, iN_eq, iN_c, gd_iN, iN_nM, nM_iN, iN_ltM, nM_lt, nM_le, iN_leM, iN_0M, nM_p1, iN_0s1, decide_true, decide_eq_true_eq, Nat.not_lt_zero, if_true, if_false, wp_some, wp_grd, wp_lb, wp_ite, wp_b1, wp_b2, wp_b3, wp_b4, wp_b5, ↓reduceIte, wp_b6, wp_b7, wp_b8, wp_b9, eq_grd, eq_lb, eq_b1, eq_b2, eq_b3, eq_b4, eq_b5, eq_b6, eq_b7, eq_b8, eq_b9, t1, d1, true_and]
      exact ⟨M, RI_j hR, hX, he⟩
  · rcases his with ⟨rfl, hw⟩ | ⟨rfl, hw⟩
    · rcases hth with ⟨rfl, p0, hp, rfl⟩ | ⟨rfl, hp⟩
      · have hp' : p0 < evn M s := by omega
        obtain ⟨w1, w2⟩ := ht.2.2 p0 hp'
        have x1 : x (3 * s + p0) = iN (evw M s p0) := by rw [hx p0 hp]; exact w2
        obtain ⟨K', t1, t2⟩ := an_change hj hR hs4 hp' hw (iN 0)
        have hww31 : evw M s p0 < 2147483648 := by omega
        by_cases hww : evw M s p0 = wd
        · rw [if_pos hww] at t2
          rw [hww] at t1 x1
          have i1 : upd x (3 * s + p0) (iN wd) = x := upd_id x1.symm
          have i2 : upd c (10 + s) (c (10 + s) + iN 0) = c := upd_id (Int32.add_zero _)
          simp (disch := omega) only [f_L_texts_J92, f_L_texts_J217, f_L_texts_J266, f_L_texts_J268, ↓nM_lit, iN_lit, iN_add, iN_mul, iN_lt, iN_le, iN_eq, iN_c, gd_iN, iN_nM, nM_iN, iN_ltM, nM_lt, nM_le, iN_leM, iN_0M, nM_p1, iN_0s1, decide_true, decide_eq_true_eq, Nat.not_lt_zero, if_true, if_false, wp_some, wp_grd, wp_lb, wp_ite, wp_b1, wp_b2, wp_b3, wp_b4, wp_b5, ↓reduceIte, wp_b6, wp_b7, wp_b8, wp_b9, eq_grd, eq_lb, eq_b1, eq_b2, eq_b3, eq_b4, eq_b5, eq_b6, eq_b7, eq_b8, eq_b9, show ¬ (1 = 0) by decide, show 3 * s + p0 < 6 by omega, show 8 + s < 12 by omega, show 10 + s < 12 by omega, x1, i1, i2, t1, d1, true_and]
          exact ⟨M, t2, hX, he⟩
        · rw [if_neg hww] at t2
          obtain ⟨M', t2, t3⟩ := t2
          rw [hev] at t3
          have hX' : LX (upd c (10 + s) (c (10 + s) + iN 1)) w u (upd x (3 * s + p0) (iN wd)) t g q nr h p k M' := by
            refine LX_text hX hR.2.2.2.1 hj hs hn t3 (by rw [upd_ne (by omega)]; exact c8) (upd_eq _ _ _) (fun k h1 h2 => by rw [upd_ne h2]) ?_ (fun i hi => upd_ne (by omega))
            intro q hq
            by_cases e : q = p0
            · rw [if_pos e, e, upd_eq]
            · rw [if_neg e, upd_ne (by omega)]; exact hx q (by omega)
          generalize evw M s p0 = ww at *
          simp (disch := omega) only [f_L_texts_J92, f_L_texts_J217, f_L_texts_J266, f_L_texts_J268, ↓nM_lit, iN_lit, iN_add, iN_mul, iN_lt, iN_le, iN_eq, iN_c, gd_iN, iN_nM, nM_iN, iN_ltM, nM_lt, nM_le, iN_leM, iN_0M, nM_p1, iN_0s1, decide_true, decide_eq_true_eq, Nat.not_lt_zero, if_true, if_false, wp_some, wp_grd, wp_lb, wp_ite, wp_b1, wp_b2, wp_b3, wp_b4, wp_b5, ↓reduceIte, wp_b6, wp_b7, wp_b8, wp_b9, eq_grd, eq_lb, eq_b1, eq_b2, eq_b3, eq_b4, eq_b5, eq_b6, eq_b7, eq_b8, eq_b9, show ¬ (1 = 0) by decide, show 3 * s + p0 < 6 by omega, show 8 + s < 12 by omega, show 10 + s < 12 by omega, x1, hww, t1, d1, true_and]
          exact ⟨M', t2, hX', ks M' ⟨_, _, t3⟩⟩
      · have t1 := an_change_n1 hR hs4 (by rw [hev]; exact hp) (iN wd) (iN 0)
        simp (disch := omega) only [f_L_texts_J92, f_L_texts_J217, f_L_texts_J268, ↓nM_lit, iN_lit, iN_add, iN_mul, iN_lt, iN_le, iN_eq, iN_c, gd_iN, iN_nM, nM_iN, iN_ltM, nM_lt, nM_le, iN_leM, iN_0M, nM_p1, iN_0s1, decide_true, decide_eq_true_eq, Nat.not_lt_zero, if_true, if_false, wp_some, wp_grd, wp_lb, wp_ite, wp_b1, wp_b2, wp_b3, wp_b4, wp_b5, ↓reduceIte, wp_b6, wp_b7, wp_b8, wp_b9, eq_grd, eq_lb, eq_b1, eq_b2, eq_b3, eq_b4, eq_b5, eq_b6, eq_b7, eq_b8, eq_b9, show ¬ (1 = 0) by decide, t1, d1, true_and]
        exact ⟨M, RI_j hR, hX, he⟩
    · have t1 := an_change_n2 hR pl hs4 hw (iN 0)
      rcases hth with ⟨rfl, p0, hp, rfl⟩ | ⟨rfl, hp⟩
      · simp (disch := omega) only [f_L_texts_J92, f_L_texts_J217, f_L_texts_J268, ↓nM_lit, iN_lit, iN_add, iN_mul, iN_lt, iN_le, iN_eq, iN_c, gd_iN, iN_nM, nM_iN, iN_ltM, nM_lt, nM_le, iN_leM, iN_0M, nM_p1, iN_0s1, decide_true, decide_eq_true_eq, Nat.not_lt_zero, if_true, if_false, wp_some, wp_grd, wp_lb, wp_ite, wp_b1, wp_b2, wp_b3, wp_b4, wp_b5, ↓reduceIte, wp_b6, wp_b7, wp_b8, wp_b9, eq_grd, eq_lb, eq_b1, eq_b2, eq_b3, eq_b4, eq_b5, eq_b6, eq_b7, eq_b8, eq_b9, show ¬ (1 = 0) by decide, show 3 * s + p0 < 6 by omega, t1, d1, true_and]
        exact ⟨M, RI_j hR, hX, he⟩
      · simp (disch := omega) only [f_L_texts_J92, f_L_texts_J217, f_L_texts_J268, ↓nM_lit, iN_lit, iN_add, iN_mul, iN_lt, iN_le, iN_eq, iN_c, gd_iN, iN_nM, nM_iN, iN_ltM, nM_lt, nM_le, iN_leM, iN_0M, nM_p1, iN_0s1, decide_true, decide_eq_true_eq, Nat.not_lt_zero, if_true, if_false, wp_some, wp_grd, wp_lb, wp_ite, wp_b1, wp_b2, wp_b3, wp_b4, wp_b5, ↓reduceIte, wp_b6, wp_b7, wp_b8, wp_b9, eq_grd, eq_lb, eq_b1, eq_b2, eq_b3, eq_b4, eq_b5, eq_b6, eq_b7, eq_b8, eq_b9, show ¬ (1 = 0) by decide, t1, d1, true_and]
        exact ⟨M, RI_j hR, hX, he⟩
  · rcases hth with ⟨rfl, p0, hp, rfl⟩ | ⟨rfl, hp⟩
    · have hp' : p0 < evn M s := by omega
      obtain ⟨w1, w2⟩ := ht.2.2 p0 hp'
      have x1 : x (3 * s + p0) = iN (evw M s p0) := by rw [hx p0 hp]; exact w2
      obtain ⟨K', M', t1, t2, t3⟩ := an_remove hj hR hs4 hp'
      rw [hev] at t3
      obtain ⟨⟨z0, z⟩, z1, z2, z3⟩ := L_J311 (K := K) hs hn hp c8 (iN (evw M s p0)) (x := x)
      simp only at z2 z3
      have hX' : LX (upd (upd c (8 + s) (iN (n - 1))) (10 + s) (c (10 + s) + iN 1)) w u z t g q nr h p k M' := by
        refine LX_text hX hR.2.2.2.1 hj hs (show n - 1 ≤ 3 by omega) t3 (by rw [upd_ne (by omega), upd_eq]) (upd_eq _ _ _) (fun k h1 h2 => by rw [upd_ne h2, upd_ne h1]) ?_ z3
        intro q hq
        rw [z2 q hq]
        exact hx _ (by split <;> omega)
      generalize evw M s p0 = ww at *
      simp (disch := omega) only [f_L_texts_J92, f_L_texts_J217, f_L_texts_J376, f_L_texts_J396, ↓nM_lit, iN_lit, iN_add, iN_mul, iN_lt, iN_le, iN_eq, iN_c, gd_iN, iN_nM, nM_iN, iN_ltM, nM_lt, nM_le, iN_leM, iN_0M, nM_p1, iN_0s1, decide_true, decide_eq_true_eq, Nat.not_lt_zero, if_true, if_false, wp_some, wp_grd, wp_lb, wp_ite, wp_b1, wp_b2, wp_b3, wp_b4, wp_b5, ↓reduceIte, wp_b6, wp_b7, wp_b8, wp_b9, eq_grd, eq_lb, eq_b1, eq_b2, eq_b3, eq_b4, eq_b5, eq_b6, eq_b7, eq_b8, eq_b9, show ¬ (1 = 0) by decide, show ¬ (2 = 0) by decide, show ¬ (2 = 1) by decide, show 3 * s + p0 < 6 by omega, show 8 + s < 12 by omega, show 10 + s < 12 by omega, x1, z1, c8, iN_s1 (show 0 < n by omega), u1, t1, d1, true_and]
      exact ⟨M', t2, hX', ks M' ⟨_, _, t3⟩⟩
    · have t1 := an_remove_n hR hs4 (by rw [hev]; exact hp) (pl := pl)
      have i1 : upd c (8 + s) (c (8 + s) - iN 0) = c := upd_id (Int32.sub_zero _)
      have i2 : upd c (10 + s) (c (10 + s) + iN 0) = c := upd_id (Int32.add_zero _)
      have z1 : ∀ f v v', f_L_texts_L311 (f + 1) K c x 0 (iN s) pl (iN 0) v v' = some (v', x) := fun f v v' => by rw [f_L_texts_L311, if_pos (show iN 0 = 0 from rfl)]
      have z2 : ∀ v v', f_L_texts_L311 400 K c x 0 (iN s) pl (iN 0) v v' = some (v', x) := fun v v' => z1 399 v v'
      simp (disch := omega) only [f_L_texts_J92, f_L_texts_J217, f_L_texts_J376, f_L_texts_J396, ↓nM_lit, iN_lit, iN_add, iN_mul, iN_lt, iN_le, iN_eq, iN_c, gd_iN, iN_nM, nM_iN, iN_ltM, nM_lt, nM_le, iN_leM, iN_0M, nM_p1, iN_0s1, decide_true, decide_eq_true_eq, Nat.not_lt_zero, if_true, if_false, wp_some, wp_grd, wp_lb, wp_ite, wp_b1, wp_b2, wp_b3, wp_b4, wp_b5, ↓reduceIte, wp_b6, wp_b7, wp_b8, wp_b9, eq_grd, eq_lb, eq_b1, eq_b2, eq_b3, eq_b4, eq_b5, eq_b6, eq_b7, eq_b8, eq_b9, show ¬ (1 = 0) by decide, show ¬ (2 = 0) by decide, show ¬ (2 = 1) by decide, show 8 + s < 12 by omega, show 10 + s < 12 by omega, z2, i1, i2, t1, d1, true_and]
      exact ⟨M, RI_j hR, hX, he⟩
theorem L_texts {j : Nat} {K : Nat → Ob} {c w u x t g q nr h p k : Rw} {M : Ob} (hR : RI j K M) (hj : j < 1000000) (hX : LX c w u x t g q nr h p k M) (he : LXe M) {kd : Nat} (hkd : kd ≤ 2) (y : Int32) :
    wp (f_L_texts K c x (iN kd) y) (fun z => z.1 = 1 ∧ UP j z.2.1 z.2.2.1 w u z.2.2.2 t g q nr h p k) := by
  obtain ⟨m, hm, c0, e0, -⟩ := id hX.1
  have en : nn (M 0 0) = m := by rw [e0, nn, iN_c (by omega)]
  have c0' : c ((0 : Int32).toNatClampNeg) = iN m := c0
  obtain ⟨s, hs, es⟩ : ∃ r, r < 2 ∧ f_L_some y 2 = some (iN r) := some_lt _ (by decide) (by decide)
  obtain ⟨wd, hwd, ewd⟩ : ∃ r, r < m + 1 ∧ f_L_some (y >>> ((3 : Int32) &&& 31)) (iN (m + 1)) = some (iN r) := some_lt _ (by omega) (by omega)
  obtain ⟨n, hn, c8, e9, hx⟩ := hX.2.1.1 s hs
  have hev : evn M s = n := by unfold evn; rw [e9, nnI (by omega)]
  have c8' : c ((8 : Int32) + iN s).toNatClampNeg = iN n := by
    rw [show (8 : Int32) + iN s = iN (8 + s) from iN_add 8 s, iN_c (by omega)]; exact c8
  have g8 : gd ((8 : Int32) + iN s) 12 = true := by
    rw [show (8 : Int32) + iN s = iN (8 + s) from iN_add 8 s, gd_iN (by omega)]; exact decide_eq_true (by omega)
  obtain ⟨r7, hr7, er7⟩ : ∃ r, r < n + 1 ∧ f_L_some (y >>> ((5 : Int32) &&& 31)) (iN (n + 1)) = some (iN r) := some_lt _ (by omega) (by omega)
  obtain ⟨r9, hr9, er9⟩ : ∃ r, r < 17 ∧ f_L_some (y >>> ((9 : Int32) &&& 31)) 17 = some (iN r) := some_lt _ (by decide) (by decide)
  have k67 : ∀ is, ((is = 1 ∧ wd < nn (M 0 0)) ∨ (is = 0 ∧ wd = nn (M 0 0))) → ∀ s0 s1 : Int32, (s0 - s1 = nM ∨ ∃ r, r ≤ n ∧ s0 - s1 = iN r) → wp (f_L_texts_J67 K c x 0 (iN kd) (iN s) (iN wd) (iN is) s0 s1) (fun z => z.1 = 1 ∧ UP j z.2.1 z.2.2.1 w u z.2.2.2 t g q nr h p k) := by
    intro is his s0 s1 hpl
    rw [f_L_texts_J67, eq_lb]
    generalize s0 - s1 = pl at hpl
    rcases hpl with rfl | ⟨r, hr, rfl⟩
    · rw [if_pos (show nM < 0 by decide), f_L_texts_J91]
      exact L_J92t (th := 0) hR hj hX he hkd hs his (Or.inr ⟨rfl, Or.inl (by decide)⟩)
    · rw [if_neg (show ¬ (iN r < 0) from (by rw [iN_lt0 (by omega)]; exact id : ¬ (iN r < iN 0))), g8, eq_grd, c8']
      by_cases h0 : n ≤ r
      · rw [if_pos ((iN_le (by omega) (by omega)).mpr h0), f_L_texts_J91]
        exact L_J92t (th := 0) hR hj hX he hkd hs his (Or.inr ⟨rfl, Or.inr (by rw [hev, iN_le (by omega) (by omega)]; exact h0)⟩)
      · rw [if_neg (fun hh => h0 ((iN_le (by omega) (by omega)).mp hh))]
        exact L_J92t (th := 1) hR hj hX he hkd hs his (Or.inl ⟨rfl, r, by omega, rfl⟩)
  have k33 : ∀ is, ((is = 1 ∧ wd < nn (M 0 0)) ∨ (is = 0 ∧ wd = nn (M 0 0))) → wp (f_L_texts_J33 K c x 0 (iN kd) y (iN s) (iN wd) (iN is)) (fun z => z.1 = 1 ∧ UP j z.2.1 z.2.2.1 w u z.2.2.2 t g q nr h p k) := by
    intro is his
    rw [f_L_texts_J33, g8, eq_grd, c8', show iN n + 1 = iN (n + 1) from iN_add n 1, er7, eq_b1, er9, eq_b1]
    by_cases h0 : iN r9 = 0
    · rw [if_pos h0]
      refine k67 is his _ _ ?_
      by_cases hz : r7 = 0
      · subst hz; exact Or.inl (by decide)
      · exact Or.inr ⟨r7 - 1, by omega, iN_s1 (by omega)⟩
    · rw [if_neg h0]
      exact k67 is his _ _ (Or.inr ⟨r7, by omega, Int32.sub_zero _⟩)
  rw [f_L_texts, es, eq_b1, c0', show iN m + 1 = iN (m + 1) from iN_add m 1, ewd, eq_b1]
  by_cases h0 : m ≤ wd
  · rw [if_pos ((iN_le (by omega) (by omega)).mpr h0)]
    exact k33 0 (Or.inr ⟨rfl, by omega⟩)
  · rw [if_neg (fun hh => h0 ((iN_le (by omega) (by omega)).mp hh))]
    exact k33 1 (Or.inl ⟨rfl, by omega⟩)
