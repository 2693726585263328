/-! Words go into the law's chart. -/
/-- what holds behind a step of the chart -/
def VS (c0 : Rw) (G : Ob) (ch : Ch) (b m P n : Nat) (y0 : Cy) (ch1 : Ch) (Z : Cy) : Prop := ∃ ch' n', n ≤ n' ∧ SL2 c0 G ch' b m P n' Z ∧ oldL n y0 Z ∧ (∀ s', s' ≠ 6 * b + m - 1 → ch' s' = ch s') ∧ (yc Z 7 = iN 0 → yc y0 7 = iN 0 ∧ ch' = ch1)
def lfT (E : Ev) (gv : Nat → Nat) (p k : Nat) : Tr := .leaf (p, k, eT E p k, gF (eT E p k) (eP E p k) (gv p))
theorem L_J205 {c0 w u x l v g q nr : Rw} {M G : Ob} {L gv : Nat → Nat} {ch : Ch} {s p n k N A B : Nat} {y : Cy} (hG : WGr G) (h : LW0 c0 w u x M) (hs : s < 2) (hl : RLl l M s L) (hL : LB (evS M s) L) (hgv : ∀ p, gv p < 16) (hp : p < evn M s) (hk : k < eC (evS M s) p) (hS : SL2 c0 G ch p 1 0 n y) (hAB : A + B = 1000 * nn (eT (evS M s) p k) + dec (gF (eT (evS M s) p k) (eP (evS M s) p k) (gv p))) (v14 v15 v16 : Int32) :
    wp (f_L_chart_J205 (yc y) w u x l v g q nr (ye y) (yj y) (ya y) (yb y) (ym y) N v14 v15 v16 (iN (lsp p 1)) (iN (3 * s + p)) (iN k) (iN A) (iN B)) (fun z => z.1 = 0 ∧ z.2.1 = iN (k + 1) ∧ VS c0 G ch p 1 0 n y (if (L p).testBit k = true then addE G ch (6 * p) (lfT (evS M s) gv p k) else ch) z.2.2) := by
  have hE := LW_E h hs
  obtain ⟨ex, -, ec, c2, et⟩ := LW_at h hs hp
  obtain ⟨n3, -, -, -⟩ := LX_t h.2.2.2 hs
  obtain ⟨er, et1, et2, et3⟩ := et k hk
  have hp' : p < eL (evS M s) := by rw [evS_L]; exact hp
  have h16 := LB16 hE hL hp'
  have el := hl p hp
  have hPl : eP (evS M s) p k < 64 := ((hE.2 p hp').2 k hk).1
  have hgF : gF (eT (evS M s) p k) (eP (evS M s) p k) (gv p) < 64 := gF_lt hPl (hgv p)
  obtain ⟨sf, sR, sI, s3⟩ := id hS
  cases hb : (L p).testBit k with
  | false =>
    simp (disch := omega) only [f_L_chart_J205, ↓nM_lit, iN_lit, iN_add, iN_mul, iN_lt, iN_le, iN_eq, iN_c, gd_iN, iN_nM, nM_iN, iN_ltM, nM_lt, nM_le, iN_leM, iN_0M, nM_p1, iN_0s1, decide_true, decide_eq_true_eq, Nat.not_lt_zero, if_true, if_false, wp_some, wp_grd, wp_lb, wp_ite, wp_b1, wp_b2, wp_b3, wp_b4, wp_b5, ↓reduceIte, wp_b6, wp_b7, wp_b8, wp_b9, eq_grd, eq_lb, eq_b1, eq_b2, eq_b3, eq_b4, eq_b5, eq_b6, eq_b7, eq_b8, eq_b9, hAB, show 3 * s + p < 6 by omega, el, bit_1 h16 (show k < 4 by omega), hb, reduceCtorEq, true_and]
    exact ⟨ch, n, Nat.le_refl _, hS, oldL_r, fun _ _ => rfl, fun h => ⟨h, rfl⟩⟩
  | true =>
    have hT : WT G (lfT (evS M s) gv p k) := ⟨by show p < 6; omega, by show k < 4; omega, ⟨_, et2, et1⟩, hgF⟩
    have hw1 : tW (lfT (evS M s) gv p k) = 1 := by
      show (if eT (evS M s) p k = nM then 0 else 1) = 1
      rw [if_neg (by rw [et1, iN_nM (by omega)]; exact id)]
    have hput := L_put (fr := 0) sR hG (Nat.le_refl 1) s3 sI.2.2.2.2.1 (fun t ht => (sI.2.2.1 _ t ht).1) (t := lfT (evS M s) gv p k) ⟨_, et2, et1⟩ hgF (fun z z1 z2 z3 _ => ⟨z1, z2, z3⟩)
    obtain ⟨z, ez, ch', n', h1, h2, h3, h4, h5, h6, h7⟩ := hput
    have ez' : f_L_lays (yc y) (ye y) (yj y) (ya y) (yb y) (ym y) (iN (lsp p 1)) (iN (1000 * nn (eT (evS M s) p k) + dec (gF (eT (evS M s) p k) (eP (evS M s) p k) (gv p)))) (iN 0) (iN 0) = some z := ez
    simp (disch := omega) only [f_L_chart_J205, ↓nM_lit, iN_lit, iN_add, iN_mul, iN_lt, iN_le, iN_eq, iN_c, gd_iN, iN_nM, nM_iN, iN_ltM, nM_lt, nM_le, iN_leM, iN_0M, nM_p1, iN_0s1, decide_true, decide_eq_true_eq, Nat.not_lt_zero, if_true, if_false, wp_some, wp_grd, wp_lb, wp_ite, wp_b1, wp_b2, wp_b3, wp_b4, wp_b5, ↓reduceIte, wp_b6, wp_b7, wp_b8, wp_b9, eq_grd, eq_lb, eq_b1, eq_b2, eq_b3, eq_b4, eq_b5, eq_b6, eq_b7, eq_b8, eq_b9, hAB, show 3 * s + p < 6 by omega, el, bit_1 h16 (show k < 4 by omega), hb, ez', true_and]
    refine ⟨ch', n', h1, ⟨fun k k1 k2 => by show yc z k = _; rw [h6 k k1 k2]; exact sf k k1 k2, h3, ?_, s3⟩, h7, ?_, h5⟩
    · rcases h4 with rfl | rfl
      · exact Iv_add sI hT rfl hw1 (fun hh => absurd hh id)
      · exact sI
    · intro s' hs'
      rcases h4 with rfl | rfl
      · exact addE_ne hs'
      · rfl
theorem L_J134 {c0 w u x l v g q nr : Rw} {M : Ob} {gv : Nat → Nat} {s p k N : Nat} {y : Cy} (h : LW0 c0 w u x M) (hs : s < 2) (hgv : ∀ p, gv p < 16) (hp : p < evn M s) (hk : k < eC (evS M s) p) (hv1 : v (2 * (3 * s + p)) = iN (gv p % 4)) (hv2 : v (2 * (3 * s + p) + 1) = iN (gv p / 4)) (v14 v15 v16 v17 : Int32) :
    ∃ A B, A + B = 1000 * nn (eT (evS M s) p k) + dec (gF (eT (evS M s) p k) (eP (evS M s) p k) (gv p)) ∧ f_L_chart_J134 (yc y) w u x l v g q nr (ye y) (yj y) (ya y) (yb y) (ym y) N v14 v15 v16 v17 (iN (3 * s + p)) (iN k) (iN (1000 * nn (eT (evS M s) p k) + dec (eP (evS M s) p k))) (if nn (eT (evS M s) p k) = 1 then iN 1 else iN 0) = f_L_chart_J205 (yc y) w u x l v g q nr (ye y) (yj y) (ya y) (yb y) (ym y) N v14 v15 v16 v17 (iN (3 * s + p)) (iN k) (iN A) (iN B) := by
  have hE := LW_E h hs
  obtain ⟨ex, -, ec, c2, et⟩ := LW_at h hs hp
  obtain ⟨n3, -, -, -⟩ := LX_t h.2.2.2 hs
  obtain ⟨er, et1, et2, et3⟩ := et k hk
  have hp' : p < eL (evS M s) := by rw [evS_L]; exact hp
  have hPl : eP (evS M s) p k < 64 := ((hE.2 p hp').2 k hk).1
  have hd := dec_e (eP (evS M s) p k)
  by_cases h1 : nn (eT (evS M s) p k) = 1
  · have e1 : eT (evS M s) p k = iN 1 := by rw [et1, h1]
    have hgd := gF_dec hPl (hgv p)
    rw [fv_0, fv_1, fv_2] at hgd
    have g16 := hgv p
    generalize hf : eP (evS M s) p k = f at *
    generalize hgp : gv p = gp at *
    obtain ⟨d1, d2, -⟩ := dgd 1 f
    rw [if_pos h1, h1, e1, hgd]
    have d1' : (1000 + dec f) / 100 - (1000 + dec f) / 100 / 10 * 10 = f % 4 := d1
    have d2' : (1000 + dec f) / 10 - (1000 + dec f) / 10 / 10 * 10 = f / 4 % 4 := d2
    by_cases ha : f % 4 = 0
    · have d3 : (1000 + dec f + 100 * (gp % 4)) / 10 - (1000 + dec f + 100 * (gp % 4)) / 10 / 10 * 10 = f / 4 % 4 := by
        have e0 : 1000 + dec f + 100 * (gp % 4) = 1000 * 1 + (100 * (gp % 4) + 10 * (f / 4 % 4) + f / 16 % 4) := by rw [hd, ha]; omega
        rw [e0]
        exact (dg3 (by omega) (by omega) (by omega)).2.1
      by_cases hb : f / 4 % 4 = 0
      · refine ⟨1000 + dec f + 100 * (gp % 4), 10 * (gp / 4), by rw [if_pos ha, if_pos hb, hd, ha, hb]; omega, ?_⟩
        simp (disch := omega) only [f_L_chart_J134, f_L_chart_J168, ↓nM_lit, iN_lit, iN_add, iN_mul, iN_lt, iN_le, iN_eq, iN_c, gd_iN, iN_nM, nM_iN, iN_ltM, nM_lt, nM_le, iN_leM, iN_0M, nM_p1, iN_0s1, decide_true, decide_eq_true_eq, Nat.not_lt_zero, if_true, if_false, wp_some, wp_grd, wp_lb, wp_ite, wp_b1, wp_b2, wp_b3, wp_b4, wp_b5, ↓reduceIte, wp_b6, wp_b7, wp_b8, wp_b9, eq_grd, eq_lb, eq_b1, eq_b2, eq_b3, eq_b4, eq_b5, eq_b6, eq_b7, eq_b8, eq_b9, iN_div, iN_sub, Nat.mul_one, d1', ha, show 2 * (3 * s + p) < 12 by omega, show 2 * (3 * s + p) + 1 < 12 by omega, hv1, hv2, d3, hb, show ¬ (1 = 0) by decide]
      · refine ⟨1000 + dec f + 100 * (gp % 4), 0, by rw [if_pos ha, if_neg hb, hd, ha]; omega, ?_⟩
        simp (disch := omega) only [f_L_chart_J134, f_L_chart_J168, f_L_chart_J204, ↓nM_lit, iN_lit, iN_add, iN_mul, iN_lt, iN_le, iN_eq, iN_c, gd_iN, iN_nM, nM_iN, iN_ltM, nM_lt, nM_le, iN_leM, iN_0M, nM_p1, iN_0s1, decide_true, decide_eq_true_eq, Nat.not_lt_zero, if_true, if_false, wp_some, wp_grd, wp_lb, wp_ite, wp_b1, wp_b2, wp_b3, wp_b4, wp_b5, ↓reduceIte, wp_b6, wp_b7, wp_b8, wp_b9, eq_grd, eq_lb, eq_b1, eq_b2, eq_b3, eq_b4, eq_b5, eq_b6, eq_b7, eq_b8, eq_b9, iN_div, iN_sub, Nat.mul_one, d1', ha, show 2 * (3 * s + p) < 12 by omega, hv1, d3, hb, show ¬ (1 = 0) by decide]
    · by_cases hb : f / 4 % 4 = 0
      · refine ⟨1000 + dec f, 10 * (gp / 4), by rw [if_neg ha, if_pos hb, hd, hb]; omega, ?_⟩
        simp (disch := omega) only [f_L_chart_J134, f_L_chart_J167, f_L_chart_J168, ↓nM_lit, iN_lit, iN_add, iN_mul, iN_lt, iN_le, iN_eq, iN_c, gd_iN, iN_nM, nM_iN, iN_ltM, nM_lt, nM_le, iN_leM, iN_0M, nM_p1, iN_0s1, decide_true, decide_eq_true_eq, Nat.not_lt_zero, if_true, if_false, wp_some, wp_grd, wp_lb, wp_ite, wp_b1, wp_b2, wp_b3, wp_b4, wp_b5, ↓reduceIte, wp_b6, wp_b7, wp_b8, wp_b9, eq_grd, eq_lb, eq_b1, eq_b2, eq_b3, eq_b4, eq_b5, eq_b6, eq_b7, eq_b8, eq_b9, iN_div, iN_sub, Nat.mul_one, Nat.add_zero, d1', ha, show 2 * (3 * s + p) + 1 < 12 by omega, hv2, d2', hb, show ¬ (1 = 0) by decide]
      · refine ⟨1000 + dec f, 0, by rw [if_neg ha, if_neg hb, hd]; omega, ?_⟩
        simp (disch := omega) only [f_L_chart_J134, f_L_chart_J167, f_L_chart_J168, f_L_chart_J204, ↓nM_lit, iN_lit, iN_add, iN_mul, iN_lt, iN_le, iN_eq, iN_c, gd_iN, iN_nM, nM_iN, iN_ltM, nM_lt, nM_le, iN_leM, iN_0M, nM_p1, iN_0s1, decide_true, decide_eq_true_eq, Nat.not_lt_zero, if_true, if_false, wp_some, wp_grd, wp_lb, wp_ite, wp_b1, wp_b2, wp_b3, wp_b4, wp_b5, ↓reduceIte, wp_b6, wp_b7, wp_b8, wp_b9, eq_grd, eq_lb, eq_b1, eq_b2, eq_b3, eq_b4, eq_b5, eq_b6, eq_b7, eq_b8, eq_b9, iN_div, iN_sub, Nat.mul_one, Nat.add_zero, d1', ha, d2', hb, show ¬ (1 = 0) by decide]
  · have e1 : ¬ (eT (evS M s) p k = iN 1) := by rw [et1, iN_eq (by omega) (by decide)]; exact h1
    rw [if_neg h1]
    refine ⟨1000 * nn (eT (evS M s) p k) + dec (eP (evS M s) p k), 0, by rw [gF, if_neg e1]; rfl, ?_⟩
    simp (disch := omega) only [f_L_chart_J134, f_L_chart_J167, f_L_chart_J168, f_L_chart_J204, ↓nM_lit, iN_lit, iN_add, iN_mul, iN_lt, iN_le, iN_eq, iN_c, gd_iN, iN_nM, nM_iN, iN_ltM, nM_lt, nM_le, iN_leM, iN_0M, nM_p1, iN_0s1, decide_true, decide_eq_true_eq, Nat.not_lt_zero, if_true, if_false, wp_some, wp_grd, wp_lb, wp_ite, wp_b1, wp_b2, wp_b3, wp_b4, wp_b5, ↓reduceIte, wp_b6, wp_b7, wp_b8, wp_b9, eq_grd, eq_lb, eq_b1, eq_b2, eq_b3, eq_b4, eq_b5, eq_b6, eq_b7, eq_b8, eq_b9, Nat.add_zero]
theorem L_word {c0 w u x l v g q nr : Rw} {M G : Ob} {L gv : Nat → Nat} {ch : Ch} {s p n N : Nat} {y0 : Cy} (hG : WGr G) (h : LW0 c0 w u x M) (hs : s < 2) (hl : RLl l M s L) (hL : LB (evS M s) L) (hgv : ∀ p, gv p < 16) (hp : p < evn M s) (hv1 : v (2 * (3 * s + p)) = iN (gv p % 4)) (hv2 : v (2 * (3 * s + p) + 1) = iN (gv p / 4)) (hS : SL2 c0 G ch p 1 0 n y0) (v14 v16 : Int32) :
    wp (f_L_chart_L86 400 (yc y0) w u x l v g q nr (ye y0) (yj y0) (ya y0) (yb y0) (ym y0) N v14 (iN 1) v16 (iN (lsp p 1)) (iN (3 * s + p)) (iN 0)) (fun r => VS c0 G ch p 1 0 n y0 (wdF G (evS M s) L gv p 4 ch) r.2) := by
  have hE := LW_E h hs
  obtain ⟨ex, -, ec, c2, et⟩ := LW_at h hs hp
  obtain ⟨n3, -, -, -⟩ := LX_t h.2.2.2 hs
  have hp' : p < eL (evS M s) := by rw [evS_L]; exact hp
  have e4 : wdF G (evS M s) L gv p 4 ch = wdF G (evS M s) L gv p (eC (evS M s) p) ch := by
    have := wdF_cn (G := G) (E := evS M s) (gv := gv) ch (hL p hp') (4 - eC (evS M s) p)
    rw [show eC (evS M s) p + (4 - eC (evS M s) p) = 4 by omega] at this
    exact this
  rw [e4]
  refine lp_up (F := fun f (Z : Cy) i => f_L_chart_L86 f (yc Z) w u x l v g q nr (ye Z) (yj Z) (ya Z) (yb Z) (ym Z) N v14 (iN 1) v16 (iN (lsp p 1)) (iN (3 * s + p)) i) (V := fun i Z => VS c0 G ch p 1 0 n y0 (wdF G (evS M s) L gv p i ch) Z) (hi := eC (evS M s) p) ?_ 400 0 y0 (by omega) (by omega) ⟨ch, n, Nat.le_refl _, hS, oldL_r, fun _ _ => rfl, fun h => ⟨h, rfl⟩⟩
  rintro f Z i hi ⟨ch', n', hn1, hS', ho, hne, h7⟩ hk
  by_cases he : i = eC (evS M s) p
  · subst he
    simp (disch := omega) only [f_L_chart_L86, ↓nM_lit, iN_lit, iN_add, iN_mul, iN_lt, iN_le, iN_eq, iN_c, gd_iN, iN_nM, nM_iN, iN_ltM, nM_lt, nM_le, iN_leM, iN_0M, nM_p1, iN_0s1, decide_true, decide_eq_true_eq, Nat.not_lt_zero, if_true, if_false, wp_some, wp_grd, wp_lb, wp_ite, wp_b1, wp_b2, wp_b3, wp_b4, wp_b5, ↓reduceIte, wp_b6, wp_b7, wp_b8, wp_b9, eq_grd, eq_lb, eq_b1, eq_b2, eq_b3, eq_b4, eq_b5, eq_b6, eq_b7, eq_b8, eq_b9, show 3 * s + p < 6 by omega, ex, ec, Nat.le_refl, true_and]
    exact ⟨ch', n', hn1, hS', ho, hne, h7⟩
  · have hi' : i < eC (evS M s) p := by omega
    obtain ⟨er, et1, et2, et3⟩ := et i hi'
    obtain ⟨A, B, hAB, hJ⟩ := L_J134 (g := g) (q := q) (nr := nr) (l := l) (N := N) (y := Z) h hs hgv hp hi' hv1 hv2 v14 (iN 1) v16 (iN (lsp p 1))
    have key := L_J205 (q := q) (g := g) (nr := nr) (v := v) (N := N) hG h hs hl hL hgv hp hi' hS' hAB v14 (iN 1) v16
    rw [← hJ] at key
    have hc : (1000 * nn (eT (evS M s) p i) + dec (eP (evS M s) p i)) / 1000 = nn (eT (evS M s) p i) := by omega
    have fin : ∀ z : Nat × Int32 × Cy, VS c0 G ch' p 1 0 n' Z (if (L p).testBit i = true then addE G ch' (6 * p) (lfT (evS M s) gv p i) else ch') z.2.2 → VS c0 G ch p 1 0 n y0 (wdF G (evS M s) L gv p (i + 1) ch) z.2.2 := by
      rintro z ⟨ch2, n2, k1, k2, k3, k4, k5⟩
      refine ⟨ch2, n2, by omega, k2, oldL_t hn1 ho k3, fun s' hs' => by rw [k4 s' hs']; exact hne s' hs', ?_⟩
      intro h0
      obtain ⟨j1, j2⟩ := k5 h0
      obtain ⟨j3, j4⟩ := h7 j1
      refine ⟨j3, ?_⟩
      rw [j2, wdF, ← j4]; rfl
    by_cases h1 : nn (eT (evS M s) p i) = 1
    · rw [if_pos h1] at key
      rw [h1] at hc
      simp (disch := omega) only [f_L_chart_L86, ↓nM_lit, iN_lit, iN_add, iN_mul, iN_lt, iN_le, iN_eq, iN_c, gd_iN, iN_nM, nM_iN, iN_ltM, nM_lt, nM_le, iN_leM, iN_0M, nM_p1, iN_0s1, decide_true, decide_eq_true_eq, Nat.not_lt_zero, if_true, if_false, wp_some, wp_grd, wp_lb, wp_ite, wp_b1, wp_b2, wp_b3, wp_b4, wp_b5, ↓reduceIte, wp_b6, wp_b7, wp_b8, wp_b9, eq_grd, eq_lb, eq_b1, eq_b2, eq_b3, eq_b4, eq_b5, eq_b6, eq_b7, eq_b8, eq_b9, show 3 * s + p < 6 by omega, ex, ec, show ¬ (eC (evS M s) p ≤ i) by omega, er, h1, iN_div, hc, true_and]
      rw [h1] at key
      refine wp_mono key ?_
      rintro z ⟨z1, z2, z3⟩
      rw [z1, z2, if_pos rfl]
      exact hk z.2.2 hi' (fin z z3)
    · rw [if_neg h1] at key
      simp (disch := omega) only [f_L_chart_L86, ↓nM_lit, iN_lit, iN_add, iN_mul, iN_lt, iN_le, iN_eq, iN_c, gd_iN, iN_nM, nM_iN, iN_ltM, nM_lt, nM_le, iN_leM, iN_0M, nM_p1, iN_0s1, decide_true, decide_eq_true_eq, Nat.not_lt_zero, if_true, if_false, wp_some, wp_grd, wp_lb, wp_ite, wp_b1, wp_b2, wp_b3, wp_b4, wp_b5, ↓reduceIte, wp_b6, wp_b7, wp_b8, wp_b9, eq_grd, eq_lb, eq_b1, eq_b2, eq_b3, eq_b4, eq_b5, eq_b6, eq_b7, eq_b8, eq_b9, show 3 * s + p < 6 by omega, ex, ec, show ¬ (eC (evS M s) p ≤ i) by omega, er, iN_div, hc, h1, true_and]
      refine wp_mono key ?_
      rintro z ⟨z1, z2, z3⟩
      rw [z1, z2, if_pos rfl]
      exact hk z.2.2 hi' (fin z z3)
