/-! The law's chart, whole. -/
theorem L_wd {c0 w u x l v g q nr : Rw} {M G : Ob} {L gv : Nat → Nat} {ch : Ch} {s b m n N : Nat} {y0 : Cy} (hG : WGr G) (h : LW0 c0 w u x M) (hs : s < 2) (hl : RLl l M s L) (hL : LB (evS M s) L) (hgv : ∀ p, gv p < 16) (hp : b < evn M s) (hm : m < 100) (hv1 : v (2 * (3 * s + b)) = iN (gv b % 4)) (hv2 : v (2 * (3 * s + b) + 1) = iN (gv b / 4)) (hS : SL2 c0 G ch b m 0 n y0) (v14 v16 : Int32) :
    wp (f_L_chart_L86 400 (yc y0) w u x l v g q nr (ye y0) (yj y0) (ya y0) (yb y0) (ym y0) N v14 (iN m) v16 (iN (lsp b m)) (iN (3 * s + b)) (iN 0)) (fun r => VS c0 G ch b m 0 n y0 (if m = 1 then wdF G (evS M s) L gv b 4 ch else ch) r.2) := by
  by_cases h1 : m = 1
  · subst h1
    rw [if_pos rfl]
    exact L_word hG h hs hl hL hgv hp hv1 hv2 hS v14 v16
  · rw [if_neg h1]
    simp (disch := omega) only [f_L_chart_L86, ↓nM_lit, iN_lit, iN_add, iN_mul, iN_lt, iN_le, iN_eq, iN_c, gd_iN, iN_nM, nM_iN, iN_ltM, nM_lt, nM_le, iN_leM, iN_0M, nM_p1, iN_0s1, decide_true, decide_eq_true_eq, Nat.not_lt_zero, if_true, if_false, wp_some, wp_grd, wp_lb, wp_ite, wp_b1, wp_b2, wp_b3, wp_b4, wp_b5, ↓reduceIte, wp_b6, wp_b7, wp_b8, wp_b9, h1]
    exact ⟨ch, n, Nat.le_refl _, hS, oldL_r, fun _ _ => rfl, fun h => ⟨h, rfl⟩⟩
theorem L_cuts {c0 w u x l v g q nr : Rw} {G : Ob} {ch : Ch} {b m n N0 : Nat} {y0 : Cy} (h : LB2 c0 g q nr G) (hS : SL2 c0 G ch b m 0 n y0) (hm : 1 ≤ m) (hN : N0 + 64 * nn (G 21 0) * (m - 1) ≤ 4000) (v14 : Int32) :
    wp (f_L_chart_L251 400 (yc y0) w u x l v g q nr (ye y0) (yj y0) (ya y0) (yb y0) (ym y0) N0 v14 (iN m) (iN b) (iN (lsp b m)) (iN 1)) (fun r => VB c0 G ch b m 0 n y0 (cutF G b m (m - 1) ch) (N0 + 64 * nn (G 21 0) * (m - 1)) ((r.2.1, r.2.2.1, r.2.2.2.1, r.2.2.2.2.1, r.2.2.2.2.2.1, r.2.2.2.2.2.2.1), r.2.2.2.2.2.2.2)) := by
  have hb3 := hS.2.2.2
  refine lp_up (F := fun f (Z : Cy × Nat) i => f_L_chart_L251 f (yc Z.1) w u x l v g q nr (ye Z.1) (yj Z.1) (ya Z.1) (yb Z.1) (ym Z.1) Z.2 v14 (iN m) (iN b) (iN (lsp b m)) i) (V := fun a Z => 1 ≤ a ∧ VB c0 G ch b m 0 n y0 (cutF G b m (a - 1) ch) (N0 + 64 * nn (G 21 0) * (a - 1)) Z) (hi := m) ?_ 400 1 (y0, N0) (by omega) (by omega) ⟨Nat.le_refl _, ch, n, Nat.le_refl _, hS, oldL_r, fun _ _ => rfl, fun h => ⟨h, rfl⟩, Nat.le_refl _⟩
  rintro f ⟨Z, N⟩ a ha ⟨ha1, ch', n', hn1, hS', ho, hne, h7, hNN⟩ hk
  simp only at hS' ho h7 hNN
  obtain ⟨k, rfl⟩ : ∃ k, a = k + 1 := ⟨a - 1, by omega⟩
  rw [Nat.add_sub_cancel] at h7 hNN
  by_cases he : k + 1 = m
  · subst he
    simp (disch := omega) only [f_L_chart_L251, ↓nM_lit, iN_lit, iN_add, iN_mul, iN_lt, iN_le, iN_eq, iN_c, gd_iN, iN_nM, nM_iN, iN_ltM, nM_lt, nM_le, iN_leM, iN_0M, nM_p1, iN_0s1, decide_true, decide_eq_true_eq, Nat.not_lt_zero, if_true, if_false, wp_some, wp_grd, wp_lb, wp_ite, wp_b1, wp_b2, wp_b3, wp_b4, wp_b5, ↓reduceIte, wp_b6, wp_b7, wp_b8, wp_b9, Nat.le_refl, Nat.add_sub_cancel]
    exact ⟨ch', n', hn1, hS', ho, hne, h7, hNN⟩
  · have hlt : k + 1 < m := by omega
    have hK : 64 * nn (G 21 0) * (k + 1) = 64 * nn (G 21 0) * k + 64 * nn (G 21 0) := Nat.mul_succ _ _
    have hK2 : 64 * nn (G 21 0) * (k + 1) ≤ 64 * nn (G 21 0) * (m - 1) := Nat.mul_le_mul_left _ (by omega)
    have key := L_bin (a := k + 1) (N0 := N) (w := w) (u := u) (x := x) (l := l) (v := v) h hS' (by omega) hlt (by omega) v14 (iN m) (iN b) (iN (k + 1))
    rw [show 6 * b + (k + 1) - 1 = 6 * b + k by omega] at key
    simp (disch := omega) only [f_L_chart_L251, ↓nM_lit, iN_lit, iN_add, iN_mul, iN_lt, iN_le, iN_eq, iN_c, gd_iN, iN_nM, nM_iN, iN_ltM, nM_lt, nM_le, iN_leM, iN_0M, nM_p1, iN_0s1, decide_true, decide_eq_true_eq, Nat.not_lt_zero, if_true, if_false, wp_some, wp_grd, wp_lb, wp_ite, wp_b1, wp_b2, wp_b3, wp_b4, wp_b5, ↓reduceIte, wp_b6, wp_b7, wp_b8, wp_b9, L_span, iN_sub, show ¬ (m ≤ k + 1) by omega]
    refine wp_mono key ?_
    rintro r ⟨ch2, n2, k1, k2, k3, k4, k5, k6⟩
    simp only at k2 k3 k5 k6
    refine ⟨by omega, ?_⟩
    refine hk ((r.2.1, r.2.2.1, r.2.2.2.1, r.2.2.2.2.1, r.2.2.2.2.2.1, r.2.2.2.2.2.2.1), r.2.2.2.2.2.2.2) hlt ⟨by omega, ch2, n2, by omega, k2, oldL_t hn1 ho k3, fun s' hs' => by rw [k4 s' hs']; exact hne s' hs', ?_, ?_⟩
    · intro h0
      obtain ⟨j1, j2⟩ := k5 h0
      obtain ⟨j3, j4⟩ := h7 j1
      refine ⟨j3, ?_⟩
      rw [Nat.add_sub_cancel, cutF, j2, ← j4]; rfl
    · rw [Nat.add_sub_cancel, hK]
      simp only
      omega
/-- between cells of the law's chart -/
def CV (c0 : Rw) (G : Ob) (m b : Nat) (y0 : Cy) (ch1 : Ch) (N : Nat) (Z : Cy × Nat) : Prop := ∃ ch' n', LCh Z.1 G ch' n' ∧ GI G ch' m b ∧ (∀ k, k ≠ 6 → k ≠ 7 → yc Z.1 k = c0 k) ∧ (yc Z.1 7 = iN 0 → yc y0 7 = iN 0 ∧ ch' = ch1) ∧ Z.2 ≤ N
theorem Iv_GI2 {G : Ob} {ch ch' : Ch} {m b P : Nat} (h : GI G ch m b) (hI : Iv G ch' b m P) (hne : ∀ s', s' ≠ 6 * b + m - 1 → ch' s' = ch s') : GI G ch' m (b + 1) := by
  obtain ⟨h1, h2, h3, h4, h5, h6⟩ := hI
  refine ⟨h3, h5, h4, ?_⟩
  intro b' hb hm
  rw [hne _ (by omega)]
  exact h.2.2.2 b' (by omega) hm
theorem L_row {c0 w u x l v g q nr : Rw} {M G : Ob} {L gv : Nat → Nat} {ch : Ch} {s m N0 n : Nat} {y0 : Cy} (hG : LB2 c0 g q nr G) (h : LW0 c0 w u x M) (hs : s < 2) (hl : RLl l M s L) (hL : LB (evS M s) L) (hgv : ∀ p, gv p < 16) (hv : ∀ p, p < evn M s → v (2 * (3 * s + p)) = iN (gv p % 4) ∧ v (2 * (3 * s + p) + 1) = iN (gv p / 4)) (hm : 1 ≤ m) (hmn : m ≤ evn M s) (hx : LCh y0 G ch n) (hI : GI G ch m 0) (hc : ∀ k, k ≠ 6 → k ≠ 7 → yc y0 k = c0 k) (hN : N0 + (320 * (m - 1) + 400) * (evn M s + 1 - m) ≤ 4000) :
    wp (f_L_chart_L50 400 (yc y0) w u x l v g q nr (ye y0) (yj y0) (ya y0) (yb y0) (ym y0) N0 (iN s) (iN m) (iN 0)) (fun r => CV c0 G m (evn M s + 1 - m) y0 (froF G (evS M s) L gv m (evn M s + 1 - m) ch) (N0 + (320 * (m - 1) + 400) * (evn M s + 1 - m)) ((r.2.1, r.2.2.1, r.2.2.2.1, r.2.2.2.2.1, r.2.2.2.2.2.1, r.2.2.2.2.2.2.1), r.2.2.2.2.2.2.2)) := by
  obtain ⟨n3, ecs, -, -⟩ := LX_t h.2.2.2 hs
  have h5 : nn (G 21 0) ≤ 5 := hG.1.1
  refine lp_up (F := fun f (Z : Cy × Nat) i => f_L_chart_L50 f (yc Z.1) w u x l v g q nr (ye Z.1) (yj Z.1) (ya Z.1) (yb Z.1) (ym Z.1) Z.2 (iN s) (iN m) i) (V := fun b Z => CV c0 G m b y0 (froF G (evS M s) L gv m b ch) (N0 + (320 * (m - 1) + 400) * b) Z) (hi := evn M s + 1 - m) ?_ 400 0 (y0, N0) (by omega) (by omega) ⟨ch, n, hx, hI, hc, fun h => ⟨h, rfl⟩, Nat.le_refl _⟩
  rintro f ⟨Z, N⟩ b hb ⟨ch', n', hx', hI', hc', h7, hNN⟩ hk
  simp only at hx' hc' h7 hNN
  have e8 : yc Z (8 + s) = iN (evn M s) := by rw [hc' _ (by omega) (by omega), ecs]
  by_cases he : b = evn M s + 1 - m
  · subst he
    simp (disch := omega) only [f_L_chart_L50, ↓nM_lit, iN_lit, iN_add, iN_mul, iN_lt, iN_le, iN_eq, iN_c, gd_iN, iN_nM, nM_iN, iN_ltM, nM_lt, nM_le, iN_leM, iN_0M, nM_p1, iN_0s1, decide_true, decide_eq_true_eq, Nat.not_lt_zero, if_true, if_false, wp_some, wp_grd, wp_lb, wp_ite, wp_b1, wp_b2, wp_b3, wp_b4, wp_b5, ↓reduceIte, wp_b6, wp_b7, wp_b8, wp_b9, show 8 + s < 12 by omega, e8, show evn M s < evn M s + 1 - m + m by omega, true_and]
    exact ⟨ch', n', hx', hI', hc', h7, hNN⟩
  · have hbm : b + m ≤ evn M s := by omega
    have hIv := GI_Iv hm (by omega) hI'
    have hB : (320 * (m - 1) + 400) * (b + 1) = (320 * (m - 1) + 400) * b + (320 * (m - 1) + 400) := Nat.mul_succ _ _
    have hB2 : (320 * (m - 1) + 400) * (b + 1) ≤ (320 * (m - 1) + 400) * (evn M s + 1 - m) := Nat.mul_le_mul_left _ (by omega)
    have hC : 64 * nn (G 21 0) * (m - 1) ≤ 320 * (m - 1) := Nat.mul_le_mul_right _ (by omega)
    obtain ⟨hv1, hv2⟩ := hv b (by omega)
    have hS : SL2 c0 G ch' b m 0 n' Z := ⟨hc', hx', hIv, by omega⟩
    simp (disch := omega) only [f_L_chart_L50, ↓nM_lit, iN_lit, iN_add, iN_mul, iN_lt, iN_le, iN_eq, iN_c, gd_iN, iN_nM, nM_iN, iN_ltM, nM_lt, nM_le, iN_leM, iN_0M, nM_p1, iN_0s1, decide_true, decide_eq_true_eq, Nat.not_lt_zero, if_true, if_false, wp_some, wp_grd, wp_lb, wp_ite, wp_b1, wp_b2, wp_b3, wp_b4, wp_b5, ↓reduceIte, wp_b6, wp_b7, wp_b8, wp_b9, show 8 + s < 12 by omega, e8, show ¬ (evn M s < b + m) by omega, L_span, true_and]
    refine wp_mono (L_wd (q := q) (g := g) (nr := nr) (v := v) (N := N) hG.2.1 h hs hl hL hgv (by omega) (by omega) hv1 hv2 hS (iN s) (iN b)) ?_
    rintro r ⟨ch1, n1, a1, a2, a3, a4, a5⟩
    refine wp_mono (L_cuts (y0 := r.2) (w := w) (u := u) (x := x) (l := l) (v := v) (N0 := N) hG a2 hm (by omega) (iN s)) ?_
    rintro r2 ⟨ch2, n2, b1, b2, b3, b4, b5, b6⟩
    simp only at b2 b3 b5 b6
    refine ⟨by omega, ?_⟩
    refine wp_mono (L_un (y0 := (r2.2.1, r2.2.2.1, r2.2.2.2.1, r2.2.2.2.2.1, r2.2.2.2.2.2.1, r2.2.2.2.2.2.2.1)) (w := w) (u := u) (x := x) (l := l) (v := v) (N0 := r2.2.2.2.2.2.2.2) hG b2 (by omega) (iN s) (iN m) (iN b)) ?_
    rintro r3 ⟨P, ch3, n3', d1, d2, d3, d4, d5, d6⟩
    simp only at d2 d3 d5 d6
    refine ⟨by omega, ?_⟩
    refine hk ((r3.2.1, r3.2.2.1, r3.2.2.2.1, r3.2.2.2.2.1, r3.2.2.2.2.2.1, r3.2.2.2.2.2.2.1), r3.2.2.2.2.2.2.2) (by omega) ⟨ch3, n3', d2.2.1, Iv_GI2 hI' d2.2.2.1 (fun s' hs' => by rw [d4 s' hs', b4 s' hs', a4 s' hs']), d2.1, ?_, ?_⟩
    · intro h0
      obtain ⟨j1, j2⟩ := d5 h0
      obtain ⟨j3, j4⟩ := b5 j1
      obtain ⟨j5, j6⟩ := a5 j3
      obtain ⟨j7, j8⟩ := h7 j5
      refine ⟨j7, ?_⟩
      rw [froF, celF, j2, j4, j6, j8]
      by_cases h1 : m = 1
      · subst h1; rfl
      · rw [if_neg h1, if_neg h1]
    · rw [hB]
      simp only
      omega
def bL : Nat → Nat
  | 0 => 0
  | 1 => 0
  | 2 => 1200
  | 3 => 2640
  | _ => 3680
theorem lsp_lt6 {b w : Nat} (h1 : 1 ≤ w) (h2 : b + w ≤ 3) : lsp b w < 6 := lsp_lt h1 h2
theorem L_mans {c0 w u x l v g q nr : Rw} {M G : Ob} {L gv : Nat → Nat} {s : Nat} {y0 : Cy} (hG : LB2 c0 g q nr G) (h : LW0 c0 w u x M) (hs : s < 2) (hl : RLl l M s L) (hL : LB (evS M s) L) (hgv : ∀ p, gv p < 16) (hv : ∀ p, p < evn M s → v (2 * (3 * s + p)) = iN (gv p % 4) ∧ v (2 * (3 * s + p) + 1) = iN (gv p / 4)) (hx : LCh y0 G (fun _ => []) 0) (hc : ∀ k, k ≠ 6 → k ≠ 7 → yc y0 k = c0 k) :
    wp (f_L_chart_L35 400 (yc y0) w u x l v g q nr (ye y0) (yj y0) (ya y0) (yb y0) (ym y0) 0 (iN s) (iN 1)) (fun r => CV c0 G (evn M s + 1) 0 y0 (cht G (evS M s) L gv) 4000 ((r.2.1, r.2.2.1, r.2.2.2.1, r.2.2.2.2.1, r.2.2.2.2.2.1, r.2.2.2.2.2.2.1), r.2.2.2.2.2.2.2)) := by
  obtain ⟨n3, ecs, -, -⟩ := LX_t h.2.2.2 hs
  refine lp_up (F := fun f (Z : Cy × Nat) i => f_L_chart_L35 f (yc Z.1) w u x l v g q nr (ye Z.1) (yj Z.1) (ya Z.1) (yb Z.1) (ym Z.1) Z.2 (iN s) i) (V := fun m Z => 1 ≤ m ∧ CV c0 G m 0 y0 (manF G (evS M s) L gv (m - 1) (fun _ => [])) (bL m) Z) (hi := evn M s + 1) ?_ 400 1 (y0, 0) (by omega) (by omega) ⟨Nat.le_refl _, (fun _ => []), 0, hx, GI_0 G, hc, fun h => ⟨h, rfl⟩, Nat.le_refl _⟩
  rintro f ⟨Z, N⟩ m hm ⟨hm1, ch', n', hx', hI', hc', h7, hNN⟩ hk
  simp only at hx' hc' h7 hNN
  have e8 : yc Z (8 + s) = iN (evn M s) := by rw [hc' _ (by omega) (by omega), ecs]
  have hN4 : N ≤ 4000 := by
    refine Nat.le_trans hNN ?_
    rcases (show m = 1 ∨ m = 2 ∨ m = 3 ∨ m = 4 by omega) with rfl | rfl | rfl | rfl <;> decide
  by_cases he : m = evn M s + 1
  · subst he
    simp (disch := omega) only [f_L_chart_L35, ↓nM_lit, iN_lit, iN_add, iN_mul, iN_lt, iN_le, iN_eq, iN_c, gd_iN, iN_nM, nM_iN, iN_ltM, nM_lt, nM_le, iN_leM, iN_0M, nM_p1, iN_0s1, decide_true, decide_eq_true_eq, Nat.not_lt_zero, if_true, if_false, wp_some, wp_grd, wp_lb, wp_ite, wp_b1, wp_b2, wp_b3, wp_b4, wp_b5, ↓reduceIte, wp_b6, wp_b7, wp_b8, wp_b9, show 8 + s < 12 by omega, e8, show evn M s < evn M s + 1 by omega, true_and]
    exact ⟨ch', n', hx', hI', hc', h7, hN4⟩
  · have hmn : m ≤ evn M s := by omega
    have hbd : N + (320 * (m - 1) + 400) * (evn M s + 1 - m) ≤ bL (m + 1) ∧ bL (m + 1) ≤ 4000 := by
      rcases (show m = 1 ∨ m = 2 ∨ m = 3 by omega) with rfl | rfl | rfl
      · have e1 : bL 1 = 0 := rfl
        have e2 : bL (1 + 1) = 1200 := rfl
        omega
      · have e1 : bL 2 = 1200 := rfl
        have e2 : bL (2 + 1) = 2640 := rfl
        omega
      · have e1 : bL 3 = 2640 := rfl
        have e2 : bL (3 + 1) = 3680 := rfl
        omega
    have key := L_row (y0 := Z) (N0 := N) hG h hs hl hL hgv hv hm1 hmn hx' hI' hc' (by omega)
    simp (disch := omega) only [f_L_chart_L35, ↓nM_lit, iN_lit, iN_add, iN_mul, iN_lt, iN_le, iN_eq, iN_c, gd_iN, iN_nM, nM_iN, iN_ltM, nM_lt, nM_le, iN_leM, iN_0M, nM_p1, iN_0s1, decide_true, decide_eq_true_eq, Nat.not_lt_zero, if_true, if_false, wp_some, wp_grd, wp_lb, wp_ite, wp_b1, wp_b2, wp_b3, wp_b4, wp_b5, ↓reduceIte, wp_b6, wp_b7, wp_b8, wp_b9, show 8 + s < 12 by omega, e8, show ¬ (evn M s < m) by omega, true_and]
    refine wp_mono key ?_
    rintro r ⟨ch2, n2, k1, k2, k3, k4, k5⟩
    simp only at k1 k3 k4 k5
    refine ⟨by omega, ?_⟩
    refine hk ((r.2.1, r.2.2.1, r.2.2.2.1, r.2.2.2.2.1, r.2.2.2.2.2.1, r.2.2.2.2.2.2.1), r.2.2.2.2.2.2.2) (by omega) ⟨by omega, ch2, n2, k1, GI_next k2, k3, ?_, ?_⟩
    · intro h0
      obtain ⟨j1, j2⟩ := k4 h0
      obtain ⟨j3, j4⟩ := h7 j1
      refine ⟨j3, ?_⟩
      obtain ⟨k, rfl⟩ : ∃ k, m = k + 1 := ⟨m - 1, by omega⟩
      rw [j2, j4, Nat.add_sub_cancel, Nat.add_sub_cancel, manF, evS_L, show evn M s + 1 - (k + 1) = evn M s - k by omega]
    · simp only
      omega
theorem L_clear {c w u x l v g q nr e j a b : Rw} (N : Nat) (v14 : Int32) (m : Rw) :
    wp (f_L_chart_L13 400 c w u x l v g q nr e j a b m N v14 (iN 0)) (fun r => ∀ k, k < 6 → r.2 k = iN 0) := by
  refine lp_up (F := fun f (Z : Rw) i => f_L_chart_L13 f c w u x l v g q nr e j a b Z N v14 i) (V := fun i Z => ∀ k, k < i → Z k = iN 0) (hi := 6) ?_ 400 0 m (by omega) (by omega) (fun k hk => absurd hk (Nat.not_lt_zero k))
  intro f Z i hi hZ hk
  by_cases he : i = 6
  · subst he
    simp (disch := omega) only [f_L_chart_L13, ↓nM_lit, iN_lit, iN_add, iN_mul, iN_lt, iN_le, iN_eq, iN_c, gd_iN, iN_nM, nM_iN, iN_ltM, nM_lt, nM_le, iN_leM, iN_0M, nM_p1, iN_0s1, decide_true, decide_eq_true_eq, Nat.not_lt_zero, if_true, if_false, wp_some, wp_grd, wp_lb, wp_ite, wp_b1, wp_b2, wp_b3, wp_b4, wp_b5, ↓reduceIte, wp_b6, wp_b7, wp_b8, wp_b9, Nat.le_refl]
    exact hZ
  · have hi' : i < 6 := by omega
    simp (disch := omega) only [f_L_chart_L13, ↓nM_lit, iN_lit, iN_add, iN_mul, iN_lt, iN_le, iN_eq, iN_c, gd_iN, iN_nM, nM_iN, iN_ltM, nM_lt, nM_le, iN_leM, iN_0M, nM_p1, iN_0s1, decide_true, decide_eq_true_eq, Nat.not_lt_zero, if_true, if_false, wp_some, wp_grd, wp_lb, wp_ite, wp_b1, wp_b2, wp_b3, wp_b4, wp_b5, ↓reduceIte, wp_b6, wp_b7, wp_b8, wp_b9, show ¬ (6 ≤ i) by omega, hi', true_and]
    refine hk _ hi' ?_
    intro k hk'
    by_cases h : k = i
    · subst h; rw [upd_eq]
    · rw [upd_ne h]; exact hZ k (by omega)
/-- the law's chart: the rows hold a chart; unless they overflowed, it's the one asked -/
def CHP (c : Rw) (G : Ob) (ch1 : Ch) (Z : Cy) : Prop := ∃ ch' n', LCh Z G ch' n' ∧ WCh G ch' ∧ (∀ k, k ≠ 6 → k ≠ 7 → yc Z k = c k) ∧ (yc Z 7 = iN 0 → ch' = ch1)
theorem L_chart {c w u x l v g q nr e j a b m : Rw} {M G : Ob} {L gv : Nat → Nat} {s : Nat} (hG : LB2 c g q nr G) (h : LW0 c w u x M) (hs : s < 2) (hl : RLl l M s L) (hL : LB (evS M s) L) (hgv : ∀ p, gv p < 16) (hv : ∀ p, p < evn M s → v (2 * (3 * s + p)) = iN (gv p % 4) ∧ v (2 * (3 * s + p) + 1) = iN (gv p / 4)) :
    wp (f_L_chart c w u x l v g q nr e j a b m (iN s)) (fun z => CHP c G (cht G (evS M s) L gv) z) := by
  have hc' : ∀ k, k ≠ 6 → k ≠ 7 → upd (upd c 6 (iN 0)) 7 (iN 0) k = c k := fun k h6 h7 => by rw [upd_ne h7, upd_ne h6]
  simp (disch := omega) only [f_L_chart, ↓nM_lit, iN_lit, iN_add, iN_mul, iN_lt, iN_le, iN_eq, iN_c, gd_iN, iN_nM, nM_iN, iN_ltM, nM_lt, nM_le, iN_leM, iN_0M, nM_p1, iN_0s1, decide_true, decide_eq_true_eq, Nat.not_lt_zero, if_true, if_false, wp_some, wp_grd, wp_lb, wp_ite, wp_b1, wp_b2, wp_b3, wp_b4, wp_b5, ↓reduceIte, wp_b6, wp_b7, wp_b8, wp_b9]
  refine wp_mono (L_clear (c := upd (upd c 6 (iN 0)) 7 (iN 0)) (w := w) (u := u) (x := x) (l := l) (v := v) (g := g) (q := q) (nr := nr) (e := e) (j := j) (a := a) (b := b) 0 (iN s) m) ?_
  intro r hr
  have hx : LCh ((upd (upd c 6 (iN 0)) 7 (iN 0), e, j, a, b, r.2) : Cy) G (fun _ => []) 0 := by
    refine ⟨?_, by omega, ?_⟩
    · show upd (upd c 6 (iN 0)) 7 (iN 0) 6 = iN 0
      rw [upd_ne (by decide), upd_eq]
    · intro b0 w0 h1 h2
      exact ⟨hr _ (lsp_lt h1 h2), fun i hi => absurd hi (Nat.not_lt_zero i)⟩
  refine wp_mono (L_mans (y0 := ((upd (upd c 6 (iN 0)) 7 (iN 0), e, j, a, b, r.2) : Cy)) hG h hs hl hL hgv hv hx hc') ?_
  rintro z ⟨ch2, n2, k1, k2, k3, k4, k5⟩
  simp only at k1 k3 k4 k5
  exact ⟨by omega, ch2, n2, k1, ⟨k2.1, k2.2.1⟩, k3, fun h0 => (k4 h0).2⟩
