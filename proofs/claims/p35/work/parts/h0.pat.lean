/-! Patterns told, switched. -/
theorem isPart_y {p : Int32} (h : cat0 p) : f_X11_isPart p = some (iN 1) := by
  rcases h with hp | ⟨c, hc, hp⟩
  · rw [f_X11_isPart, if_pos (show p = -1 from hp)]; rfl
  · have h3 : ¬ (p = -1) := by
      intro h
      have h2 : iN c = nM := by rw [← hp]; exact h
      rw [iN_nM (by omega)] at h2; exact h2
    rw [f_X11_isPart, if_neg h3, hp, isD_y (by omega), eq_b1, if_neg (by decide)]; rfl
theorem an_pattern {j : Nat} {K : Nat → Ob} {M : Ob} (h : RI j K M) {n a : Nat} {p2 p3 p4 : Int32} (hn : n < 12) (e59 : M 59 0 = iN n) (ha : a < 10) (h2 : cat0 p2) (h3 : cat0 p3) (h23 : p2 = nM → p3 = nM) (h4 : p4 = nM ∨ ∃ b, b < n ∧ p4 = iN b) : ∃ K', f_L_four K (iN 3) (iN a) p2 p3 p4 = some (iN n, K') ∧ RI (j + 1) K' (M9p (upo M 67 0 (iN 0)) n (iN a) p2 p3 p4) := by
  have z0 : (0 : Int32) = iN 0 := rfl
  have o1 : (1 : Int32) = iN 1 := rfl
  have n1 : ¬ (iN 1 = (0 : Int32)) := by decide
  have w2 := isPart_y h2
  have w3 := isPart_y h3
  have e3 : f_X11_pattern M (iN a) p2 p3 p4 = f_X11_pattern_J36 M (iN a) p2 p3 p4 (iN 1) := by
    rw [f_X11_pattern, isD_y ha, eq_b1, if_neg n1, w2, eq_b1, if_neg n1, w3, eq_b1, if_neg n1]
    by_cases hh : p2 = -1
    · rw [if_pos hh, if_pos (show p3 = -1 from h23 hh), f_X11_pattern_J31]; rfl
    · rw [if_neg hh, f_X11_pattern_J31]; rfl
  have e4 : f_X11_pattern_J36 M (iN a) p2 p3 p4 (iN 1) = f_X11_pattern_J65 M (iN a) p2 p3 p4 (iN 1) (iN 1) := by
    rw [f_X11_pattern_J36]
    by_cases h4' : p4 = -1
    · rw [if_pos h4', f_X11_pattern_J60]; rfl
    · rw [if_neg h4']
      rcases h4 with e | ⟨b, hb, e⟩
      · exact absurd e h4'
      · have i1 := isI_y hb (show n < 2147483648 by omega)
        rw [e59, e, z0, o1, i1, eq_b1, if_neg (show ¬ (iN 1 = iN 0) by decide), f_X11_pattern_J60, o1]
  have e2 : f_X11_pattern M (iN a) p2 p3 p4 = some (iN n, M9p (upo M 67 0 (iN 0)) n (iN a) p2 p3 p4) := by
    rw [e3, e4, J65_11 (by omega) e59, if_neg (by omega)]
  obtain ⟨k, r, K', b', M', t, f1, f2, f3, f4, f5⟩ := op_pattern h (iN a) p2 p3 p4
  rw [e2] at f2
  obtain ⟨rfl, rfl⟩ := Prod.mk.inj (Option.some.inj f2)
  have ht : t = iN 0 := by
    rw [f_X11_thrown] at f3
    have := Option.some.inj f3
    unfold M9p at this
    rw [← this, upo_ne (by decide), upo_ne (by decide), upo_ne (by decide), upo_ne (by decide), upo_ne (by decide), up_s]
  refine ⟨K', ?_, f5⟩
  rcases f4 with ⟨rfl, -, rfl⟩ | ⟨-, h1⟩ | ⟨-, h1⟩ | ⟨-, h1⟩
  · rw [f_L_four, if_neg (show ¬ (iN 3 = 0) by decide), if_neg (show ¬ (iN 3 = 1) by decide), if_neg (show ¬ (iN 3 = 2) by decide), f1, eq_b3, kt_0, eq_b1]
  · rw [ht] at h1; exact absurd h1 (by decide)
  · rw [ht] at h1; exact absurd h1 (by decide)
  · rw [ht] at h1; exact absurd h1 (by decide)
theorem an_pattern_n {j : Nat} {K : Nat → Ob} {M : Ob} (h : RI j K M) {n : Nat} (e59 : M 59 0 = iN n) (hn : n ≤ 12) (p1 p2 p3 : Int32) : f_L_four K (iN 3) p1 p2 p3 (iN n) = some (-1001, K) := by
  obtain ⟨n', hn12, e59', k59⟩ := RI_pat h
  have : n' = n := by rw [e59', iN_eq (by omega) (by omega)] at e59; exact e59
  subst this
  have e1 : f_X10_pattern K p1 p2 p3 (iN n') = some (1, 0, K) := by
    have h4 : ¬ (iN n' = -1) := by
      intro hh
      have h2 : iN n' = nM := hh
      rw [iN_nM (by omega)] at h2; exact h2
    rw [f_X10_pattern, if_neg h4, hasP_n k59 (nb_n (by omega)), eq_b1, if_pos (show iN 0 = 0 from rfl)]
  rw [f_L_four, if_neg (show ¬ (iN 3 = 0) by decide), if_neg (show ¬ (iN 3 = 1) by decide), if_neg (show ¬ (iN 3 = 2) by decide), e1, eq_b3, kt123_1, eq_b1]
theorem offs_fin {k : Nat} {r b' t p1 p2 : Int32} {K K' : Nat → Ob} {M' : Ob} (f1 : f_X10_off K p1 p2 = some (k, r, K')) (f3 : f_X11_thrown M' = some t) (h67 : M' 67 0 = iN 0) (f4 : (k = 0 ∧ t = 0 ∧ r = b') ∨ (k = 1 ∧ t = 1)) : f_L_offs K p1 p2 = some (if b' = 0 then 0 else 1, K') := by
  have ht : t = iN 0 := by
    rw [f_X11_thrown] at f3
    have := Option.some.inj f3
    rw [← this, h67]
  rcases f4 with ⟨rfl, -, rfl⟩ | ⟨-, h1⟩
  · rw [f_L_offs, f1, eq_b3, kt_0, eq_b1]
  · rw [ht] at h1; exact absurd h1 (by decide)
theorem an_off0 {j : Nat} {K : Nat → Ob} {M : Ob} (h : RI j K M) {a : Nat} (ha : a < nn (M 59 0)) : ∃ K' b, M 64 a = biN b ∧ f_L_offs K (iN a) nM = some (biN (!b), K') ∧ RI (j + 1) K' (upo (upo M 67 0 (iN 0)) 64 a (biN (!b))) := by
  obtain ⟨n, hn12, e59, k59⟩ := RI_pat h
  have en : nn (M 59 0) = n := by rw [e59, nnI (by omega)]
  rw [en] at ha
  have z0 : (0 : Int32) = iN 0 := rfl
  have o1 : (1 : Int32) = iN 1 := rfl
  have n1 : ¬ (iN 1 = (0 : Int32)) := by decide
  have i1 := isI_y ha (show n < 2147483648 by omega)
  have r2 := (h.2.1.2.2.2.2.2.2.2.1 a (by omega)).2
  have e3 : f_X11_off M (iN a) nM = f_X11_off_J33 M (iN a) nM (iN 1) := by
    rw [f_X11_off, e59, z0, o1, i1, eq_b1, if_neg (show ¬ (iN 1 = iN 0) by decide), if_pos (show nM = -iN 1 from rfl), f_X11_off_J28, o1]
  have n64 : upo M 67 0 (iN 0) 64 a = M 64 a := by rw [upo_ne (by decide)]
  have n67 : upo M 67 0 (iN 0) 67 0 = iN 0 := u67 _ _
  obtain ⟨k, r, K', b', M', t, f1, f2, f3, f4, f5⟩ := op_off h (iN a) nM
  rw [e3, f_X11_off_J33, may_1, eq_b2, if_neg (show ¬ ((iN 1, upo M 67 0 (iN 0)).1 = 0) from n1), if_pos (show nM = -1 from rfl)] at f2
  generalize upo M 67 0 (iN 0) = N at *
  refine ⟨K', ?_⟩
  rcases r2 with r2 | r2
  · rw [r2] at n64
    simp (disch := omega) only [eq_grd, eq_lb, eq_b1, eq_b2, eq_b3, eq_b4, eq_b5, ↓nM_lit, iN_lit, iN_add, iN_mul, iN_lt, iN_le, iN_eq, iN_c, gd_iN, iN_nM, nM_iN, iN_ltM, nM_lt, nM_le, iN_leM, iN_0M, nM_p1, iN_0s1, decide_true, decide_eq_true_eq, Nat.not_lt_zero, if_true, if_false, show a < 12 by omega, n64, if_true, up_s, isb_1] at f2
    obtain ⟨g1, g2⟩ := Prod.mk.inj (Option.some.inj f2)
    subst g1; subst g2
    exact ⟨false, r2, offs_fin f1 f3 (by rw [upo_ne (by decide)]; exact n67) f4, f5⟩
  · rw [r2] at n64
    simp (disch := omega) only [eq_grd, eq_lb, eq_b1, eq_b2, eq_b3, eq_b4, eq_b5, ↓nM_lit, iN_lit, iN_add, iN_mul, iN_lt, iN_le, iN_eq, iN_c, gd_iN, iN_nM, nM_iN, iN_ltM, nM_lt, nM_le, iN_leM, iN_0M, nM_p1, iN_0s1, decide_true, decide_eq_true_eq, Nat.not_lt_zero, if_true, if_false, show a < 12 by omega, n64, show ¬ (1 = 0) by decide, if_false, up_s, isb_0] at f2
    obtain ⟨g1, g2⟩ := Prod.mk.inj (Option.some.inj f2)
    subst g1; subst g2
    exact ⟨true, r2, offs_fin f1 f3 (by rw [upo_ne (by decide)]; exact n67) f4, f5⟩
theorem an_offw {j : Nat} {K : Nat → Ob} {M : Ob} (h : RI j K M) {a w : Nat} (ha : a < nn (M 59 0)) (hw : w < nn (M 0 0)) : ∃ K' b, M 65 (40 * a + w) = biN b ∧ f_L_offs K (iN a) (iN w) = some (biN (!b), K') ∧ RI (j + 1) K' (upo (upo M 67 0 (iN 0)) 65 (40 * a + w) (biN (!b))) := by
  obtain ⟨n, hn12, e59, k59⟩ := RI_pat h
  have en : nn (M 59 0) = n := by rw [e59, nnI (by omega)]
  rw [en] at ha
  have z0 : (0 : Int32) = iN 0 := rfl
  have o1 : (1 : Int32) = iN 1 := rfl
  have n1 : ¬ (iN 1 = (0 : Int32)) := by decide
  have i1 := isI_y ha (show n < 2147483648 by omega)
  obtain ⟨g1, g2⟩ := rW_y h hw
  have hw40 := (RI_words h).2.2
  have r2 := (h.2.1.2.2.2.2.2.2.2.2 (40 * a + w) (by omega)).2
  have hM : ¬ (iN w = nM) := by rw [iN_nM (by omega)]; exact id
  have e3 : f_X11_off M (iN a) (iN w) = f_X11_off_J33 M (iN a) (iN w) (iN 1) := by
    rw [f_X11_off, e59, z0, o1, i1, eq_b1, if_neg (show ¬ (iN 1 = iN 0) by decide), if_neg (show ¬ (iN w = -iN 1) from hM), g2, eq_b1, if_neg (show ¬ (iN 1 = iN 0) by decide), f_X11_off_J28, o1]
  have n64 : upo M 67 0 (iN 0) 65 (40 * a + w) = M 65 (40 * a + w) := by rw [upo_ne (by decide)]
  have n67 : upo M 67 0 (iN 0) 67 0 = iN 0 := u67 _ _
  obtain ⟨k, r, K', b', M', t, f1, f2, f3, f4, f5⟩ := op_off h (iN a) (iN w)
  rw [e3, f_X11_off_J33, may_1, eq_b2, if_neg (show ¬ ((iN 1, upo M 67 0 (iN 0)).1 = 0) from n1), if_neg (show ¬ (iN w = -1) from hM)] at f2
  generalize upo M 67 0 (iN 0) = N at *
  refine ⟨K', ?_⟩
  rcases r2 with r2 | r2
  · rw [r2] at n64
    simp (disch := omega) only [eq_grd, eq_lb, eq_b1, eq_b2, eq_b3, eq_b4, eq_b5, ↓nM_lit, iN_lit, iN_add, iN_mul, iN_lt, iN_le, iN_eq, iN_c, gd_iN, iN_nM, nM_iN, iN_ltM, nM_lt, nM_le, iN_leM, iN_0M, nM_p1, iN_0s1, decide_true, decide_eq_true_eq, Nat.not_lt_zero, if_true, if_false, show 40 * a + w < 480 by omega, n64, if_true, up_s, isb_1] at f2
    obtain ⟨g1, g2⟩ := Prod.mk.inj (Option.some.inj f2)
    subst g1; subst g2
    exact ⟨false, r2, offs_fin f1 f3 (by rw [upo_ne (by decide)]; exact n67) f4, f5⟩
  · rw [r2] at n64
    simp (disch := omega) only [eq_grd, eq_lb, eq_b1, eq_b2, eq_b3, eq_b4, eq_b5, ↓nM_lit, iN_lit, iN_add, iN_mul, iN_lt, iN_le, iN_eq, iN_c, gd_iN, iN_nM, nM_iN, iN_ltM, nM_lt, nM_le, iN_leM, iN_0M, nM_p1, iN_0s1, decide_true, decide_eq_true_eq, Nat.not_lt_zero, if_true, if_false, show 40 * a + w < 480 by omega, n64, show ¬ (1 = 0) by decide, if_false, up_s, isb_0] at f2
    obtain ⟨g1, g2⟩ := Prod.mk.inj (Option.some.inj f2)
    subst g1; subst g2
    exact ⟨true, r2, offs_fin f1 f3 (by rw [upo_ne (by decide)]; exact n67) f4, f5⟩
theorem an_off_n1 {j : Nat} {K : Nat → Ob} {M : Ob} (h : RI j K M) {a : Nat} (ha : a = nn (M 59 0)) (p2 : Int32) : f_L_offs K (iN a) p2 = some (-1001, K) := by
  obtain ⟨n, hn12, e59, k59⟩ := RI_pat h
  have en : nn (M 59 0) = n := by rw [e59, nnI (by omega)]
  rw [en] at ha
  subst ha
  rw [f_L_offs, f_X10_off, hasP_n k59 (nb_n (by omega)), eq_b1, if_pos (show iN 0 = 0 from rfl), eq_b3, kt1_1, eq_b1]
theorem an_off_n2 {j : Nat} {K : Nat → Ob} {M : Ob} (h : RI j K M) {a w : Nat} (ha : a < nn (M 59 0)) (hw : w = nn (M 0 0)) : f_L_offs K (iN a) (iN w) = some (-1001, K) := by
  obtain ⟨n, hn12, e59, k59⟩ := RI_pat h
  have en : nn (M 59 0) = n := by rw [e59, nnI (by omega)]
  rw [en] at ha
  have b3 := (RI_words h).2.2
  obtain ⟨r1, -⟩ := rW_n h (w := iN w) (by rw [hw]; exact nb_n (by omega))
  have hM : ¬ (iN w = nM) := by rw [iN_nM (by omega)]; exact id
  rw [f_L_offs, f_X10_off, hasP_y k59 (by omega) ha, eq_b1, if_neg (show ¬ (iN 1 = 0) by decide), if_neg (show ¬ (iN w = -1) from hM), r1, eq_b1, if_neg (by decide), eq_b3, kt1_1, eq_b1]
theorem LXh_cg {c c' h : Rw} {M M' : Ob} (h4 : c' 4 = c 4) (h5 : c' 5 = c 5) (h10 : ∀ s, s < 2 → c' (10 + s) = c (10 + s)) (h9 : M' 9 = M 9) (e5 : ∀ k, 52 ≤ k → k ≤ 58 → M' k = M k) (hx : LXh c h M) : LXh c' h M' := by
  obtain ⟨x1, x2, x3⟩ := hx
  refine ⟨by rw [h4, e5 52 (by omega) (by omega)]; exact x1, by rw [h5, e5 53 (by omega) (by omega)]; exact x2, fun s hs => ?_⟩
  rw [h10 s hs, e5 52 (by omega) (by omega), e5 54 (by omega) (by omega), e5 55 (by omega) (by omega), e5 56 (by omega) (by omega), e5 57 (by omega) (by omega), e5 58 (by omega) (by omega), h9]
  exact x3 s hs
theorem LX_pattern {c w u x t g q nr h p k : Rw} {M : Ob} (hX : LX c w u x t g q nr h p k M) {n : Nat} (c3 : c 3 = iN n) (hn : n < 6) {p1 p2 p3 : Int32} (p4 : Int32) (h1 : cat0 p1) (h2 : cat0 p2) (h3 : cat0 p3) : LX (upd c 3 (iN (n + 1))) w u x t g q nr h (upd (upd (upd (upd p (5 * n) p1) (5 * n + 1) p2) (5 * n + 2) p3) (5 * n + 3) p4) k (M9p (upo M 67 0 (iN 0)) n p1 p2 p3 p4) := by
  obtain ⟨x1, x2, x3, x4, ⟨m, hm, s1, e59, hs, hs2⟩, x6⟩ := hX
  have emn : m = n := by rw [s1, iN_eq (by omega) (by omega)] at c3; exact c3
  subst emn
  have u6 : ∀ k, k ≠ 67 → upo M 67 0 (iN 0) k = M k := fun k hk => upo_ne hk
  generalize upo M 67 0 (iN 0) = N at u6
  have d59 : M9p N m p1 p2 p3 p4 59 0 = iN (m + 1) := by unfold M9p; rw [up_s]
  have d60 : ∀ i, M9p N m p1 p2 p3 p4 60 i = if i = m then p1 else M 60 i := fun i => by
    unfold M9p; rw [upo_ne (by decide), upo_ne (by decide), upo_ne (by decide), upo_ne (by decide), upo_ap, u6 60 (by decide)]; simp only [true_and]
  have d61 : ∀ i, M9p N m p1 p2 p3 p4 61 i = if i = m then p2 else M 61 i := fun i => by
    unfold M9p; rw [upo_ne (by decide), upo_ne (by decide), upo_ne (by decide), upo_ap, upo_ne (by decide), u6 61 (by decide)]; simp only [true_and]
  have d62 : ∀ i, M9p N m p1 p2 p3 p4 62 i = if i = m then p3 else M 62 i := fun i => by
    unfold M9p; rw [upo_ne (by decide), upo_ne (by decide), upo_ap, upo_ne (by decide), upo_ne (by decide), u6 62 (by decide)]; simp only [true_and]
  have d63 : ∀ i, M9p N m p1 p2 p3 p4 63 i = if i = m then p4 else M 63 i := fun i => by
    unfold M9p; rw [upo_ne (by decide), upo_ap, upo_ne (by decide), upo_ne (by decide), upo_ne (by decide), u6 63 (by decide)]; simp only [true_and]
  have eo : ∀ k, (k < 59 ∨ 63 < k) → k ≠ 67 → M9p N m p1 p2 p3 p4 k = M k := fun k h1 h67 => by
    unfold M9p; rw [upo_ne (by omega), upo_ne (by omega), upo_ne (by omega), upo_ne (by omega), upo_ne (by omega), u6 k h67]
  generalize M9p N m p1 p2 p3 p4 = M' at *
  have ec : ∀ k, k ≠ 3 → upd c 3 (iN (m + 1)) k = c k := fun k h1 => upd_ne h1
  refine ⟨LXw_cg (ec 0 (by decide)) (fun k _ _ => eo k (by omega) (by omega)) x1, LXt_cg (fun s hs => ec _ (by omega)) (eo 9 (by omega) (by omega)) (eo 10 (by omega) (by omega)) x2, LXs_cg (ec 1 (by decide)) (fun k _ _ => eo k (by omega) (by omega)) x3, LXg_cg (ec 2 (by decide)) (fun k _ _ => eo k (by omega) (by omega)) x4, ⟨m + 1, by omega, upd_eq _ _ _, d59, ?_, ?_⟩, LXh_cg (ec 4 (by decide)) (ec 5 (by decide)) (fun s hs => ec _ (by omega)) (eo 9 (by omega) (by omega)) (fun k _ _ => eo k (by omega) (by omega)) x6⟩
  · intro i hi
    rw [d60, d61, d62, d63]
    by_cases him : i = m
    · subst him
      rw [if_pos rfl, if_pos rfl, if_pos rfl, if_pos rfl]
      exact ⟨by rw [upd_ne (by omega), upd_ne (by omega), upd_ne (by omega), upd_eq], by rw [upd_ne (by omega), upd_ne (by omega), upd_eq], by rw [upd_ne (by omega), upd_eq], upd_eq _ _ _, h1, h2, h3⟩
    · rw [if_neg him, if_neg him, if_neg him, if_neg him, upd_ne (by omega), upd_ne (by omega), upd_ne (by omega), upd_ne (by omega), upd_ne (by omega), upd_ne (by omega), upd_ne (by omega), upd_ne (by omega), upd_ne (by omega), upd_ne (by omega), upd_ne (by omega), upd_ne (by omega), upd_ne (by omega), upd_ne (by omega), upd_ne (by omega), upd_ne (by omega)]
      exact hs i (by omega)
  · intro i hi
    rw [eo 64 (by omega) (by omega), eo 65 (by omega) (by omega), upd_ne (by omega), upd_ne (by omega), upd_ne (by omega), upd_ne (by omega)]
    exact hs2 i hi
theorem LX_off0 {c w u x t g q nr h p k : Rw} {M : Ob} (hX : LX c w u x t g q nr h p k M) {a : Nat} (v : Int32) : LX c w u x t g q nr h (upd p (5 * a + 4) v) k (upo (upo M 67 0 (iN 0)) 64 a v) := by
  obtain ⟨x1, x2, x3, x4, ⟨m, hm, s1, e59, hs, hs2⟩, x6⟩ := hX
  have eo : ∀ k, k ≠ 64 → k ≠ 67 → upo (upo M 67 0 (iN 0)) 64 a v k = M k := fun k h1 h67 => by rw [upo_ne h1, upo_ne h67]
  have e64 : ∀ i, upo (upo M 67 0 (iN 0)) 64 a v 64 i = if i = a then v else M 64 i := fun i => by
    rw [upo_ap, upo_ne (show (64 : Nat) ≠ 67 by decide)]; simp only [true_and]
  generalize upo (upo M 67 0 (iN 0)) 64 a v = M' at *
  refine ⟨LXw_cg rfl (fun k _ _ => eo k (by omega) (by omega)) x1, LXt_cg (fun s hs => rfl) (eo 9 (by omega) (by omega)) (eo 10 (by omega) (by omega)) x2, LXs_cg rfl (fun k _ _ => eo k (by omega) (by omega)) x3, LXg_cg rfl (fun k _ _ => eo k (by omega) (by omega)) x4, ⟨m, hm, s1, by rw [eo 59 (by omega) (by omega)]; exact e59, ?_, ?_⟩, LXh_cg rfl rfl (fun s hs => rfl) (eo 9 (by omega) (by omega)) (fun k _ _ => eo k (by omega) (by omega)) x6⟩
  · intro i hi
    rw [eo 60 (by omega) (by omega), eo 61 (by omega) (by omega), eo 62 (by omega) (by omega), eo 63 (by omega) (by omega), upd_ne (by omega), upd_ne (by omega), upd_ne (by omega), upd_ne (by omega)]
    exact hs i hi
  · intro i hi
    obtain ⟨y1, y2⟩ := hs2 i hi
    rw [eo 65 (by omega) (by omega), e64]
    refine ⟨?_, y2⟩
    by_cases e : i = a
    · subst e; rw [upd_eq, if_pos rfl]
    · rw [upd_ne (by omega), if_neg e]; exact y1
theorem bitB {S i : Nat} (hS : S < 4096) (hi : i < 12) : (iN S >>> (iN i &&& iN 31)) &&& iN 1 = biN (S.testBit i) := by
  cases hb : S.testBit i with
  | false => exact (bitN hS hi).mpr hb
  | true => exact (bitN1 hS hi).mpr hb
theorem LX_offw {c w u x t g q nr h p k : Rw} {M : Ob} (hX : LX c w u x t g q nr h p k M) {a wd S : Nat} (ha : a < 6) (hw : wd < 6) (hS : S < 64) (hk : k a = iN S) : LX c w u x t g q nr h p (upd k a (iN (S ^^^ 2 ^ wd))) (upo (upo M 67 0 (iN 0)) 65 (40 * a + wd) (biN (!S.testBit wd))) ∧ S ^^^ 2 ^ wd < 64 ∧ (S ^^^ 2 ^ wd).testBit wd = !S.testBit wd ∧ M 65 (40 * a + wd) = biN (S.testBit wd) := by
  obtain ⟨x1, x2, x3, x4, ⟨m, hm, s1, e59, hs, hs2⟩, x6⟩ := hX
  have eo : ∀ k, k ≠ 65 → k ≠ 67 → upo (upo M 67 0 (iN 0)) 65 (40 * a + wd) (biN (!S.testBit wd)) k = M k := fun k h1 h67 => by rw [upo_ne h1, upo_ne h67]
  have e65 : ∀ i, upo (upo M 67 0 (iN 0)) 65 (40 * a + wd) (biN (!S.testBit wd)) 65 i = if i = 40 * a + wd then biN (!S.testBit wd) else M 65 i := fun i => by
    rw [upo_ap, upo_ne (show (65 : Nat) ≠ 67 by decide)]; simp only [true_and]
  generalize upo (upo M 67 0 (iN 0)) 65 (40 * a + wd) (biN (!S.testBit wd)) = M' at *
  have h2 : 2 ^ wd < 2 ^ 6 := Nat.pow_lt_pow_right (by decide) hw
  have hlt : S ^^^ 2 ^ wd < 64 := Nat.xor_lt_two_pow (n := 6) hS h2
  have htb : ∀ i, (S ^^^ 2 ^ wd).testBit i = (S.testBit i ^^ decide (wd = i)) := fun i => by rw [Nat.testBit_xor, Nat.testBit_two_pow]
  have hself : (S ^^^ 2 ^ wd).testBit wd = !S.testBit wd := by
    rw [htb, decide_eq_true rfl, Bool.xor_true]
  refine ⟨⟨LXw_cg rfl (fun k _ _ => eo k (by omega) (by omega)) x1, LXt_cg (fun s hs => rfl) (eo 9 (by omega) (by omega)) (eo 10 (by omega) (by omega)) x2, LXs_cg rfl (fun k _ _ => eo k (by omega) (by omega)) x3, LXg_cg rfl (fun k _ _ => eo k (by omega) (by omega)) x4, ⟨m, hm, s1, by rw [eo 59 (by omega) (by omega)]; exact e59, ?_, ?_⟩, LXh_cg rfl rfl (fun s hs => rfl) (eo 9 (by omega) (by omega)) (fun k _ _ => eo k (by omega) (by omega)) x6⟩, hlt, hself, ?_⟩
  · intro i hi
    rw [eo 60 (by omega) (by omega), eo 61 (by omega) (by omega), eo 62 (by omega) (by omega), eo 63 (by omega) (by omega)]
    exact hs i hi
  · intro i hi
    obtain ⟨y1, S0, y2, y3, y4⟩ := hs2 i hi
    rw [eo 64 (by omega) (by omega)]
    refine ⟨y1, ?_⟩
    by_cases e : i = a
    · subst e
      have : S0 = S := by rw [y3, iN_eq (by omega) (by omega)] at hk; exact hk
      subst this
      refine ⟨S0 ^^^ 2 ^ wd, hlt, upd_eq _ _ _, ?_⟩
      intro z hz
      rw [e65]
      by_cases hzw : z = wd
      · subst hzw; rw [if_pos rfl, hself]
      · rw [if_neg (by omega), y4 z hz, htb, decide_eq_false (fun h => hzw h.symm), Bool.xor_false]
    · refine ⟨S0, y2, by rw [upd_ne e]; exact y3, ?_⟩
      intro z hz
      rw [e65, if_neg (by omega)]; exact y4 z hz
  · obtain ⟨y1, S0, y2, y3, y4⟩ := hs2 a ha
    have : S0 = S := by rw [y3, iN_eq (by omega) (by omega)] at hk; exact hk
    subst this
    exact y4 wd hw
