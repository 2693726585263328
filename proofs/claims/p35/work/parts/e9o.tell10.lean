def GE (G G' : Ob) (g e : Nat) (f a b c : Int32) : Prop := (∀ i, G' 26 i = (if i = g then iN (e + 1) else G 26 i) ∧ G' 27 i = (if i = 3 * g + e then f else G 27 i) ∧ G' 28 i = (if i = 3 * g + e then a else G 28 i) ∧ G' 29 i = (if i = 3 * g + e then b else G 29 i) ∧ G' 30 i = (if i = 3 * g + e then c else G 30 i)) ∧ ∀ k, 21 ≤ k → k ≤ 25 → G' k = G k
theorem GE_W {G G' : Ob} {g e f a b c : Nat} (h : GE G G' g e (iN f) (iN a) (iN b) (iN c)) (hg : g < nn (G 21 0)) (he : e < 3) (e26 : G 26 g = iN e) (hG : WGr G) (hf : f < 3) (ha : a ≤ 2) (hb : b ≤ 2) (hab : a ≠ b) (hc : c ≤ 20) (hu : G 24 g = nM → a ≤ 1 ∧ b ≤ 1) : WGr G' := by
  obtain ⟨hk, ho⟩ := h
  refine ⟨by rw [ho 21 (by omega) (by omega)]; exact hG.1, ?_⟩
  intro i hi
  rw [ho 21 (by omega) (by omega)] at hi
  obtain ⟨q1, q2, q3, n3, q4, q5, q6⟩ := hG.2 i hi
  rw [ho 22 (by omega) (by omega), ho 23 (by omega) (by omega), ho 24 (by omega) (by omega), ho 25 (by omega) (by omega), (hk i).1]
  refine ⟨q1, q2, q3, ?_⟩
  by_cases e1 : i = g
  · subst e1
    have en : n3 = e := by
      rw [e26] at q5
      exact ((iN_eq (by omega) (by omega)).mp q5).symm
    subst en
    rw [if_pos rfl]
    refine ⟨n3 + 1, by omega, rfl, ?_⟩
    intro e' he'
    obtain ⟨-, k2, k3, k4, k5⟩ := hk (3 * i + e')
    rw [k2, k3, k4, k5]
    by_cases e2 : e' = n3
    · subst e2
      rw [if_pos rfl, if_pos rfl, if_pos rfl, if_pos rfl]
      exact ⟨f, a, b, c, by omega, ha, hb, hab, hu, hc, rfl, rfl, rfl, rfl⟩
    · rw [if_neg (by omega), if_neg (by omega), if_neg (by omega), if_neg (by omega)]
      exact q6 e' (by omega)
  · rw [if_neg e1]
    refine ⟨n3, q4, q5, ?_⟩
    intro e' he'
    obtain ⟨-, k2, k3, k4, k5⟩ := hk (3 * i + e')
    rw [k2, k3, k4, k5, if_neg (by omega), if_neg (by omega), if_neg (by omega), if_neg (by omega)]
    exact q6 e' he'
theorem sing_cg {G G' : Ob} (h1 : G' 21 = G 21) (h2 : G' 22 = G 22) (h4 : G' 24 = G 24) : sing G' = sing G := by
  unfold sing; rw [h1, h2, h4]
theorem X2_addEq {x G G' : Ob} {g e : Nat} {f a b c : Int32} (h : GE G G' g e f a b c) (hg : g < 16) (hgn : g < nn (G 21 0)) (he : e < 3) (e26 : G 26 g = iN e) (hG : WGr G) (hx : QX2 x G) (hs : RSg x G) :
    f_X2_isRuleFull x (iN g) = some (iN 0) ∧ wp (f_X2_addEquation x (iN g) f a b c) (fun q => q.1 = iN e ∧ QX2 q.2 G' ∧ RSg q.2 G') := by
  obtain ⟨hk, ho⟩ := h
  obtain ⟨x0, xg, xe⟩ := id hx
  have e0 : x 0 0 = iN (nn (G 21 0)) := by rw [x0]; exact ng_e hG
  have h16 := ng_le hG
  generalize nn (G 21 0) = n at *
  have e7 : x 7 g = iN e := by rw [(xg g hg).2.2.2.2]; exact e26
  have hh : f_X2_hasRule x (iN g) = some (iN 1) := by
    simp (disch := omega) only [f_X2_hasRule, e0, ↓nM_lit, iN_lit, iN_add, iN_mul, iN_lt, iN_le, iN_eq, iN_c, gd_iN, iN_nM, nM_iN, iN_ltM, nM_lt, nM_le, iN_leM, iN_0M, nM_p1, iN_0s1, decide_true, decide_eq_true_eq, Nat.not_lt_zero, if_true, if_false, show ¬ (n ≤ g) by omega]
  have hF : f_X2_isRuleFull x (iN g) = some (iN 0) := by
    simp (disch := omega) only [f_X2_isRuleFull, hh, eq_grd, eq_lb, eq_b1, eq_b2, eq_b3, eq_b4, eq_b5, ↓nM_lit, iN_lit, iN_add, iN_mul, iN_lt, iN_le, iN_eq, iN_c, gd_iN, iN_nM, nM_iN, iN_ltM, nM_lt, nM_le, iN_leM, iN_0M, nM_p1, iN_0s1, decide_true, decide_eq_true_eq, Nat.not_lt_zero, if_true, if_false, show ¬ (1 = 0) by decide, if_false, hg, e7, he]
  refine ⟨hF, ?_⟩
  have es : g * 3 + e = 3 * g + e := by omega
  simp (disch := omega) only [f_X2_addEquation, hF, wp_some, wp_grd, wp_lb, wp_ite, wp_b1, wp_b2, wp_b3, wp_b4, wp_b5, eq_grd, eq_lb, eq_b1, eq_b2, eq_b3, eq_b4, eq_b5, ↓nM_lit, iN_lit, iN_add, iN_mul, iN_lt, iN_le, iN_eq, iN_c, gd_iN, iN_nM, nM_iN, iN_ltM, nM_lt, nM_le, iN_leM, iN_0M, nM_p1, iN_0s1, decide_true, decide_eq_true_eq, Nat.not_lt_zero, if_true, if_false, if_true, hg, e7, es, show 3 * g + e < 48 by omega, upo_ne, up_s, iN_s1 (show 0 < e + 1 by omega), Nat.add_sub_cancel, true_and]
  generalize hy : upo (upo (upo (upo (upo x 8 (3 * g + e) f) 9 (3 * g + e) a) 10 (3 * g + e) b) 11 (3 * g + e) c) 7 g (iN (e + 1)) = y
  have yo : ∀ k, k < 7 → y k = x k := fun k hk => by rw [← hy, upo_ne (by omega), upo_ne (by omega), upo_ne (by omega), upo_ne (by omega), upo_ne (by omega)]
  have y7 : ∀ i, y 7 i = if i = g then iN (e + 1) else x 7 i := fun i => by
    rw [← hy, upo_ap, upo_ne (by decide), upo_ne (by decide), upo_ne (by decide), upo_ne (by decide)]; simp only [true_and]
  have y8 : ∀ i, y 8 i = if i = 3 * g + e then f else x 8 i := fun i => by
    rw [← hy, upo_ne (by decide), upo_ne (by decide), upo_ne (by decide), upo_ne (by decide), upo_ap]; simp only [true_and]
  have y9 : ∀ i, y 9 i = if i = 3 * g + e then a else x 9 i := fun i => by
    rw [← hy, upo_ne (by decide), upo_ne (by decide), upo_ne (by decide), upo_ap, upo_ne (by decide)]; simp only [true_and]
  have y10 : ∀ i, y 10 i = if i = 3 * g + e then b else x 10 i := fun i => by
    rw [← hy, upo_ne (by decide), upo_ne (by decide), upo_ap, upo_ne (by decide), upo_ne (by decide)]; simp only [true_and]
  have y11 : ∀ i, y 11 i = if i = 3 * g + e then c else x 11 i := fun i => by
    rw [← hy, upo_ne (by decide), upo_ap, upo_ne (by decide), upo_ne (by decide), upo_ne (by decide)]; simp only [true_and]
  refine ⟨?_, ?_⟩
  · unfold QX2
    rw [yo 0 (by decide), yo 1 (by decide), yo 2 (by decide), yo 3 (by decide), yo 4 (by decide), ho 21 (by omega) (by omega), ho 22 (by omega) (by omega), ho 23 (by omega) (by omega), ho 24 (by omega) (by omega), ho 25 (by omega) (by omega)]
    refine ⟨x0, ?_, ?_⟩
    · intro i hi
      obtain ⟨q1, q2, q3, q4, q5⟩ := xg i hi
      rw [y7, (hk i).1, q5]
      exact ⟨q1, q2, q3, q4, rfl⟩
    · intro i hi
      obtain ⟨q1, q2, q3, q4⟩ := xe i hi
      obtain ⟨-, k2, k3, k4, k5⟩ := hk i
      rw [y8, y9, y10, y11, k2, k3, k4, k5, q1, q2, q3, q4]
      exact ⟨rfl, rfl, rfl, rfl⟩
  · unfold RSg
    rw [sing_cg (ho 21 (by omega) (by omega)) (ho 22 (by omega) (by omega)) (ho 24 (by omega) (by omega)), yo 5 (by decide), yo 6 (by decide)]
    exact hs
theorem op_equate {j : Nat} {K : Nat → Ob} {M : Ob} (hj : j < 1000000) (h : RI j K M) (p1 p2 p3 p4 p5 : Int32) : Op_equate RI j K M p1 p2 p3 p4 p5 := by
  obtain ⟨n, hn16, e21, k21⟩ := RI_rul h
  have z2 : (2 : Int32) = iN 2 := rfl
  have o1 : (1 : Int32) = iN 1 := rfl
  have z0 : (0 : Int32) = iN 0 := rfl
  rcases in_or p1 (show n < 2147483648 by omega) with ⟨g, hg, e1⟩ | hn
  · have hG := h.1.2.2.2
    have g21 : gr M 21 0 = iN n := by rw [← gr_e (by decide) (by decide)]; exact e21
    have enn : nn (gr M 21 0) = n := by rw [g21, nn, iN_c (by omega)]
    have hgn : g < nn (gr M 21 0) := by rw [enn]; exact hg
    have m24 : M 24 g = gr M 24 g := by rw [← gr_e (show 21 ≤ 24 by decide) (by decide)]
    have hh : f_X2_hasRule (K 3) (iN g) = some (iN 1) := by
      simp (disch := omega) only [f_X2_hasRule, k21, ↓nM_lit, iN_lit, iN_add, iN_mul, iN_lt, iN_le, iN_eq, iN_c, gd_iN, iN_nM, nM_iN, iN_ltM, nM_lt, nM_le, iN_leM, iN_0M, nM_p1, iN_0s1, decide_true, decide_eq_true_eq, Nat.not_lt_zero, if_true, if_false, show ¬ (n ≤ g) by omega]
    have hr := (X2_get h.2.1.2.2.1 hG hgn).2.2.1
    obtain ⟨most, hm⟩ : ∃ most, (gr M 24 g = nM ∧ most = 1) ∨ (gr M 24 g ≠ nM ∧ most = 2) := by
      by_cases hu : gr M 24 g = nM
      · exact ⟨1, Or.inl ⟨hu, rfl⟩⟩
      · exact ⟨2, Or.inr ⟨hu, rfl⟩⟩
    have hmM : f_X11_equate M (iN g) p2 p3 p4 p5 = f_X11_equate_J33 M (iN g) p2 p3 p4 p5 (iN 1) (iN most) := by
      have i1 := isI_y hg (show n < 2147483648 by omega)
      rw [f_X11_equate, e21, z0, o1, i1, eq_b1, if_neg (show ¬ (iN 1 = iN 0) by decide), gd_iN (by omega), decide_eq_true (show g < 16 by omega), eq_grd, iN_c (by omega), m24]
      rcases hm with ⟨hu, hm1⟩ | ⟨hu, hm1⟩
      · rw [if_pos (show gr M 24 g = -iN 1 from hu), hm1]
      · rw [if_neg (show ¬ (gr M 24 g = -iN 1) from hu), hm1, f_X11_equate_J32, z2]
    obtain ⟨-, -, -, e, he, ee, -⟩ := hG.2 g hgn
    have m26 : M 26 g = iN e := by rw [gr_e (M := M) (show 21 ≤ 26 by decide) (by decide)]; exact ee
    rcases eq_or hh hr hm M p2 p3 p4 p5 with ⟨f, a, b, c, hf, ha, hb, hab, hc, e2, e3, e4, e5, fK, fM⟩ | ⟨fK, fM⟩
    · rw [Je87_1 (show g < 16 by omega) he m26] at fM
      by_cases h3 : e = 3
      · refine ⟨3, 0, K, 0, upo M 67 0 (iN 3), iN 3, ?_, ?_, congrArg some (u67 _ _), Or.inr (Or.inr (Or.inr ⟨rfl, rfl⟩)), RI_j (RI_67 _ h)⟩
        · rw [e1, fK]
          have e7 : K 3 7 g = iN 3 := by rw [(h.2.1.2.2.1.2.1 g (by omega)).2.2.2.2, ee, h3]
          simp (disch := omega) only [f_X10_equate_J105, f_X2_isRuleFull, hh, e7, eq_grd, eq_lb, eq_b1, eq_b2, eq_b3, eq_b4, eq_b5, ↓nM_lit, iN_lit, iN_add, iN_mul, iN_lt, iN_le, iN_eq, iN_c, gd_iN, iN_nM, nM_iN, iN_ltM, nM_lt, nM_le, iN_leM, iN_0M, nM_p1, iN_0s1, decide_true, decide_eq_true_eq, Nat.not_lt_zero, if_true, if_false, show ¬ (1 = 0) by decide, show g < 16 by omega, show ¬ (3 < 3) by decide, if_false]
        · rw [e1, hmM, fM, if_pos h3, Je114_110]
      · rw [if_neg h3] at fM
        have he3 : e < 3 := by omega
        rw [Je114_111 (show g < 16 by omega) he3 m26] at fM
        have hN := RI_67 (iN 0) h
        have n67 : upo M 67 0 (iN 0) 67 0 = iN 0 := u67 _ _
        have hgr67 : gr (upo M 67 0 (iN 0)) = gr M := gr_cg (fun k hk => upo_ne (by omega))
        generalize upo M 67 0 (iN 0) = N at fM hN n67 hgr67
        have c0 := fun k h => M9e_o (N := N) (g := g) (e := e) (f := p2) (a := p3) (b := p4) (c := p5) k h
        have ck := fun i => M9e_k (N := N) (g := g) (e := e) (f := p2) (a := p3) (b := p4) (c := p5) i
        have c52 := M9e_52 (N := N) (g := g) (e := e) (f := p2) (a := p3) (b := p4) (c := p5)
        have t67 : f_X11_thrown (M9e N g e p2 p3 p4 p5) = some (N 67 0) := by rw [f_X11_thrown, c0 67 (by omega)]
        generalize M9e N g e p2 p3 p4 p5 = M' at *
        have hsr : sr M' = sr N := by funext k; unfold sr; split; exact c0 k (by omega); rfl
        have hGE : GE (gr N) (gr M') g e p2 p3 p4 p5 := by
          refine ⟨?_, ?_⟩
          · intro i
            obtain ⟨k1, k2, k3, k4, k5⟩ := ck i
            rw [← gr_e (show 21 ≤ 26 by decide) (by decide), ← gr_e (show 21 ≤ 27 by decide) (by decide), ← gr_e (show 21 ≤ 28 by decide) (by decide), ← gr_e (show 21 ≤ 29 by decide) (by decide), ← gr_e (show 21 ≤ 30 by decide) (by decide), ← gr_e (M := N) (show 21 ≤ 26 by decide) (by decide), ← gr_e (M := N) (show 21 ≤ 27 by decide) (by decide), ← gr_e (M := N) (show 21 ≤ 28 by decide) (by decide), ← gr_e (M := N) (show 21 ≤ 29 by decide) (by decide), ← gr_e (M := N) (show 21 ≤ 30 by decide) (by decide)]
            exact ⟨k1, k2, k3, k4, k5⟩
          · intro k k1 k2
            rw [← gr_e (by omega) (by omega), ← gr_e (M := N) (by omega) (by omega)]
            exact c0 k (by omega)
        have ee' : gr N 26 g = iN e := by rw [hgr67]; exact ee
        have hgn' : g < nn (gr N 21 0) := by rw [hgr67]; exact hgn
        have hu' : gr N 24 g = nM → a ≤ 1 ∧ b ≤ 1 := by
          intro hu
          rw [hgr67] at hu
          rcases hm with ⟨-, hm1⟩ | ⟨h1, -⟩
          · omega
          · exact absurd hu h1
        have hm2 : most ≤ 2 := by rcases hm with ⟨-, h⟩ | ⟨-, h⟩ <;> omega
        obtain ⟨hl, ht, hR, hGN⟩ := hN.1
        obtain ⟨hF, ⟨r1, y⟩, q1, q2, q3, q4⟩ := X2_addEq hGE (show g < 16 by omega) hgn' he3 ee' hGN hN.2.1.2.2.1 hN.2.1.2.2.2.1
        simp only at q2 q3 q4
        have hWG : WGr (gr M') := by
          rw [e2, e3, e4, e5] at hGE
          exact GE_W hGE hgn' he3 ee' hGN hf (by omega) (by omega) hab hc hu'
        obtain ⟨K2, o1, o2⟩ := RI_out (K' := va_up K 3 y) hj hN (M' := M') ⟨WLex_cg (fun k hk => c0 k (by omega)) hl, WTxt_cg (fun k hk => c0 k (by omega)) ht, by
            rw [hsr]
            exact ⟨hR.1, fun k k1 k2 => by rw [c0 k (by omega)]; exact hR.2.1 k k1 k2, hR.2.2⟩, hWG⟩ (by
            obtain ⟨h3, h7, -, -, h8⟩ := hN.2.1
            refine ⟨by rw [vu_ne (by decide)]; exact RX3_cg (fun k hk => c0 k (by omega)) h3, by rw [vu_ne (by decide), hsr]; exact h7, by rw [vu_eq]; exact q3, by rw [vu_eq]; exact q4, by rw [vu_ne (by decide)]; exact RX8_cg (fun k k1 k2 => c0 k (by omega)) h8⟩) (fun i hi => vu_ne (by omega)) (c0 9 (by omega)) (c0 10 (by omega)) c52 (fun k k1 k2 => c0 k (by omega)) (by
            intro i h1 h2
            have e21' : M' 21 0 = N 21 0 := by rw [c0 21 (by omega)]
            have hN21 : nn (N 21 0) = nn (gr N 21 0) := by rw [← gr_e (by decide) (by decide)]
            rw [e21', hN21] at h1
            rw [(ck i).1, if_neg (by omega)]
            exact hN.2.2.2.2.2 i (by rw [hN21]; exact h1) h2)
        refine ⟨0, iN e, K2, iN e, M', N 67 0, ?_, by rw [e1, hmM, fM], t67, ?_, o2⟩
        · rw [e1, fK]
          subst q2
          simp (disch := omega) only [f_X10_equate_J105, hF, q1, o1, eq_grd, eq_lb, eq_b1, eq_b2, eq_b3, eq_b4, eq_b5, ↓nM_lit, iN_lit, iN_add, iN_mul, iN_lt, iN_le, iN_eq, iN_c, gd_iN, iN_nM, nM_iN, iN_ltM, nM_lt, nM_le, iN_leM, iN_0M, nM_p1, iN_0s1, decide_true, decide_eq_true_eq, Nat.not_lt_zero, if_true, if_false, if_true]
        · rw [n67]; exact Or.inl ⟨rfl, rfl, rfl⟩
    · rw [Je87_1 (show g < 16 by omega) he m26, Je114_10, Je114_10] at fM
      refine ⟨2, 0, K, 0, upo M 67 0 (iN 2), iN 2, by rw [e1]; exact fK, ?_, congrArg some (u67 _ _), Or.inr (Or.inr (Or.inl ⟨rfl, rfl⟩)), RI_j (RI_67 _ h)⟩
      rw [e1, hmM, fM]; split <;> rfl
  · refine ⟨1, 0, K, 0, upo M 67 0 (iN 1), iN 1, ?_, ?_, congrArg some (u67 _ _), Or.inr (Or.inl ⟨rfl, rfl⟩), RI_j (RI_67 _ h)⟩
    · have hh : f_X2_hasRule (K 3) p1 = some (iN 0) := by
        rw [f_X2_hasRule, k21]
        rcases hn with h | h
        · rw [if_pos (show p1 < 0 from h)]; rfl
        · by_cases h0 : p1 < 0
          · rw [if_pos h0]; rfl
          · rw [if_neg h0, if_pos h]; rfl
      rw [f_X10_equate, hh, eq_b1, if_pos (show iN 0 = 0 from rfl)]
    · have i1 := isI_n hn (show n < 2147483648 by omega)
      have hmM : f_X11_equate M p1 p2 p3 p4 p5 = f_X11_equate_J33 M p1 p2 p3 p4 p5 (iN 0) (iN 2) := by
        rw [f_X11_equate, e21, z0, o1, i1, eq_b1, if_pos rfl, f_X11_equate_J32, z2]
      rw [hmM]
      rcases Je33_or M p1 p2 p3 p4 p5 (iN 0) (iN 2) with e | e <;> rw [e, Je87_0]
