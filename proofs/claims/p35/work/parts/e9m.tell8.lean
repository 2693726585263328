theorem sing_len_n {G : Ob} (hG : WGr G) : (sing G).length ≤ nn (G 21 0) := by
  have h := sing_k G hG 10 (Nat.le_refl _)
  have h2 := List.length_filter_le (fun g => decide (G 24 g = nM) && decide (nn (G 22 g) < 10)) (List.range (nn (G 21 0)))
  rw [List.length_range] at h2
  unfold sing
  omega
/-- a grammar with one more rule -/
def GN (G G' : Ob) (n : Nat) (p l r hd : Int32) : Prop := G' 21 0 = iN (n + 1) ∧ (∀ i, G' 22 i = (if i = n then p else G 22 i) ∧ G' 23 i = (if i = n then l else G 23 i) ∧ G' 24 i = (if i = n then r else G 24 i) ∧ G' 25 i = (if i = n then hd else G 25 i)) ∧ ∀ k, 26 ≤ k → k ≤ 30 → G' k = G k
theorem GN_W {G G' : Ob} {n : Nat} {p l r hd : Int32} (h : GN G G' n p l r hd) (hn : n < 16) (e21 : G 21 0 = iN n) (e26 : G 26 n = iN 0) (hG : WGr G) (hr : RG1 p l r hd) : WGr G' := by
  obtain ⟨h21, hk, ho⟩ := h
  refine ⟨⟨n + 1, by omega, h21⟩, ?_⟩
  intro g hg
  rw [h21, nn, iN_c (by omega)] at hg
  obtain ⟨k1, k2, k3, k4⟩ := hk g
  rw [k1, k2, k3, k4, ho 26 (by omega) (by omega), ho 27 (by omega) (by omega), ho 28 (by omega) (by omega), ho 29 (by omega) (by omega), ho 30 (by omega) (by omega)]
  by_cases e : g = n
  · subst e
    simp only [if_true]
    obtain ⟨a, b, ha, hb, ea, eb, hc⟩ := hr
    refine ⟨⟨a, by omega, ea⟩, ⟨b, by omega, eb⟩, ?_, 0, by omega, e26, fun e he => absurd he (Nat.not_lt_zero e)⟩
    rcases hc with ⟨c1, c2, c3⟩ | ⟨c, c1, c2, c3⟩
    · exact Or.inl ⟨c1, by rw [ea, eb, nn, nn, iN_c (by omega), iN_c (by omega)]; exact c2, c3⟩
    · exact Or.inr ⟨⟨c, by omega, c2⟩, c3⟩
  · simp only [e, if_false]
    exact hG.2 g (by rw [e21, nn, iN_c (by omega)]; omega)
theorem X2_addRule {x G G' : Ob} {n : Nat} {p l r hd : Int32} (h : GN G G' n p l r hd) (hn : n < 16) (e21 : G 21 0 = iN n) (hG : WGr G) (hr : RG1 p l r hd) (hx : QX2 x G) (hs : RSg x G) :
    wp (f_X2_addRule x p l r hd) (fun q => q.1 = iN n ∧ QX2 q.2 G' ∧ RSg q.2 G') := by
  obtain ⟨h21, hk, ho⟩ := h
  obtain ⟨x0, xg, xe⟩ := hx
  have e0 : x 0 0 = iN n := by rw [x0]; exact e21
  have hb := isB_y hn (show 16 < 2147483648 by decide)
  have enn : nn (G 21 0) = n := by rw [e21, nn, iN_c (by omega)]
  have enn' : nn (G' 21 0) = n + 1 := by rw [h21, nn, iN_c (by omega)]
  simp (disch := omega) only [f_X2_addRule, e0, hb, eq_grd, eq_lb, eq_b1, eq_b2, eq_b3, eq_b4, eq_b5, ↓nM_lit, iN_lit, iN_add, iN_mul, iN_lt, iN_le, iN_eq, iN_c, gd_iN, iN_nM, nM_iN, iN_ltM, nM_lt, nM_le, iN_leM, iN_0M, nM_p1, iN_0s1, decide_true, decide_eq_true_eq, Nat.not_lt_zero, if_true, if_false, show ¬ (1 = 0) by decide, if_false, hn, upo_ne, up_s, iN_s1 (show 0 < n + 1 by omega), Nat.add_sub_cancel]
  generalize hy : upo (upo (upo (upo (upo x 1 n p) 2 n l) 3 n r) 4 n hd) 0 0 (iN (n + 1)) = y
  have yo : ∀ k, 5 ≤ k → y k = x k := fun k hk => by rw [← hy, upo_ne (by omega), upo_ne (by omega), upo_ne (by omega), upo_ne (by omega), upo_ne (by omega)]
  have y0 : y 0 0 = iN (n + 1) := by rw [← hy, up_s]
  have y1 : ∀ i, y 1 i = if i = n then p else x 1 i := fun i => by
    rw [← hy, upo_ne (by decide), upo_ne (by decide), upo_ne (by decide), upo_ne (by decide), upo_ap]; simp only [true_and]
  have y2 : ∀ i, y 2 i = if i = n then l else x 2 i := fun i => by
    rw [← hy, upo_ne (by decide), upo_ne (by decide), upo_ne (by decide), upo_ap, upo_ne (by decide)]; simp only [true_and]
  have y3 : ∀ i, y 3 i = if i = n then r else x 3 i := fun i => by
    rw [← hy, upo_ne (by decide), upo_ne (by decide), upo_ap, upo_ne (by decide), upo_ne (by decide)]; simp only [true_and]
  have y4 : ∀ i, y 4 i = if i = n then hd else x 4 i := fun i => by
    rw [← hy, upo_ne (by decide), upo_ap, upo_ne (by decide), upo_ne (by decide), upo_ne (by decide)]; simp only [true_and]
  have hxy : ∀ z : Ob, (∀ k, k ≠ 5 → k ≠ 6 → z k = y k) → QX2 z G' := by
    intro z hz
    unfold QX2
    rw [hz 0 (by decide) (by decide), hz 1 (by decide) (by decide), hz 2 (by decide) (by decide), hz 3 (by decide) (by decide), hz 4 (by decide) (by decide), hz 7 (by decide) (by decide), hz 8 (by decide) (by decide), hz 9 (by decide) (by decide), hz 10 (by decide) (by decide), hz 11 (by decide) (by decide), yo 7 (by decide), yo 8 (by decide), yo 9 (by decide), yo 10 (by decide), yo 11 (by decide), ho 26 (by decide) (by decide), ho 27 (by decide) (by decide), ho 28 (by decide) (by decide), ho 29 (by decide) (by decide), ho 30 (by decide) (by decide)]
    refine ⟨by rw [y0, h21], ?_, xe⟩
    intro g hg
    obtain ⟨k1, k2, k3, k4⟩ := hk g
    obtain ⟨q1, q2, q3, q4, q5⟩ := xg g hg
    rw [y1, y2, y3, y4, k1, k2, k3, k4, q1, q2, q3, q4, q5]
    exact ⟨rfl, rfl, rfl, rfl, rfl⟩
  have hold : ∀ g, g < n → G' 22 g = G 22 g ∧ G' 24 g = G 24 g := fun g hg => by
    obtain ⟨k1, k2, k3, k4⟩ := hk g
    rw [k1, k3, if_neg (by omega), if_neg (by omega)]; exact ⟨rfl, rfl⟩
  have h24 : G' 24 n = r := by rw [(hk n).2.2.1, if_pos rfl]
  have h22 : G' 22 n = p := by rw [(hk n).1, if_pos rfl]
  by_cases hu : r = nM
  · obtain ⟨a, b, ha, hb, ea, -, -⟩ := hr
    obtain ⟨A, B, s1, s2, s3, s4⟩ := sing_un (c := a) enn enn' hold ha (by rw [h24]; exact hu) (by rw [h22]; exact ea)
    have hlen := sing_len_n hG
    rw [s1, enn] at hlen
    have hsg := hs
    unfold RSg at hsg
    rw [s1] at hsg
    have hins := X2_ins (x := y) (A := A) (B := B) (n := n) (pr := fun g => nn (G 22 g)) ha (by rw [yo 5 (by decide)]; exact hsg.1) (by omega) (fun k hk => by rw [yo 6 (by decide)]; exact hsg.2 k hk) (by
      intro z z0 z1 g hg
      rw [← s1] at hg
      obtain ⟨m1, m2, m3⟩ := sing_mem hg
      rw [enn] at m1
      obtain ⟨⟨c, hc, ec⟩, -⟩ := hG.2 g (by rw [enn]; exact m1)
      refine ⟨?_, m3⟩
      have e1 : z 1 g = G 22 g := by rw [z1, y1, if_neg (by omega)]; exact (xg g (by omega)).1
      have e2 : z 0 0 = iN (n + 1) := by rw [z0]; exact y0
      simp (disch := omega) only [f_X2_parentOf, e2, ↓nM_lit, iN_lit, iN_add, iN_mul, iN_lt, iN_le, iN_eq, iN_c, gd_iN, iN_nM, nM_iN, iN_ltM, nM_lt, nM_le, iN_leM, iN_0M, nM_p1, iN_0s1, decide_true, decide_eq_true_eq, Nat.not_lt_zero, if_true, if_false, eq_grd, eq_lb, eq_b1, eq_b2, eq_b3, eq_b4, eq_b5, show ¬ (n + 1 ≤ g) by omega, show g < 16 by omega, e1]
      rw [ec, nn, iN_c (by omega)]) s3 s4
    rw [if_pos hu, ea]
    simp only [wp_some, wp_grd, wp_lb, wp_ite, wp_b1, wp_b2, wp_b3, wp_b4, wp_b5]
    refine wp_mono hins ?_
    rintro z ⟨z1, z2, z3⟩
    have ez : z 0 0 = iN (n + 1) := by rw [z1 0 (by decide) (by decide)]; exact y0
    rw [ez]
    refine ⟨by rw [iN_s1 (by omega)]; rfl, hxy z z1, ?_⟩
    unfold RSg
    rw [s2]
    exact ⟨z2, z3⟩
  · have es := sing_bin enn enn' hold (by rw [h24]; exact hu)
    rw [if_neg hu]
    simp only [wp_some, wp_grd, wp_lb, wp_ite, wp_b1, wp_b2, wp_b3, wp_b4, wp_b5]
    refine ⟨trivial, hxy y (fun _ _ _ => rfl), ?_⟩
    unfold RSg
    rw [es, yo 5 (by decide), yo 6 (by decide)]
    exact hs
theorem RI_rul {j : Nat} {K : Nat → Ob} {M : Ob} (h : RI j K M) : ∃ n, n ≤ 16 ∧ M 21 0 = iN n ∧ K 3 0 0 = iN n := by
  obtain ⟨a, ha, e⟩ := h.1.2.2.2.1
  have e' : M 21 0 = iN a := by rw [gr_e (M := M) (show 21 ≤ 21 by decide) (by decide)]; exact e
  exact ⟨a, ha, e', by rw [h.2.1.2.2.1.1]; exact e⟩
theorem op_rule {j : Nat} {K : Nat → Ob} {M : Ob} (hj : j < 1000000) (h : RI j K M) (p1 p2 p3 p4 : Int32) : Op_rule RI j K M p1 p2 p3 p4 := by
  obtain ⟨n, hn16, e21, k21⟩ := RI_rul h
  rcases rl_or p1 p2 p3 p4 with ⟨hr, fK, fM⟩ | ⟨fK, fM⟩
  · have m1 := fM M
    rw [Jr55_1 hn16 e21] at m1
    by_cases h16 : n = 16
    · refine ⟨3, 0, K, 0, upo M 67 0 (iN 2), iN 2, ?_, by rw [m1, if_pos h16], congrArg some (u67 _ _), Or.inr (Or.inr ⟨rfl, rfl⟩), RI_j (RI_67 _ h)⟩
      rw [fK K]
      subst h16
      simp (disch := omega) only [f_X10_rule_J85, f_X2_isFull, k21, eq_grd, eq_lb, eq_b1, eq_b2, eq_b3, eq_b4, eq_b5, ↓nM_lit, iN_lit, iN_add, iN_mul, iN_lt, iN_le, iN_eq, iN_c, gd_iN, iN_nM, nM_iN, iN_ltM, nM_lt, nM_le, iN_leM, iN_0M, nM_p1, iN_0s1, decide_true, decide_eq_true_eq, Nat.not_lt_zero, if_true, if_false, show ¬ (16 < 16) by decide, if_false, show ¬ (1 = 0) by decide]
    · rw [if_neg h16] at m1
      have hN := RI_67 (iN 0) h
      have n21 : upo M 67 0 (iN 0) 21 0 = iN n := by rw [upo_ne (by decide)]; exact e21
      have n67 : upo M 67 0 (iN 0) 67 0 = iN 0 := u67 _ _
      generalize upo M 67 0 (iN 0) = N at m1 hN n21 n67
      have c0 := fun k h => M9u_o (N := N) (n := n) (p := p1) (l := p2) (r := p3) (hd := p4) k h
      have ck := fun i => M9u_k (N := N) (n := n) (p := p1) (l := p2) (r := p3) (hd := p4) i
      have c52 := M9u_52 (N := N) (n := n) (p := p1) (l := p2) (r := p3) (hd := p4)

      have t67 : f_X11_thrown (M9u N n p1 p2 p3 p4) = some (N 67 0) := by rw [f_X11_thrown, c0 67 (by omega)]
      generalize M9u N n p1 p2 p3 p4 = M' at *
      have hsr : sr M' = sr N := by funext k; unfold sr; split; exact c0 k (by omega); rfl
      have g21 : gr N 21 0 = iN n := by rw [← gr_e (by decide) (by decide)]; exact n21
      have hGN : GN (gr N) (gr M') n p1 p2 p3 p4 := by
        refine ⟨by rw [← gr_e (by decide) (by decide)]; exact (ck 0).1, ?_, ?_⟩
        · intro i
          obtain ⟨-, k1, k2, k3, k4⟩ := ck i
          rw [← gr_e (show 21 ≤ 22 by decide) (by decide), ← gr_e (show 21 ≤ 23 by decide) (by decide), ← gr_e (show 21 ≤ 24 by decide) (by decide), ← gr_e (show 21 ≤ 25 by decide) (by decide), ← gr_e (M := N) (show 21 ≤ 22 by decide) (by decide), ← gr_e (M := N) (show 21 ≤ 23 by decide) (by decide), ← gr_e (M := N) (show 21 ≤ 24 by decide) (by decide), ← gr_e (M := N) (show 21 ≤ 25 by decide) (by decide)]
          exact ⟨k1, k2, k3, k4⟩
        · intro k k1 k2
          rw [← gr_e (by omega) (by omega), ← gr_e (M := N) (by omega) (by omega)]
          exact c0 k (by omega)
      have z26 : gr N 26 n = iN 0 := by
        rw [← gr_e (by decide) (by decide)]
        exact hN.2.2.2.2.2 n (by rw [n21, nn, iN_c (by omega)]; exact Nat.le_refl _) (by omega)
      obtain ⟨hl, ht, hR, hG⟩ := hN.1
      obtain ⟨⟨r1, y⟩, q1, q2, q3, q4⟩ := X2_addRule hGN (show n < 16 by omega) g21 hG hr hN.2.1.2.2.1 hN.2.1.2.2.2.1
      simp only at q2 q3 q4
      obtain ⟨K2, o1, o2⟩ := RI_out (K' := va_up K 3 y) hj hN (M' := M') ⟨WLex_cg (fun k hk => c0 k (by omega)) hl, WTxt_cg (fun k hk => c0 k (by omega)) ht, by
          rw [hsr]
          exact ⟨hR.1, fun k k1 k2 => by rw [c0 k (by omega)]; exact hR.2.1 k k1 k2, hR.2.2⟩, GN_W hGN (show n < 16 by omega) g21 z26 hG hr⟩ (by
          obtain ⟨h3, h7, -, -, h8⟩ := hN.2.1
          refine ⟨by rw [vu_ne (by decide)]; exact RX3_cg (fun k hk => c0 k (by omega)) h3, by rw [vu_ne (by decide), hsr]; exact h7, by rw [vu_eq]; exact q3, by rw [vu_eq]; exact q4, by rw [vu_ne (by decide)]; exact RX8_cg (fun k k1 k2 => c0 k (by omega)) h8⟩) (fun i hi => vu_ne (by omega)) (c0 9 (by omega)) (c0 10 (by omega)) c52 (fun k k1 k2 => c0 k (by omega)) (by
          intro g h1 h2
          rw [(ck 0).1, nn, iN_c (by omega)] at h1
          rw [c0 26 (by omega)]
          exact hN.2.2.2.2.2 g (by rw [n21, nn, iN_c (by omega)]; omega) h2)
      refine ⟨0, iN n, K2, iN n, M', N 67 0, ?_, m1, t67, ?_, o2⟩
      · rw [fK K]
        subst q2
        simp (disch := omega) only [f_X10_rule_J85, f_X2_isFull, k21, q1, o1, eq_grd, eq_lb, eq_b1, eq_b2, eq_b3, eq_b4, eq_b5, ↓nM_lit, iN_lit, iN_add, iN_mul, iN_lt, iN_le, iN_eq, iN_c, gd_iN, iN_nM, nM_iN, iN_ltM, nM_lt, nM_le, iN_leM, iN_0M, nM_p1, iN_0s1, decide_true, decide_eq_true_eq, Nat.not_lt_zero, if_true, if_false, show n < 16 by omega, if_true]
      · rw [n67]; exact Or.inl ⟨rfl, rfl, rfl⟩
  · refine ⟨2, 0, K, 0, upo M 67 0 (iN 1), iN 1, fK K, by rw [fM M, Jr55_0], congrArg some (u67 _ _), Or.inr (Or.inl ⟨rfl, rfl⟩), RI_j (RI_67 _ h)⟩
