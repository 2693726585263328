/-! The law asks. -/
theorem some_lt (p : Int32) {m : Nat} (h0 : 0 < m) (hm : m < 2147483648) : ∃ r, r < m ∧ f_L_some p (iN m) = some (iN r) := by
  have hX : ∃ a, a < 2147483648 ∧ (p.toUInt32 >>> ((2 : Int32).toUInt32 &&& Int32.toUInt32 31)).toInt32 = iN a := by
    refine ⟨(p.toUInt32 >>> ((2 : Int32).toUInt32 &&& Int32.toUInt32 31)).toNat, ?_, ?_⟩
    · rw [UInt32.toNat_shiftRight]
      have h1 : ((2 : Int32).toUInt32 &&& Int32.toUInt32 31).toNat % 32 = 2 := by decide
      rw [h1, Nat.shiftRight_eq_div_pow]
      have := p.toUInt32.toNat_lt
      omega
    · apply Int32.toBitVec.inj
      show (p.toUInt32 >>> ((2 : Int32).toUInt32 &&& Int32.toUInt32 31)).toBitVec = BitVec.ofNat 32 (p.toUInt32 >>> ((2 : Int32).toUInt32 &&& Int32.toUInt32 31)).toNat
      apply BitVec.eq_of_toNat_eq
      rw [BitVec.toNat_ofNat, Nat.mod_eq_of_lt (UInt32.toNat_lt _)]
      rfl
  obtain ⟨a, ha, ea⟩ := hX
  refine ⟨a % m, Nat.mod_lt _ h0, ?_⟩
  have hnz : nz (iN m) = true := by
    unfold nz
    refine decide_eq_true ?_
    show ¬ (iN m = iN 0)
    rw [iN_eq (by omega) (by omega)]; omega
  have hle : a / m * m ≤ a := Nat.div_mul_le_self _ _
  have em : a - a / m * m = a % m := by
    have := Nat.div_add_mod a m
    rw [Nat.mul_comm] at this
    omega
  rw [f_L_some, ea, hnz, eq_grd, iN_div ha hm, iN_mul, iN_sub hle, em]
/-- words that end a search of a rule of striking are categories -/
def LXe (M : Ob) : Prop := ∀ g, g < nn (M 15 0) → M 16 g = iN 1 → cat0 (M 20 g)
theorem LX_TS {c t : Rw} {M : Ob} (hR : RSt M (sr M)) (h : LXs c t M) (he : LXe M) : TSr c t (sr M) := by
  have e : ∀ k, 15 ≤ k → k ≤ 20 → sr M k = M k := fun k h1 h2 => if_pos ⟨h1, h2⟩
  obtain ⟨n, hn, c1, e15, hr⟩ := h
  obtain ⟨-, -, h3⟩ := hR
  have en : nn (M 15 0) = n := by rw [e15, nn, iN_c (by omega)]
  unfold TSr
  rw [e 15 (by omega) (by omega)]
  rw [e 15 (by omega) (by omega)] at h3
  refine ⟨by rw [en]; exact c1, by omega, ?_⟩
  intro g hg
  obtain ⟨t1, t2, t3, t4, t5⟩ := hr g (by omega)
  have h3g := h3 g hg
  rw [e 16 (by omega) (by omega), e 18 (by omega) (by omega)] at h3g
  rw [e 16 (by omega) (by omega), e 17 (by omega) (by omega), e 18 (by omega) (by omega), e 19 (by omega) (by omega), e 20 (by omega) (by omega)]
  exact ⟨t1, t2, t3, t4, fun h16 => ⟨t5 h16, he g hg h16⟩, h3g⟩
theorem LX_LG {c g q n : Rw} {M : Ob} (h : LXg c g q n M) (hG : WGr (gr M)) : LB2 c g q n (gr M) := by
  have e : ∀ k, 21 ≤ k → k ≤ 30 → gr M k = M k := fun k h1 h2 => if_pos ⟨h1, h2⟩
  obtain ⟨m, hm, c2, e21, hr, -⟩ := h
  have en : nn (gr M 21 0) = m := by rw [e 21 (by omega) (by omega), e21, nn, iN_c (by omega)]
  refine ⟨⟨by omega, ?_⟩, hG, by rw [en]; exact c2⟩
  rw [en, e 22 (by omega) (by omega), e 23 (by omega) (by omega), e 24 (by omega) (by omega), e 26 (by omega) (by omega), e 27 (by omega) (by omega), e 28 (by omega) (by omega), e 29 (by omega) (by omega), e 30 (by omega) (by omega)]
  exact hr
theorem L_ask3 {K : Nat → Ob} {M : Ob} {j : Nat} (hR : RI j K M) {c w u x l f v t g q nr h p k n1 n2 n3 n4 n5 n6 : Rw} {s i N : Nat} (hX : LXt c x M) (hL : LK l f v M) (hs : s < 2) (hi : i < evn M s) (hN : N + 3 ≤ 4750) :
    ∃ K', f_L_asks_J92 K c w u x l f v t g q nr h p k n1 n2 n3 n4 n5 n6 N (iN s) (iN i) (iN 1) = some (0, iN (i + 1), K', N + 3) ∧ RI j K' M := by
  obtain ⟨n3', -, -, hx⟩ := LX_t hX hs
  have hw2 := ((WTxt_at hR.1.2.1 (show s < 4 by omega)).2.2 i hi).2
  have ex : x (3 * s + i) = iN (evw M s i) := by rw [hx i hi]; exact hw2
  have el : l (3 * s + i) = iN (Lk (sr M) M s i) := (hL.1 s hs).1 i hi
  obtain ⟨ef, -, -⟩ := hL.2 s hs i hi
  have e1 := an_word hR (show s < 4 by omega) hi
  obtain ⟨K1, e2, h1⟩ := an_left hR (show s < 4 by omega) hi
  obtain ⟨K2, e3, h2⟩ := an_ref h1 (show s < 4 by omega) hi
  refine ⟨K2, ?_, h2⟩
  have d1 : decide (N + 1 ≤ 4750) = true := decide_eq_true (by omega)
  have d2 : decide (N + 1 + 1 ≤ 4750) = true := decide_eq_true (by omega)
  have d3 : decide (N + 1 + 1 + 1 ≤ 4750) = true := decide_eq_true (by omega)
  simp (disch := omega) only [f_L_asks_J92, f_L_asks_J124, f_L_asks_J157, ↓nM_lit, iN_lit, iN_add, iN_mul, iN_lt, iN_le, iN_eq, iN_c, gd_iN, iN_nM, nM_iN, iN_ltM, nM_lt, nM_le, iN_leM, iN_0M, nM_p1, iN_0s1, decide_true, decide_eq_true_eq, Nat.not_lt_zero, if_true, if_false, eq_grd, eq_lb, eq_b1, eq_b2, eq_b3, eq_b4, eq_b5, eq_b6, eq_b7, eq_b8, eq_b9, ↓reduceIte, show ¬ (1 = 0) by decide, show 3 * s + i < 6 by omega, e1, e2, e3, d1, d2, d3, ex, el, ef]
theorem L_ask3n {K : Nat → Ob} {M : Ob} {j : Nat} (hR : RI j K M) {c w u x l f v t g q nr h p k n1 n2 n3 n4 n5 n6 : Rw} {s N : Nat} (hs : s < 2) (h3 : evn M s ≤ 3) (hN : N + 3 ≤ 4750) :
    f_L_asks_J92 K c w u x l f v t g q nr h p k n1 n2 n3 n4 n5 n6 N (iN s) (iN (evn M s)) (iN 0) = some (0, iN (evn M s + 1), K, N + 3) := by
  have e1 := an_word_n hR (show s < 4 by omega)
  have e2 := an_left_n hR (show s < 4 by omega)
  have e3 := an_ref_n hR (show s < 4 by omega)
  have d1 : decide (N + 1 ≤ 4750) = true := decide_eq_true (by omega)
  have d2 : decide (N + 1 + 1 ≤ 4750) = true := decide_eq_true (by omega)
  have d3 : decide (N + 1 + 1 + 1 ≤ 4750) = true := decide_eq_true (by omega)
  simp (disch := omega) only [f_L_asks_J92, f_L_asks_J124, f_L_asks_J157, ↓nM_lit, iN_lit, iN_add, iN_mul, iN_lt, iN_le, iN_eq, iN_c, gd_iN, iN_nM, nM_iN, iN_ltM, nM_lt, nM_le, iN_leM, iN_0M, nM_p1, iN_0s1, decide_true, decide_eq_true_eq, Nat.not_lt_zero, if_true, if_false, eq_grd, eq_lb, eq_b1, eq_b2, eq_b3, eq_b4, eq_b5, eq_b6, eq_b7, eq_b8, eq_b9, ↓reduceIte, e1, e2, e3, d1, d2, d3]
theorem L_ask63 {K : Nat → Ob} {M : Ob} {j : Nat} (hR : RI j K M) {c w u x l f v t g q nr h p k n1 n2 n3 n4 n5 n6 : Rw} {s N0 : Nat} (hX : LXt c x M) (hL : LK l f v M) (hs : s < 2) (hN : N0 + 12 ≤ 4750) :
    wp (f_L_asks_L63 400 K c w u x l f v t g q nr h p k n1 n2 n3 n4 n5 n6 N0 (iN s) (iN 0)) (fun r => r.1 = 1 ∧ RI j r.2.2.1 M ∧ r.2.2.2 ≤ N0 + 12) := by
  obtain ⟨n3', e8, -, -⟩ := LX_t hX hs
  refine lp_up (F := fun fu (Z : (Nat → Ob) × Nat) i => f_L_asks_L63 fu Z.1 c w u x l f v t g q nr h p k n1 n2 n3 n4 n5 n6 Z.2 (iN s) i) (V := fun i Z => RI j Z.1 M ∧ Z.2 ≤ N0 + 3 * i) (hi := evn M s + 1) ?_ 400 0 (K, N0) (by omega) (by omega) ⟨hR, Nat.le_refl _⟩
  rintro fu ⟨K1, N⟩ i hi ⟨hK, hN1⟩ hk
  simp only at hK hN1
  by_cases he : i = evn M s + 1
  · subst he
    simp (disch := omega) only [f_L_asks_L63, ↓nM_lit, iN_lit, iN_add, iN_mul, iN_lt, iN_le, iN_eq, iN_c, gd_iN, iN_nM, nM_iN, iN_ltM, nM_lt, nM_le, iN_leM, iN_0M, nM_p1, iN_0s1, decide_true, decide_eq_true_eq, Nat.not_lt_zero, if_true, if_false, wp_some, wp_grd, wp_lb, wp_ite, wp_b1, wp_b2, wp_b3, wp_b4, wp_b5, ↓reduceIte, wp_b6, wp_b7, wp_b8, wp_b9, show 8 + s < 12 by omega, e8, show evn M s < evn M s + 1 by omega, true_and]
    exact ⟨hK, by omega⟩
  · have hdN : decide (N + 3 ≤ 4750) = true := decide_eq_true (by omega)
    by_cases hlt : i < evn M s
    · obtain ⟨K2, e2, h2⟩ := L_ask3 (c := c) (w := w) (u := u) (t := t) (g := g) (q := q) (nr := nr) (h := h) (p := p) (k := k) (n1 := n1) (n2 := n2) (n3 := n3) (n4 := n4) (n5 := n5) (n6 := n6) (N := N) hK hX hL hs hlt (by omega)
      simp (disch := omega) only [f_L_asks_L63, ↓nM_lit, iN_lit, iN_add, iN_mul, iN_lt, iN_le, iN_eq, iN_c, gd_iN, iN_nM, nM_iN, iN_ltM, nM_lt, nM_le, iN_leM, iN_0M, nM_p1, iN_0s1, decide_true, decide_eq_true_eq, Nat.not_lt_zero, if_true, if_false, wp_some, wp_grd, wp_lb, wp_ite, wp_b1, wp_b2, wp_b3, wp_b4, wp_b5, ↓reduceIte, wp_b6, wp_b7, wp_b8, wp_b9, eq_grd, eq_lb, eq_b1, eq_b2, eq_b3, eq_b4, eq_b5, eq_b6, eq_b7, eq_b8, eq_b9, show 8 + s < 12 by omega, e8, show ¬ (evn M s < i) by omega, show ¬ (evn M s ≤ i) by omega, e2, hdN, true_and]
      exact hk (K2, N + 3) (by omega) ⟨h2, by simp only; omega⟩
    · have ei : i = evn M s := by omega
      subst ei
      have e2 := L_ask3n (c := c) (w := w) (u := u) (x := x) (l := l) (f := f) (v := v) (t := t) (g := g) (q := q) (nr := nr) (h := h) (p := p) (k := k) (n1 := n1) (n2 := n2) (n3 := n3) (n4 := n4) (n5 := n5) (n6 := n6) (N := N) hK hs n3' (by omega)
      simp (disch := omega) only [f_L_asks_L63, ↓nM_lit, iN_lit, iN_add, iN_mul, iN_lt, iN_le, iN_eq, iN_c, gd_iN, iN_nM, nM_iN, iN_ltM, nM_lt, nM_le, iN_leM, iN_0M, nM_p1, iN_0s1, decide_true, decide_eq_true_eq, Nat.not_lt_zero, if_true, if_false, wp_some, wp_grd, wp_lb, wp_ite, wp_b1, wp_b2, wp_b3, wp_b4, wp_b5, ↓reduceIte, wp_b6, wp_b7, wp_b8, wp_b9, eq_grd, eq_lb, eq_b1, eq_b2, eq_b3, eq_b4, eq_b5, eq_b6, eq_b7, eq_b8, eq_b9, show 8 + s < 12 by omega, e8, show ¬ (evn M s < evn M s) by omega, Nat.le_refl, e2, hdN, true_and]
      exact hk (K1, N + 3) (by omega) ⟨hK, by simp only; omega⟩
theorem L_ask453s {K1 K2 K3 K4 K5 K6 : Nat → Ob} {c w u x l f v t g q nr h p k n6 : Rw} {y : Cy} {s m b N fu n dl df Ln : Nat} {A B C v24 : Int32} (hs : s < 2) (e8 : c (8 + s) = iN n) (h3 : n ≤ 3) (hbm : b + m ≤ n) (hsp : lsp b m < 6) (hN : N + 5 ≤ 4750) (hLn : Ln < 8) (g1 : ym y (lsp b m) = iN (Ln + 1)) (g2 : f_L_more K1 (iN 1) (iN s) (iN b) (iN m) (iN 0) = some (iN (Ln + 1), K2)) (g3 : f_L_more K2 (iN 2) (iN s) (iN b) (iN m) (iN (Ln + 1)) = some (-1001, K3)) (g4 : f_L_more K3 (iN 2) (iN s) (iN b) (iN m) (iN Ln) = some (A, K4)) (g5 : f_L_more K4 (iN 3) (iN s) (iN b) (iN m) (iN Ln) = some (C, K5)) (g6 : f_L_more K5 (iN 2) (iN s) (iN b) (iN m) (iN 0) = some (B, K6)) (g7 : yb y (8 * lsp b m + Ln) = iN dl) (g7' : yb y (8 * lsp b m) = iN df) (hdl : dl < 64) (hdf : df < 64) (g8 : ye y dl = A) (g9 : yj y dl = C) (g10 : ye y df = B) :
    f_L_asks_L453 (fu + 1) K1 c w u x l f v t g q nr h p k (ye y) (yj y) (ya y) (yb y) (ym y) n6 N (iN s) v24 (iN m) (iN b) = f_L_asks_L453 fu K6 c w u x l f v t g q nr h p k (ye y) (yj y) (ya y) (yb y) (ym y) n6 (N + 1 + 1 + 1 + 1 + 1) (iN s) v24 (iN m) (iN (b + 1)) := by
  have d1 : decide (N + 1 ≤ 4750) = true := decide_eq_true (by omega)
  have d2 : decide (N + 1 + 1 ≤ 4750) = true := decide_eq_true (by omega)
  have d3 : decide (N + 1 + 1 + 1 ≤ 4750) = true := decide_eq_true (by omega)
  have d4 : decide (N + 1 + 1 + 1 + 1 ≤ 4750) = true := decide_eq_true (by omega)
  have d5 : decide (N + 1 + 1 + 1 + 1 + 1 ≤ 4750) = true := decide_eq_true (by omega)
  simp (disch := omega) only [f_L_asks_L453, ↓nM_lit, iN_lit, iN_add, iN_mul, iN_lt, iN_le, iN_eq, iN_c, gd_iN, iN_nM, nM_iN, iN_ltM, nM_lt, nM_le, iN_leM, iN_0M, nM_p1, iN_0s1, decide_true, decide_eq_true_eq, Nat.not_lt_zero, if_true, if_false, ↓reduceIte, eq_grd, eq_lb, eq_b1, eq_b2, eq_b3, eq_b4, eq_b5, eq_b6, eq_b7, eq_b8, eq_b9, show 8 + s < 12 by omega, e8, show ¬ (n < b + m) by omega, L_span, hsp, g1, iN_sub, Nat.add_sub_cancel, g2, g3, d1, d2, show ¬ (Ln < 0) by omega, show 8 * lsp b m + Ln < 48 by omega, show 8 * lsp b m < 48 by omega, show dl < 64 by omega, show df < 64 by omega]
  simp only [g4]
  simp only [eq_b2]
  simp only [d3, eq_grd]
  simp (disch := omega) only [g7, iN_c, gd_iN, decide_true, eq_grd, show dl < 64 by omega]
  simp only [g8, ↓reduceIte]
  simp only [g5, eq_b2, d4, eq_grd]
  simp only [g9, ↓reduceIte]
  simp only [g6, eq_b2, d5, eq_grd]
  simp (disch := omega) only [g7', iN_c, gd_iN, decide_true, eq_grd, show df < 64 by omega]
  simp only [g10, ↓reduceIte]
/-- edges of the spans of w words -/
theorem L_ask453 {K : Nat → Ob} {M : Ob} {j : Nat} (hR : RI j K M) {c w u x l f v t g q nr h p k n6 : Rw} {y : Cy} {s m n0 N0 : Nat} {v24 : Int32} (hd : ¬ due M s) (hs : s < 2) (e8 : c (8 + s) = iN (evn M s)) (h3 : evn M s ≤ 3) (hx : LCh y (gr M) (cM M s) n0) (hW : WCh (gr M) (cM M s)) (hm : 1 ≤ m) (hmn : m ≤ evn M s) (hN : N0 + 5 * (evn M s + 1 - m) ≤ 4750) :
    wp (f_L_asks_L453 400 K c w u x l f v t g q nr h p k (ye y) (yj y) (ya y) (yb y) (ym y) n6 N0 (iN s) v24 (iN m) (iN 0)) (fun r => r.1 = 1 ∧ RI j r.2.2.1 M ∧ r.2.2.2 ≤ N0 + 5 * (evn M s + 1 - m)) := by
  have h64 := hx.2.1
  refine lp_up (F := fun fu (Z : (Nat → Ob) × Nat) i => f_L_asks_L453 fu Z.1 c w u x l f v t g q nr h p k (ye y) (yj y) (ya y) (yb y) (ym y) n6 Z.2 (iN s) v24 (iN m) i) (V := fun i Z => RI j Z.1 M ∧ Z.2 ≤ N0 + 5 * i) (hi := evn M s + 1 - m) ?_ 400 0 (K, N0) (by omega) (by omega) ⟨hR, Nat.le_refl _⟩
  rintro fu ⟨K1, N⟩ b hb ⟨hK, hN1⟩ hk
  simp only at hK hN1
  by_cases he : b = evn M s + 1 - m
  · subst he
    simp (disch := omega) only [f_L_asks_L453, ↓nM_lit, iN_lit, iN_add, iN_mul, iN_lt, iN_le, iN_eq, iN_c, gd_iN, iN_nM, nM_iN, iN_ltM, nM_lt, nM_le, iN_leM, iN_0M, nM_p1, iN_0s1, decide_true, decide_eq_true_eq, Nat.not_lt_zero, if_true, if_false, wp_some, wp_grd, wp_lb, wp_ite, wp_b1, wp_b2, wp_b3, wp_b4, wp_b5, ↓reduceIte, wp_b6, wp_b7, wp_b8, wp_b9, show 8 + s < 12 by omega, e8, show evn M s < evn M s + 1 - m + m by omega, true_and]
    exact ⟨hK, by omega⟩
  · have hbm : b + m ≤ evn M s := by omega
    have hsp : lsp b m < 6 := lsp_lt hm (by omega)
    obtain ⟨mm, bb⟩ := hx.2.2 b m hm (by omega)
    have h8 := hW.2 (6 * b + m - 1)
    have d1 : decide (N + 1 ≤ 4750) = true := decide_eq_true (by omega)
    have d2 : decide (N + 1 + 1 ≤ 4750) = true := decide_eq_true (by omega)
    have d3 : decide (N + 1 + 1 + 1 ≤ 4750) = true := decide_eq_true (by omega)
    have d4 : decide (N + 1 + 1 + 1 + 1 ≤ 4750) = true := decide_eq_true (by omega)
    have d5 : decide (N + 1 + 1 + 1 + 1 + 1 ≤ 4750) = true := decide_eq_true (by omega)
    obtain ⟨K2, a2, h2⟩ := an_edges hK (show s < 4 by omega) hd hm hbm (iN 0)
    obtain ⟨K3, a3, hK3⟩ := an_edge_n h2 (show s < 4 by omega) hd hm hbm
    by_cases hz : (cM M s (6 * b + m - 1)).length = 0
    · rw [hz] at a2 a3 mm
      simp (disch := omega) only [f_L_asks_L453, ↓nM_lit, iN_lit, iN_add, iN_mul, iN_lt, iN_le, iN_eq, iN_c, gd_iN, iN_nM, nM_iN, iN_ltM, nM_lt, nM_le, iN_leM, iN_0M, nM_p1, iN_0s1, decide_true, decide_eq_true_eq, Nat.not_lt_zero, if_true, if_false, wp_some, wp_grd, wp_lb, wp_ite, wp_b1, wp_b2, wp_b3, wp_b4, wp_b5, ↓reduceIte, wp_b6, wp_b7, wp_b8, wp_b9, eq_grd, eq_lb, eq_b1, eq_b2, eq_b3, eq_b4, eq_b5, eq_b6, eq_b7, eq_b8, eq_b9, show 8 + s < 12 by omega, e8, show ¬ (evn M s < b + m) by omega, L_span, hsp, mm, iN_0s1, a2, a3, d1, d2, show (nM < iN 0) ↔ True by exact ⟨fun _ => trivial, fun _ => by decide⟩, true_and]
      exact hk (K3, N + 1 + 1) (by omega) ⟨hK3, by simp only; omega⟩
    · obtain ⟨Ln, hLn⟩ : ∃ Ln, (cM M s (6 * b + m - 1)).length = Ln + 1 := ⟨(cM M s (6 * b + m - 1)).length - 1, by omega⟩
      have hlast : Ln < (cM M s (6 * b + m - 1)).length := by omega
      obtain ⟨K4, a4, h4⟩ := an_edge hK3 (show s < 4 by omega) hd hm hbm hlast
      obtain ⟨K5, a5, hK5⟩ := an_eCost h4 (show s < 4 by omega) hd hm hbm hlast
      obtain ⟨K6, a6, h6⟩ := an_edge hK5 (show s < 4 by omega) hd hm hbm (show 0 < (cM M s (6 * b + m - 1)).length by omega)
      obtain ⟨dl, hdl, edl, hTl⟩ := bb _ hlast
      obtain ⟨df, hdf, edf, hTf⟩ := bb 0 (by omega)
      obtain ⟨l1, l2⟩ := LT_2 hTl
      obtain ⟨f1, f2⟩ := LT_2 hTf
      rw [Nat.add_zero] at edf
      rw [hLn] at a2 a3 mm
      have hst := L_ask453s (c := c) (w := w) (u := u) (x := x) (l := l) (f := f) (v := v) (t := t) (g := g) (q := q) (nr := nr) (h := h) (p := p) (k := k) (n6 := n6) (fu := fu) (v24 := v24) hs e8 h3 hbm hsp (show N + 5 ≤ 4750 by omega) (show Ln < 8 by omega) mm a2 a3 a4 a5 a6 edl edf (show dl < 64 by omega) (show df < 64 by omega) l1 l2 f1
      rw [hst]
      exact hk (K6, N + 1 + 1 + 1 + 1 + 1) (by omega) ⟨h6, by simp only; omega⟩
theorem L_ask438 {K : Nat → Ob} {M : Ob} {j : Nat} (hR : RI j K M) {c w u x l f v t g q nr h p k n6 : Rw} {y : Cy} {s n0 N0 : Nat} {v24 : Int32} (hd : ¬ due M s) (hs : s < 2) (e8 : c (8 + s) = iN (evn M s)) (h3 : evn M s ≤ 3) (hx : LCh y (gr M) (cM M s) n0) (hW : WCh (gr M) (cM M s)) (hN : N0 + 60 ≤ 4750) :
    wp (f_L_asks_L438 400 K c w u x l f v t g q nr h p k (ye y) (yj y) (ya y) (yb y) (ym y) n6 N0 (iN s) v24 (iN 1)) (fun r => r.1 = 1 ∧ RI j r.2.2.1 M ∧ r.2.2.2 ≤ N0 + 60) := by
  refine lp_up (F := fun fu (Z : (Nat → Ob) × Nat) i => f_L_asks_L438 fu Z.1 c w u x l f v t g q nr h p k (ye y) (yj y) (ya y) (yb y) (ym y) n6 Z.2 (iN s) v24 i) (V := fun i Z => 1 ≤ i ∧ RI j Z.1 M ∧ Z.2 ≤ N0 + 15 * i) (hi := evn M s + 1) ?_ 400 1 (K, N0) (by omega) (by omega) ⟨Nat.le_refl _, hR, by simp only; omega⟩
  rintro fu ⟨K1, N⟩ m hm ⟨hm1, hK, hN1⟩ hk
  simp only at hK hN1
  by_cases he : m = evn M s + 1
  · subst he
    simp (disch := omega) only [f_L_asks_L438, ↓nM_lit, iN_lit, iN_add, iN_mul, iN_lt, iN_le, iN_eq, iN_c, gd_iN, iN_nM, nM_iN, iN_ltM, nM_lt, nM_le, iN_leM, iN_0M, nM_p1, iN_0s1, decide_true, decide_eq_true_eq, Nat.not_lt_zero, if_true, if_false, wp_some, wp_grd, wp_lb, wp_ite, wp_b1, wp_b2, wp_b3, wp_b4, wp_b5, ↓reduceIte, wp_b6, wp_b7, wp_b8, wp_b9, show 8 + s < 12 by omega, e8, show evn M s < evn M s + 1 by omega, true_and]
    exact ⟨hK, by omega⟩
  · obtain ⟨r, er, r1, r2, r3⟩ := L_ask453 (c := c) (w := w) (u := u) (x := x) (l := l) (f := f) (v := v) (t := t) (g := g) (q := q) (nr := nr) (h := h) (p := p) (k := k) (n6 := n6) (N0 := N) (v24 := v24) hK hd hs e8 h3 hx hW hm1 (show m ≤ evn M s by omega) (by omega)
    have dN : decide (r.2.2.2 ≤ 4750) = true := decide_eq_true (by omega)
    simp (disch := omega) only [f_L_asks_L438, ↓nM_lit, iN_lit, iN_add, iN_mul, iN_lt, iN_le, iN_eq, iN_c, gd_iN, iN_nM, nM_iN, iN_ltM, nM_lt, nM_le, iN_leM, iN_0M, nM_p1, iN_0s1, decide_true, decide_eq_true_eq, Nat.not_lt_zero, if_true, if_false, wp_some, wp_grd, wp_lb, wp_ite, wp_b1, wp_b2, wp_b3, wp_b4, wp_b5, ↓reduceIte, wp_b6, wp_b7, wp_b8, wp_b9, show 8 + s < 12 by omega, e8, show ¬ (evn M s < m) by omega, true_and]
    rw [er, wp_some]
    refine ⟨by omega, ?_⟩
    rw [if_pos r1]
    exact hk (r.2.2.1, r.2.2.2) (by omega) ⟨by omega, r2, by simp only; omega⟩
theorem L_ask693 {K : Nat → Ob} {M : Ob} {j : Nat} (hR : RI j K M) {c w u x l f v t g q nr h p k n1 n2 n3 n4 n5 n6 : Rw} {s N0 : Nat} {v24 : Int32} (hd : ¬ due M s) (hs : s < 2) (hz : ZF n6 (fM M s)) (hN : N0 + 64 ≤ 4750) :
    wp (f_L_asks_L693 400 K c w u x l f v t g q nr h p k n1 n2 n3 n4 n5 n6 N0 (iN s) (iN (mn (fM M s))) v24 (iN 0)) (fun r => r.1 = 1 ∧ RI j r.2.2.1 M ∧ r.2.2.2 ≤ N0 + 64) := by
  have hmn : mn (fM M s) ≤ 64 ∧ (mn (fM M s) < 64 → mn (fM M s) = (fM M s).length) := by
    unfold mn
    by_cases h : (fM M s).length < 64
    · rw [if_pos h]; exact ⟨by omega, fun _ => rfl⟩
    · rw [if_neg h]; exact ⟨Nat.le_refl _, fun h => absurd h (by omega)⟩
  refine lp_up (F := fun fu (Z : (Nat → Ob) × Nat) i => f_L_asks_L693 fu Z.1 c w u x l f v t g q nr h p k n1 n2 n3 n4 n5 n6 Z.2 (iN s) (iN (mn (fM M s))) v24 i) (V := fun i Z => RI j Z.1 M ∧ Z.2 ≤ N0 + i) (hi := mn (fM M s)) ?_ 400 0 (K, N0) (by omega) (by omega) ⟨hR, Nat.le_refl _⟩
  rintro fu ⟨K1, N⟩ i hi ⟨hK, hN1⟩ hk
  simp only at hK hN1
  by_cases he : i = mn (fM M s)
  · subst he
    simp (disch := omega) only [f_L_asks_L693, ↓nM_lit, iN_lit, iN_add, iN_mul, iN_lt, iN_le, iN_eq, iN_c, gd_iN, iN_nM, nM_iN, iN_ltM, nM_lt, nM_le, iN_leM, iN_0M, nM_p1, iN_0s1, decide_true, decide_eq_true_eq, Nat.not_lt_zero, if_true, if_false, wp_some, wp_grd, wp_lb, wp_ite, wp_b1, wp_b2, wp_b3, wp_b4, wp_b5, ↓reduceIte, wp_b6, wp_b7, wp_b8, wp_b9, Nat.le_refl]
    exact ⟨trivial, hK, by omega⟩
  · by_cases h64 : 64 ≤ mn (fM M s)
    · simp (disch := omega) only [f_L_asks_L693, ↓nM_lit, iN_lit, iN_add, iN_mul, iN_lt, iN_le, iN_eq, iN_c, gd_iN, iN_nM, nM_iN, iN_ltM, nM_lt, nM_le, iN_leM, iN_0M, nM_p1, iN_0s1, decide_true, decide_eq_true_eq, Nat.not_lt_zero, if_true, if_false, wp_some, wp_grd, wp_lb, wp_ite, wp_b1, wp_b2, wp_b3, wp_b4, wp_b5, ↓reduceIte, wp_b6, wp_b7, wp_b8, wp_b9, show ¬ (mn (fM M s) ≤ i) by omega, h64]
      exact ⟨trivial, hK, by omega⟩
    · have hlen := hmn.2 (by omega)
      obtain ⟨K2, r, e2, h2, hr⟩ := an_fault hK (show s < 4 by omega) hd (show i ≤ (fM M s).length by omega)
      rw [if_pos (show i < (fM M s).length by omega)] at hr
      obtain ⟨D, rfl, hD, eD⟩ := hr
      have hzi := hz i (by omega) (by omega)
      have d1 : decide (N + 1 ≤ 4750) = true := decide_eq_true (by omega)
      simp (disch := omega) only [f_L_asks_L693, ↓nM_lit, iN_lit, iN_add, iN_mul, iN_lt, iN_le, iN_eq, iN_c, gd_iN, iN_nM, nM_iN, iN_ltM, nM_lt, nM_le, iN_leM, iN_0M, nM_p1, iN_0s1, decide_true, decide_eq_true_eq, Nat.not_lt_zero, if_true, if_false, wp_some, wp_grd, wp_lb, wp_ite, wp_b1, wp_b2, wp_b3, wp_b4, wp_b5, ↓reduceIte, wp_b6, wp_b7, wp_b8, wp_b9, eq_grd, eq_lb, eq_b1, eq_b2, eq_b3, eq_b4, eq_b5, eq_b6, eq_b7, eq_b8, eq_b9, show ¬ (mn (fM M s) ≤ i) by omega, h64, e2, d1, show i < 64 by omega, hzi, iN_div, eD, true_and]
      exact hk (K2, N + 1) (by omega) ⟨h2, by simp only; omega⟩
theorem L_ask769 {K : Nat → Ob} {M : Ob} {j : Nat} (hR : RI j K M) {c w u x l f v t g q nr h p k n1 n2 n3 n4 n5 n6 : Rw} {s N0 F0 : Nat} (hd : ¬ due M s) (hs : s < 2) (hF : F0 = (frg (gr M) (cM M s) (evn M s)).1 0) (h3 : F0 ≤ 3) (hz : ZP n6 (frg (gr M) (cM M s) (evn M s))) (hN : N0 + 3 ≤ 4750) :
    wp (f_L_asks_L769 400 K c w u x l f v t g q nr h p k n1 n2 n3 n4 n5 n6 N0 (iN s) (iN F0) (iN 0)) (fun r => r.1 = 1 ∧ RI j r.2.2.1 M ∧ r.2.2.2 ≤ N0 + 3) := by
  refine lp_up (F := fun fu (Z : (Nat → Ob) × Nat) i => f_L_asks_L769 fu Z.1 c w u x l f v t g q nr h p k n1 n2 n3 n4 n5 n6 Z.2 (iN s) (iN F0) i) (V := fun i Z => RI j Z.1 M ∧ Z.2 ≤ N0 + i) (hi := F0) ?_ 400 0 (K, N0) (by omega) (by omega) ⟨hR, Nat.le_refl _⟩
  rintro fu ⟨K1, N⟩ i hi ⟨hK, hN1⟩ hk
  simp only at hK hN1
  by_cases he : i = F0
  · subst he
    simp (disch := omega) only [f_L_asks_L769, ↓nM_lit, iN_lit, iN_add, iN_mul, iN_lt, iN_le, iN_eq, iN_c, gd_iN, iN_nM, nM_iN, iN_ltM, nM_lt, nM_le, iN_leM, iN_0M, nM_p1, iN_0s1, decide_true, decide_eq_true_eq, Nat.not_lt_zero, if_true, if_false, wp_some, wp_grd, wp_lb, wp_ite, wp_b1, wp_b2, wp_b3, wp_b4, wp_b5, ↓reduceIte, wp_b6, wp_b7, wp_b8, wp_b9, Nat.le_refl]
    exact ⟨trivial, hK, by omega⟩
  · obtain ⟨K2, e2, h2⟩ := an_frag hK (i := i) (show s < 4 by omega) hd (by omega)
    rw [if_pos (by omega)] at e2
    have hzi := hz i (by omega)
    have d1 : decide (N + 1 ≤ 4750) = true := decide_eq_true (by omega)
    simp (disch := omega) only [f_L_asks_L769, ↓nM_lit, iN_lit, iN_add, iN_mul, iN_lt, iN_le, iN_eq, iN_c, gd_iN, iN_nM, nM_iN, iN_ltM, nM_lt, nM_le, iN_leM, iN_0M, nM_p1, iN_0s1, decide_true, decide_eq_true_eq, Nat.not_lt_zero, if_true, if_false, wp_some, wp_grd, wp_lb, wp_ite, wp_b1, wp_b2, wp_b3, wp_b4, wp_b5, ↓reduceIte, wp_b6, wp_b7, wp_b8, wp_b9, eq_grd, eq_lb, eq_b1, eq_b2, eq_b3, eq_b4, eq_b5, eq_b6, eq_b7, eq_b8, eq_b9, show ¬ (F0 ≤ i) by omega, e2, d1, show i < 64 by omega, hzi, true_and]
    exact hk (K2, N + 1) (by omega) ⟨h2, by simp only; omega⟩
