/-! The law asks: all together. -/
theorem L_ask761 {K : Nat → Ob} {M : Ob} {j : Nat} (hR : RI j K M) {c w u x l f v t g q nr h p k n6 : Rw} {y : Cy} {s n0 N : Nat} {v24 : Int32} (hW0 : LW0 c w u x M) (hd : ¬ due M s) (hs : s < 2) (h5 : c 5 = M 53 0) (hx : LCh y (gr M) (cM M s) n0) (hW : WCh (gr M) (cM M s)) (hN : N + 8 ≤ 4750) (h9 : v24 = iN 0 ∨ (v24 = iN 1 ∧ ∃ i, wI (gr M) (cM M s) (evn M s) = some i)) :
    wp (f_L_asks_J761 K c w u x l f v t g q nr h p k (ye y) (yj y) (ya y) (yb y) (ym y) n6 N (iN s) (iN s) v24) (fun z => z.1 = 1 ∧ RI j z.2.1 M ∧ z.2.2.1 = c ∧ z.2.2.2.2.2.2 = h) := by
  have hs4 : s < 4 := by omega
  obtain ⟨n3, e8, -, -⟩ := LX_t hW0.2.2.2 hs
  have hFI := frg_I (G := gr M) (ch := cM M s) (evn M s)
  have hle := FI_le hFI (Nat.le_refl 0) (Nat.zero_le _)
  obtain ⟨r, er, r1, r2⟩ := L_frag (y := y) (z := n6) hR.1.2.2.2 hW0 hs hx hW rfl (fun p hp => (fr_hc hs4 hR M (fun _ _ => rfl) p hp).2.2.2) h9
  obtain ⟨r', er', a1, a2, a3⟩ := L_ask769 (c := c) (w := w) (u := u) (x := x) (l := l) (f := f) (v := v) (t := t) (g := g) (q := q) (nr := nr) (h := h) (p := p) (k := k) (n1 := ye y) (n2 := yj y) (n3 := ya y) (n4 := yb y) (n5 := ym y) (n6 := r.2) (N0 := N + 2) hR hd hs rfl (by omega) r2 (by omega)
  obtain ⟨K2, b2, h2⟩ := an_frags a2 hs4 hd
  obtain ⟨K3, b3, h3⟩ := an_frag h2 (i := (frg (gr M) (cM M s) (evn M s)).1 0) hs4 hd (Nat.le_refl _)
  rw [if_neg (Nat.lt_irrefl _)] at b3
  have b4 := an_reads h3
  have b5 := an_edges_n h3 hs4 (iN 0)
  have d1 : decide (N + 2 ≤ 4750) = true := decide_eq_true (by omega)
  have d2 : decide (r'.2.2.2 ≤ 4750) = true := decide_eq_true (by omega)
  have d3 : decide (r'.2.2.2 + 1 ≤ 4750) = true := decide_eq_true (by omega)
  have d4 : decide (r'.2.2.2 + 1 + 1 ≤ 4750) = true := decide_eq_true (by omega)
  have d5 : decide (r'.2.2.2 + 1 + 1 + 1 ≤ 4750) = true := decide_eq_true (by omega)
  have e53 : M 53 0 = c (5 : Int32).toNatClampNeg := by rw [← h5]; rfl
  have e8' : c ((8 : Int32) + iN s).toNatClampNeg = iN (evn M s) := by
    rw [show (8 : Int32) + iN s = iN (8 + s) from iN_add 8 s, iN_c (by omega)]; exact e8
  have g8 : gd ((8 : Int32) + iN s) 12 = true := by
    rw [show (8 : Int32) + iN s = iN (8 + s) from iN_add 8 s, gd_iN (by omega)]; exact decide_eq_true (by omega)
  have c0 : (0 : Int32) = iN 0 := rfl
  have c5 : (5 : Int32) = iN 5 := rfl
  have c6 : (6 : Int32) = iN 6 := rfl
  have er2 : f_L_asks_L769 400 K c w u x l f v t g q nr h p k (ye y) (yj y) (ya y) (yb y) (ym y) r.2 (N + 2) (iN s) r.1 0 = some r' := by rw [r1]; exact er'
  rw [f_L_asks_J761, er]
  rw [eq_b2, d1, eq_grd, er2, eq_b4, d2, eq_grd, if_pos a1]
  rw [show f_L_one r'.2.2.1 5 (iN s) = _ from b2, eq_b2, d3, eq_grd, if_pos (show (iN ((frg (gr M) (cM M s) (evn M s)).1 0), K2).1 = r.1 from r1.symm)]
  rw [r1, show f_L_two (iN ((frg (gr M) (cM M s) (evn M s)).1 0), K2).2 6 (iN s) (iN ((frg (gr M) (cM M s) (evn M s)).1 0)) = _ from b3, eq_b2, d4, eq_grd, if_pos rfl]
  rw [show f_X10_reads ((-1001 : Int32), K3).2 = _ from b4, eq_b1, if_pos e53, g8, eq_grd, e8']
  rw [show iN (evn M s) + (1 : Int32) = iN (evn M s + 1) from iN_add _ 1]
  rw [show f_L_more ((-1001 : Int32), K3).2 1 (iN s) 0 (iN (evn M s + 1)) 0 = _ from b5, eq_b2, d5, eq_grd, if_pos rfl]
  exact ⟨_, rfl, rfl, h3, rfl, rfl⟩
theorem L_ask690 {K : Nat → Ob} {M : Ob} {j : Nat} (hR : RI j K M) {c w u x l f v t g q nr h p k n6 : Rw} {y : Cy} {s n0 N : Nat} {v24 : Int32} (hW0 : LW0 c w u x M) (hd : ¬ due M s) (hs : s < 2) (h5 : c 5 = M 53 0) (hx : LCh y (gr M) (cM M s) n0) (hW : WCh (gr M) (cM M s)) (hN : N + 72 ≤ 4750) (hz : ZF n6 (fM M s)) (hv : (wI (gr M) (cM M s) (evn M s) = none ∧ v24 = nM) ∨ ∃ i d, wI (gr M) (cM M s) (evn M s) = some i ∧ v24 = iN d ∧ d < n0 ∧ LT y (gr M) (wT (cM M s) (evn M s) i) d) :
    wp (f_L_asks_J690 K c w u x l f v t g q nr h p k (ye y) (yj y) (ya y) (yb y) (ym y) n6 N (iN s) (iN (mn (fM M s))) v24) (fun z => z.1 = 1 ∧ RI j z.2.1 M ∧ z.2.2.1 = c ∧ z.2.2.2.2.2.2 = h) := by
  have h64 := hx.2.1
  obtain ⟨r, er, r1, r2, r3⟩ := L_ask693 (c := c) (w := w) (u := u) (x := x) (l := l) (f := f) (v := v) (t := t) (g := g) (q := q) (nr := nr) (h := h) (p := p) (k := k) (n1 := ye y) (n2 := yj y) (n3 := ya y) (n4 := yb y) (n5 := ym y) (n6 := n6) (N0 := N) (v24 := v24) hR hd hs hz (by omega)
  have er' : f_L_asks_L693 400 K c w u x l f v t g q nr h p k (ye y) (yj y) (ya y) (yb y) (ym y) n6 N (iN s) (iN (mn (fM M s))) v24 0 = some r := er
  have d1 : decide (r.2.2.2 ≤ 4750) = true := decide_eq_true (by omega)
  rw [f_L_asks_J690, er', eq_b4, d1, eq_grd, if_pos r1]
  rcases hv with ⟨h0, rfl⟩ | ⟨i, d, h0, rfl, hd0, -⟩
  · rw [if_pos (show nM < 0 by decide)]
    exact L_ask761 r2 hW0 hd hs h5 hx hW (by omega) (Or.inl rfl)
  · rw [if_neg (show ¬ (iN d < 0) from by rw [show (0 : Int32) = iN 0 from rfl, iN_lt (by omega) (by omega)]; omega)]
    exact L_ask761 r2 hW0 hd hs h5 hx hW (by omega) (Or.inr ⟨rfl, i, h0⟩)
theorem L_ask425 {K : Nat → Ob} {M : Ob} {j : Nat} (hR : RI j K M) {c w u x l f v t g q nr h p k n6 : Rw} {y : Cy} {s n0 N : Nat} {v24 : Int32} {ch' : Ch} (hW0 : LW0 c w u x M) (hX : LG g q nr (gr M)) (hd : ¬ due M s) (hs : s < 2) (h5 : c 5 = M 53 0) (h7 : ok7 c) (hch : c 7 = iN 0 → ch' = cM M s) (hx : LCh y (gr M) ch' n0) (hW : WCh (gr M) ch') (hN : N + 650 ≤ 4750) (hv : (wI (gr M) ch' (evn M s) = none ∧ v24 = nM) ∨ ∃ i d, wI (gr M) ch' (evn M s) = some i ∧ v24 = iN d ∧ d < n0 ∧ LT y (gr M) (wT ch' (evn M s) i) d) :
    wp (f_L_asks_J425 K c w u x l f v t g q nr h p k (ye y) (yj y) (ya y) (yb y) (ym y) n6 N (iN s) v24) (fun z => z.1 = 1 ∧ RI j z.2.1 M ∧ z.2.2.1 = c ∧ z.2.2.2.2.2.2 = h) := by
  have hs4 : s < 4 := by omega
  obtain ⟨n3, e8, -, -⟩ := LX_t hW0.2.2.2 hs
  have e7 : (7 : Int32).toNatClampNeg = 7 := by decide
  rw [f_L_asks_J425, e7]
  rcases h7 with h7 | h7
  · have ech := hch h7
    subst ech
    rw [if_neg (show ¬ (c 7 = 1) from by rw [h7]; decide)]
    obtain ⟨r, er, r1, r2, r3⟩ := L_ask438 (c := c) (w := w) (u := u) (x := x) (l := l) (f := f) (v := v) (t := t) (g := g) (q := q) (nr := nr) (h := h) (p := p) (k := k) (n6 := n6) (N0 := N) (v24 := v24) hR hd hs e8 n3 hx hW (by omega)
    have er' : f_L_asks_L438 400 K c w u x l f v t g q nr h p k (ye y) (yj y) (ya y) (yb y) (ym y) n6 N (iN s) v24 1 = some r := er
    obtain ⟨rf, erf, f1, f2⟩ := L_faults (z := n6) hX hR.1.2.2.2 hW hx.2.1 hv n3
    have d1 : decide (r.2.2.2 ≤ 4750) = true := decide_eq_true (by omega)
    have d2 : decide (r.2.2.2 + 500 ≤ 4750) = true := decide_eq_true (by omega)
    have d3 : decide (r.2.2.2 + 500 + 1 ≤ 4750) = true := decide_eq_true (by omega)
    have d4 : decide (r.2.2.2 + 500 + 1 + 1 ≤ 4750) = true := decide_eq_true (by omega)
    rw [er', eq_b4, d1, eq_grd, if_pos r1, erf, eq_b2, d2, eq_grd, f1]
    have hmn : mn (fM M s) ≤ 64 ∧ (mn (fM M s) < 64 → mn (fM M s) = (fM M s).length) := by
      unfold mn
      by_cases h : (fM M s).length < 64
      · rw [if_pos h]; exact ⟨by omega, fun _ => rfl⟩
      · rw [if_neg h]; exact ⟨Nat.le_refl _, fun h => absurd h (by omega)⟩
    have e64 : ((64 : Int32) ≤ iN (mn (fM M s))) ↔ 64 ≤ mn (fM M s) := by
      rw [show (64 : Int32) = iN 64 from rfl, iN_le (by omega) (by omega)]
    by_cases h64 : 64 ≤ mn (fM M s)
    · rw [if_pos (e64.2 h64)]
      exact L_ask690 r2 hW0 hd hs h5 hx hW (by omega) f2 hv
    · rw [if_neg (fun hh => h64 (e64.1 hh))]
      have hlen := hmn.2 (by omega)
      obtain ⟨K2, b2, h2⟩ := an_faults r2 hs4 hd
      obtain ⟨K3, rr, b3, h3, hrr⟩ := an_fault h2 (i := (fM M s).length) hs4 hd (Nat.le_refl _)
      rw [if_neg (Nat.lt_irrefl _)] at hrr
      rw [show f_L_one r.2.2.1 4 (iN s) = _ from b2, eq_b2, d3, eq_grd, if_pos (show (iN (fM M s).length, K2).1 = iN (mn (fM M s)) from by rw [hlen])]
      rw [← hlen] at b3
      rw [show f_L_two (iN (fM M s).length, K2).2 5 (iN s) (iN (mn (fM M s))) = _ from b3, eq_b2, d4, eq_grd, if_pos hrr]
      exact L_ask690 h3 hW0 hd hs h5 hx hW (by omega) f2 hv
  · rw [if_pos (show c 7 = 1 from h7)]
    exact ⟨_, rfl, rfl, hR, rfl, rfl⟩
theorem LW0_c {c c' w u x : Rw} {M : Ob} (h0 : c' 0 = c 0) (h8 : ∀ s, s < 2 → c' (8 + s) = c (8 + s)) (h : LW0 c w u x M) : LW0 c' w u x M := by
  obtain ⟨a, b, c1, d⟩ := h
  refine ⟨a, b, ?_, ?_⟩
  · unfold LXw at c1 ⊢
    rw [h0]; exact c1
  · obtain ⟨d1, d2⟩ := d
    exact ⟨fun s hs => by rw [h8 s hs]; exact d1 s hs, d2⟩
theorem LW0_cg {c w u x : Rw} {M y : Ob} (hc : cor M y) (h : LW0 c w u x M) : LW0 c w u x y := by
  obtain ⟨a, b, c1, d⟩ := h
  have e : ∀ k, k < 11 → y k = M k := fun k hk => hc k (Or.inl hk)
  refine ⟨WLex_cg (fun k hk => e k (by omega)) a, WTxt_cg e b, ?_, ?_⟩
  · unfold LXw cdM cdG at c1 ⊢
    rw [e 0 (by omega), e 1 (by omega), e 2 (by omega), e 4 (by omega), e 5 (by omega), e 6 (by omega), e 7 (by omega), e 8 (by omega)]
    exact c1
  · unfold LXt at d ⊢
    rw [e 9 (by omega), e 10 (by omega)]
    exact d
theorem L_ask279 {K : Nat → Ob} {M : Ob} {j : Nat} (hR : RI j K M) {c w u x l f v t g q nr h p k n1 n2 n3 n4 n5 n6 : Rw} {s N np : Nat} (hW0 : LW0 c w u x M) (hX : LB2 c g q nr (gr M)) (hh : LXh c h M) (hL : LK l f v M) (hs : s < 2) (e59 : M 59 0 = iN np) (hnp : np ≤ 12) (hN : N + 4700 ≤ 4750) :
    wp (f_L_asks_J279 K c w u x l f v t g q nr h p k n1 n2 n3 n4 n5 n6 N (iN s) (iN (FLS M (evS M s) (Lk (sr M) M s) (evw M s) np (evn M s)).length)) (fun z => z.1 = 1 ∧ ∃ y, MN M y s ∧ RI j z.2.1 y ∧ LXh z.2.2.1 z.2.2.2.2.2.2 y ∧ ∀ i, i ≠ 5 → i ≠ 6 → i ≠ 7 → z.2.2.1 i = c i) := by
  have hs4 : s < 4 := by omega
  obtain ⟨n3', e8, -, -⟩ := LX_t hW0.2.2.2 hs
  obtain ⟨K1, b1, h1⟩ := an_sty hR hs4 e59 hnp (Nat.le_refl _)
  rw [if_neg (Nat.lt_irrefl _)] at b1
  have b2 := an_reads h1
  have hl := hL.1 s hs
  have hgv : ∀ p, gvM (sr M) M s p < 16 := fun p => gvM_lt _ _ _ _
  have hv : ∀ p, p < evn M s → v (2 * (3 * s + p)) = iN (gvM (sr M) M s p % 4) ∧ v (2 * (3 * s + p) + 1) = iN (gvM (sr M) M s p / 4) := fun p hp => (hL.2 s hs p hp).2
  obtain ⟨Z, eZ, ⟨ch', n', k1, k2, k3, k4⟩, k5⟩ := wp_wl (L_chart (e := n1) (j := n2) (a := n3) (b := n4) (m := n5) hX hW0 hs hl.1 hl.2 hgv hv) W_chart
  obtain ⟨K2, y, b3, hMN, hI, hnd, hWc⟩ := an_cost h1 hs4
  have m1 := hMN.1
  have ecM : cM y s = cM M s := cM_cg m1 s
  -- the rows behind the chart
  have hhZ : LXh Z.1 h M := by
    obtain ⟨x1, x2, x3⟩ := hh
    have kz : ∀ k, k ≠ 6 → k ≠ 7 → Z.1 k = c k := k3
    refine ⟨by rw [kz 4 (by omega) (by omega)]; exact x1, by rw [kz 5 (by omega) (by omega)]; exact x2, fun t ht => ?_⟩
    obtain ⟨a1, a2, a3, a4⟩ := x3 t ht
    exact ⟨by rw [kz (10 + t) (by omega) (by omega)]; exact a1, a2, a3, a4⟩
  have kz : ∀ k, k ≠ 6 → k ≠ 7 → Z.1 k = c k := k3
  have hWZ : LW0 Z.1 w u x M := LW0_c (kz 0 (by omega) (by omega)) (fun t ht => kz (8 + t) (by omega) (by omega)) hW0
  obtain ⟨zr, ezr, q1, q2⟩ := L_reads hhZ hWZ hs hMN hv
  have kr : ∀ k, k ≠ 5 → k ≠ 6 → k ≠ 7 → zr.1 k = c k := fun k h1 h2 h3 => by rw [q2 k h1, kz k h2 h3]
  have hoY : oldL n' Z ((zr.1, Z.2.1, Z.2.2.1, Z.2.2.2.1, Z.2.2.2.2.1, Z.2.2.2.2.2) : Cy) := fun i hi => ⟨rfl, rfl, rfl⟩
  have k1' : LCh ((zr.1, Z.2.1, Z.2.2.1, Z.2.2.2.1, Z.2.2.2.2.1, Z.2.2.2.2.2) : Cy) (gr M) ch' n' := by
    refine ⟨?_, k1.2.1, fun b0 w0 h1 h2 => ⟨(k1.2.2 b0 w0 h1 h2).1, fun i hi => ?_⟩⟩
    · show zr.1 6 = iN n'
      rw [q2 6 (by omega)]; exact k1.1
    · obtain ⟨d, hd, ed, hT⟩ := (k1.2.2 b0 w0 h1 h2).2 i hi
      exact ⟨d, hd, ed, LT_mono hoY _ _ hd hT⟩
  have e8r : zr.1 (8 + s) = iN (evn M s) := by rw [kr _ (by omega) (by omega) (by omega)]; exact e8
  obtain ⟨rw8, erw, hrw⟩ := L_whole (y := ((zr.1, Z.2.1, Z.2.2.1, Z.2.2.2.1, Z.2.2.2.2.1, Z.2.2.2.2.2) : Cy)) hR.1.2.2.2 k1' k2 hs e8r n3'
  have erw' : f_L_whole zr.1 Z.2.1 Z.2.2.1 Z.2.2.2.2.1 Z.2.2.2.2.2 (iN s) = some rw8 := erw
  have b4 := an_reads hI
  have eb2 : M 53 0 = c (5 : Int32).toNatClampNeg := by rw [← hh.2.1]; rfl
  have eb4 : y 53 0 = zr.1 (5 : Int32).toNatClampNeg := by rw [← q1.2.1]; rfl
  have d1 : decide (N + 1 ≤ 4750) = true := decide_eq_true (by omega)
  have d2 : decide (N + 1 + 4000 ≤ 4750) = true := decide_eq_true (by omega)
  have d3 : decide (N + 1 + 4000 + 1 ≤ 4750) = true := decide_eq_true (by omega)
  have d4 : decide (N + 1 + 4000 + 1 + 1 ≤ 4750) = true := decide_eq_true (by omega)
  have e7 : (7 : Int32).toNatClampNeg = 7 := by decide
  -- with the ghost behind the reading
  have hW0y : LW0 zr.1 w u x y := LW0_cg m1 (LW0_c (kr 0 (by omega) (by omega) (by omega)) (fun t ht => kr (8 + t) (by omega) (by omega) (by omega)) hW0)
  have hXy : LG g q nr (gr y) := by rw [gr_cg m1]; exact hX.1
  have ok : ok7 zr.1 := by
    unfold ok7
    rw [q2 7 (by omega)]; exact k5
  have hchy : zr.1 7 = iN 0 → ch' = cM y s := by
    intro h0
    rw [q2 7 (by omega)] at h0
    rw [ecM]; exact k4 h0
  have key : ∀ K3 N3, RI j K3 y → N3 + 650 ≤ 4750 → wp (f_L_asks_J425 K3 zr.1 w u x l f v t g q nr zr.2 p k Z.2.1 Z.2.2.1 Z.2.2.2.1 Z.2.2.2.2.1 Z.2.2.2.2.2 n6 N3 (iN s) rw8) (fun z => z.1 = 1 ∧ ∃ y, MN M y s ∧ RI j z.2.1 y ∧ LXh z.2.2.1 z.2.2.2.2.2.2 y ∧ ∀ i, i ≠ 5 → i ≠ 6 → i ≠ 7 → z.2.2.1 i = c i) := by
    intro K3 N3 hK3 hN3
    have hk1 : LCh ((zr.1, Z.2.1, Z.2.2.1, Z.2.2.2.1, Z.2.2.2.2.1, Z.2.2.2.2.2) : Cy) (gr y) ch' n' := by rw [gr_cg m1]; exact k1'
    have hk2 : WCh (gr y) ch' := by rw [gr_cg m1]; exact k2
    have hv2 : (wI (gr y) ch' (evn y s) = none ∧ rw8 = nM) ∨ ∃ i d, wI (gr y) ch' (evn y s) = some i ∧ rw8 = iN d ∧ d < n' ∧ LT ((zr.1, Z.2.1, Z.2.2.1, Z.2.2.2.1, Z.2.2.2.2.1, Z.2.2.2.2.2) : Cy) (gr y) (wT ch' (evn y s) i) d := by rw [gr_cg m1, evn_cg m1]; exact hrw
    have := L_ask425 (y := ((zr.1, Z.2.1, Z.2.2.1, Z.2.2.2.1, Z.2.2.2.2.1, Z.2.2.2.2.2) : Cy)) (c := zr.1) (l := l) (f := f) (v := v) (t := t) (h := zr.2) (p := p) (k := k) (n6 := n6) (N := N3) hK3 hW0y hXy hnd hs q1.2.1 ok hchy hk1 hk2 hN3 hv2
    refine wp_mono this ?_
    rintro z ⟨a1, a2, a3, a4⟩
    exact ⟨a1, y, hMN, a2, by rw [a3, a4]; exact q1, fun i h5 h6 h7 => by rw [a3]; exact kr i h5 h6 h7⟩
  have J408 : ∀ vv, zr.1 7 = iN 0 → vv = wK (gr M) (cM M s) (evn M s) → wp (f_L_asks_J408 K2 zr.1 w u x l f v t g q nr zr.2 p k Z.2.1 Z.2.2.1 Z.2.2.2.1 Z.2.2.2.2.1 Z.2.2.2.2.2 n6 (N + 1 + 4000 + 1) (iN s) rw8 (wK (gr M) (cM M s) (evn M s)) (wK (gr M) (cM M s) (evn M s)) vv) (fun z => z.1 = 1 ∧ ∃ y, MN M y s ∧ RI j z.2.1 y ∧ LXh z.2.2.1 z.2.2.2.2.2.2 y ∧ ∀ i, i ≠ 5 → i ≠ 6 → i ≠ 7 → z.2.2.1 i = c i) := by
    intro vv h0 hvv
    obtain ⟨K3, b5, h3⟩ := an_costAnew hI hs4 hnd
    rw [ecM, gr_cg m1, evn_cg m1] at b5
    rw [f_L_asks_J408, if_pos hvv.symm, show f_L_one K2 3 (iN s) = _ from b5, eq_b2, d4, eq_grd, if_pos rfl]
    exact key K3 _ h3 (by omega)
  rw [f_L_asks_J279, show f_L_two K 8 (iN s) _ = _ from b1, eq_b2, d1, eq_grd, if_pos rfl]
  rw [show f_X10_reads ((-1001 : Int32), K1).2 = _ from b2, eq_b1, if_pos eb2, eZ, eq_b6, d2, eq_grd, ezr, eq_b2]
  rw [show f_L_whole zr.1 _ _ _ _ (iN s) = _ from erw', eq_b1]
  rw [show f_L_one ((-1001 : Int32), K1).2 2 (iN s) = _ from b3, eq_b2, d3, eq_grd]
  rw [show f_X10_reads (wK (gr M) (cM M s) (evn M s), K2).2 = _ from b4, eq_b1, if_pos eb4, e7]
  by_cases h0 : zr.1 7 = iN 0
  · rw [if_pos (show zr.1 7 = 0 from h0)]
    have ech : ch' = cM M s := by rw [← ecM]; exact hchy h0
    rcases hrw with ⟨w1, rfl⟩ | ⟨i, d, w1, rfl, hd, hT⟩
    · rw [if_neg (show ¬ ((0 : Int32) ≤ nM) by decide)]
      refine J408 _ h0 ?_
      rw [ech] at w1
      unfold wK
      rw [w1]; rfl
    · have h64 := k1.2.1
      rw [if_pos (show (0 : Int32) ≤ iN d from by rw [show (0 : Int32) = iN 0 from rfl, iN_le (by omega) (by omega)]; omega), gd_iN (by omega), decide_eq_true (show d < 64 by omega), eq_grd, iN_c (by omega)]
      refine J408 _ h0 ?_
      have t2 : Z.2.2.1 d = tK (gr M) (wT ch' (evn M s) i) := (LT_2 hT).2
      rw [ech] at w1
      rw [t2, ech]
      unfold wK
      rw [w1]
  · rw [if_neg (show ¬ (zr.1 7 = 0) from h0)]
    exact key K2 _ hI (by omega)
