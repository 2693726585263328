/-! The law asks, and says yes. -/
theorem LX_read {c c' w u x t g q nr h h' p k : Rw} {M y : Ob} {s : Nat} (hX : LX c w u x t g q nr h p k M) (hE : WLex M) (hT : WTxt M) (hc : cor M y) (h59 : ∀ k, 59 ≤ k → y k = M k) (hh : LXh c' h' y) (hk : ∀ i, i ≠ 5 → i ≠ 6 → i ≠ 7 → c' i = c i) : LX c' w u x t g q nr h' p k y := by
  obtain ⟨x1, x2, x3, x4, x5, x6⟩ := hX
  obtain ⟨-, -, w1, w2⟩ := LW0_cg hc (LW0_c (hk 0 (by omega) (by omega) (by omega)) (fun t ht => hk (8 + t) (by omega) (by omega) (by omega)) (⟨hE, hT, x1, x2⟩ : LW0 c w u x M))
  have e : ∀ k, 15 ≤ k → k ≤ 30 → y k = M k := fun k h1 h2 => hc k (Or.inr ⟨h1, h2⟩)
  refine ⟨w1, w2, ?_, ?_, ?_, hh⟩
  · unfold LXs at x3 ⊢
    rw [hk 1 (by omega) (by omega) (by omega), e 15 (by omega) (by omega), e 16 (by omega) (by omega), e 17 (by omega) (by omega), e 18 (by omega) (by omega), e 19 (by omega) (by omega), e 20 (by omega) (by omega)]
    exact x3
  · unfold LXg at x4 ⊢
    rw [hk 2 (by omega) (by omega) (by omega), e 21 (by omega) (by omega), e 22 (by omega) (by omega), e 23 (by omega) (by omega), e 24 (by omega) (by omega), e 26 (by omega) (by omega), e 27 (by omega) (by omega), e 28 (by omega) (by omega), e 29 (by omega) (by omega), e 30 (by omega) (by omega)]
    exact x4
  · unfold LXp at x5 ⊢
    rw [hk 3 (by omega) (by omega) (by omega), h59 59 (by omega), h59 60 (by omega), h59 61 (by omega), h59 62 (by omega), h59 63 (by omega), h59 64 (by omega), h59 65 (by omega)]
    exact x5
theorem LXe_cg {M y : Ob} (hc : cor M y) (h : LXe M) : LXe y := by
  have e : ∀ k, 15 ≤ k → k ≤ 30 → y k = M k := fun k h1 h2 => hc k (Or.inr ⟨h1, h2⟩)
  unfold LXe
  rw [e 15 (by omega) (by omega), e 16 (by omega) (by omega), e 20 (by omega) (by omega)]
  exact h
theorem L_asks {K : Nat → Ob} {M : Ob} {j : Nat} (hR : RI j K M) {c w u x l f v t g q nr h p k : Rw} (hX : LX c w u x t g q nr h p k M) (he : LXe M) (p2 : Int32) :
    wp (f_L_asks K c w u x l f v t g q nr h p k p2) (fun z => z.1 = 1 ∧ ∃ y, RI j z.2.1 y ∧ LX z.2.2.1 w u x t g q nr z.2.2.2.2.2.2 p k y ∧ LXe y) := by
  obtain ⟨x1, x2, x3, x4, x5, x6⟩ := id hX
  have hW0 : LW0 c w u x M := ⟨hR.1.1, hR.1.2.1, x1, x2⟩
  obtain ⟨s, hs, es⟩ := some_lt p2 (show 0 < 2 by decide) (show 2 < 2147483648 by decide)
  have hs4 : s < 4 := by omega
  obtain ⟨n3, e8, -, -⟩ := LX_t x2 hs
  obtain ⟨np, hnp, e59, -⟩ := RI_pat hR
  have enp : nn (M 59 0) = np := by rw [e59, nn, iN_c (by omega)]
  have hnp6 : np ≤ 6 := by
    obtain ⟨m, hm, -, e, -⟩ := id x5
    rw [e, iN_eq (by omega) (by omega)] at e59
    omega
  have h63 : ∀ k, k < np → M 63 k = nM ∨ ∃ b, b < k ∧ M 63 k = iN b := fun k hk => (hR.2.1.2.2.2.2.2.2.1 k (by rw [enp]; exact hk)).2.2.2.2
  obtain ⟨L, eL, hL⟩ := L_looks (l := l) (f := f) (v := v) (LX_TS hR.1.2.2.1 x3 he) hW0
  obtain ⟨r, er, a1, a2, a3⟩ := L_ask63 (c := c) (w := w) (u := u) (x := x) (t := t) (g := g) (q := q) (nr := nr) (h := h) (p := p) (k := k) (n1 := fun _ => 0) (n2 := fun _ => 0) (n3 := fun _ => 0) (n4 := fun _ => 0) (n5 := fun _ => 0) (n6 := fun _ => 0) (N0 := 20) hR x2 hL hs (by omega)
  obtain ⟨S, eS, s1, s2⟩ := L_style (z := fun _ => 0) hW0 x5 h63 enp hs (hL.1 s hs).1 (hL.1 s hs).2
  have b1 := an_len a2 hs4
  obtain ⟨K2, b2, h2⟩ := an_stys a2 hs4 e59 hnp
  have hlen := FLS_len (M := M) (E := evS M s) (L := Lk (sr M) M s) (wd := evw M s) (n := np) (evn M s)
  have hmul : np * evn M s ≤ 6 * 3 := Nat.mul_le_mul hnp6 n3
  have hLB := LX_LG x4 hR.1.2.2.2
  have d0 : decide (r.2.2.2 ≤ 4750) = true := decide_eq_true (by omega)
  have d1 : decide (r.2.2.2 + 1 ≤ 4750) = true := decide_eq_true (by omega)
  have d2 : decide (r.2.2.2 + 1 + 1 ≤ 4750) = true := decide_eq_true (by omega)
  have d3 : decide (r.2.2.2 + 1 + 1 + 1 ≤ 4750) = true := decide_eq_true (by omega)
  have es' : f_L_some p2 2 = some (iN s) := es
  have er' : f_L_asks_L63 400 K c w u x L.1 L.2.1 L.2.2 t g q nr h p k (fun _ => 0) (fun _ => 0) (fun _ => 0) (fun _ => 0) (fun _ => 0) (fun _ => 0) 20 (iN s) 0 = some r := er
  have e8' : c ((8 : Int32) + iN s).toNatClampNeg = iN (evn M s) := by
    rw [show (8 : Int32) + iN s = iN (8 + s) from iN_add 8 s, iN_c (by omega)]; exact e8
  have g8 : gd ((8 : Int32) + iN s) 12 = true := by
    rw [show (8 : Int32) + iN s = iN (8 + s) from iN_add 8 s, gd_iN (by omega)]; exact decide_eq_true (by omega)
  have fin : ∀ K3 N3 n1 n2 n3 n4 n5 n6, RI j K3 M → N3 + 4700 ≤ 4750 → wp (f_L_asks_J279 K3 c w u x L.1 L.2.1 L.2.2 t g q nr h p k n1 n2 n3 n4 n5 n6 N3 (iN s) (iN (FLS M (evS M s) (Lk (sr M) M s) (evw M s) np (evn M s)).length)) (fun z => z.1 = 1 ∧ ∃ y, RI j z.2.1 y ∧ LX z.2.2.1 w u x t g q nr z.2.2.2.2.2.2 p k y ∧ LXe y) := by
    intro K3 N3 n1 n2 n3 n4 n5 n6 hK3 hN3
    refine wp_mono (L_ask279 (N := N3) (p := p) (k := k) (t := t) hK3 hW0 hLB x6 hL hs e59 hnp hN3) ?_
    rintro z ⟨z1, y, z2, z3, z4, z5⟩
    exact ⟨z1, y, z3, LX_read (s := s) hX hR.1.1 hR.1.2.1 z2.1 z2.2.1 z4 z5, LXe_cg z2.1 he⟩
  rw [f_L_asks, eq_lb, eq_lb, eq_lb, eq_lb, eq_lb, eq_lb, es', eq_b1, eL, eq_b3, er', eq_b4, d0, eq_grd, if_pos a1, eS, eq_b2]
  rw [show f_L_one r.2.2.1 1 (iN s) = _ from b1, eq_b2, d1, eq_grd, g8, eq_grd, if_pos e8'.symm]
  rw [show f_L_one (iN (evn M s), r.2.2.1).2 8 (iN s) = _ from b2, eq_b2, d2, eq_grd, if_pos s1.symm, s1]
  by_cases hz : (FLS M (evS M s) (Lk (sr M) M s) (evw M s) np (evn M s)).length = 0
  · rw [if_pos (show iN (FLS M (evS M s) (Lk (sr M) M s) (evw M s) np (evn M s)).length ≤ 0 from by rw [hz]; decide)]
    exact fin K2 _ _ _ _ _ _ _ h2 (by omega)
  · rw [if_neg (show ¬ (iN (FLS M (evS M s) (Lk (sr M) M s) (evw M s) np (evn M s)).length ≤ 0) from by rw [show (0 : Int32) = iN 0 from rfl, iN_le (by omega) (by omega)]; omega)]
    obtain ⟨K3, b3, h3⟩ := an_sty h2 (i := (FLS M (evS M s) (Lk (sr M) M s) (evw M s) np (evn M s)).length - 1) hs4 e59 hnp (by omega)
    rw [if_pos (by omega)] at b3
    have hz2 := s2 ((FLS M (evS M s) (Lk (sr M) M s) (evw M s) np (evn M s)).length - 1) (by omega)
    have e1 : iN (FLS M (evS M s) (Lk (sr M) M s) (evw M s) np (evn M s)).length - (1 : Int32) = iN ((FLS M (evS M s) (Lk (sr M) M s) (evw M s) np (evn M s)).length - 1) := iN_sub (b := 1) (by omega)
    rw [e1]
    rw [show f_L_two (iN (FLS M (evS M s) (Lk (sr M) M s) (evw M s) np (evn M s)).length, K2).2 8 (iN s) _ = _ from b3, eq_b2, d3, eq_grd, gd_iN (by omega), decide_eq_true (show (FLS M (evS M s) (Lk (sr M) M s) (evw M s) np (evn M s)).length - 1 < 64 by omega), eq_grd, iN_c (by omega), if_pos hz2.symm]
    exact fin K3 _ _ _ _ _ _ _ h3 (by omega)
