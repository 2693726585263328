def M9g (N : Ob) (e b c a f d : Nat) : Ob := upo (upo (upo (upo (upo (upo N 7 (4 * e + b) (iN c)) 8 (3 * (4 * e + b)) (iN a)) 8 (3 * (4 * e + b) + 1) (iN f)) 8 (3 * (4 * e + b) + 2) (iN d)) 6 e (iN (b + 1))) 52 0 (N 52 0 + iN 1)
theorem M9g_o {N : Ob} {e b c a f d : Nat} (k : Nat) (h : k ≠ 6 ∧ k ≠ 7 ∧ k ≠ 8 ∧ k ≠ 52) : M9g N e b c a f d k = N k := by
  obtain ⟨k2, k3, k4, k52⟩ := h
  unfold M9g
  rw [upo_ne k52, upo_ne k2, upo_ne k4, upo_ne k4, upo_ne k4, upo_ne k3]
theorem M9g_6 {N : Ob} {e b c a f d : Nat} (i : Nat) : M9g N e b c a f d 6 i = if i = e then iN (b + 1) else N 6 i := by
  unfold M9g
  rw [upo_ne (by decide), upo_ap, upo_ne (by decide), upo_ne (by decide), upo_ne (by decide), upo_ne (by decide)]
  simp only [true_and]
theorem M9g_7 {N : Ob} {e b c a f d : Nat} (i : Nat) : M9g N e b c a f d 7 i = if i = 4 * e + b then iN c else N 7 i := by
  unfold M9g
  rw [upo_ne (by decide), upo_ne (by decide), upo_ne (by decide), upo_ne (by decide), upo_ne (by decide), upo_ap]
  simp only [true_and]
theorem M9g_8 {N : Ob} {e b c a f d : Nat} (i : Nat) : M9g N e b c a f d 8 i = if i = 3 * (4 * e + b) + 2 then iN d else if i = 3 * (4 * e + b) + 1 then iN f else if i = 3 * (4 * e + b) then iN a else N 8 i := by
  unfold M9g
  rw [upo_ne (by decide), upo_ne (by decide), upo_ap, upo_ap, upo_ap, upo_ne (by decide)]
  simp only [true_and]
theorem M9g_52 {N : Ob} {e b c a f d : Nat} : M9g N e b c a f d 52 0 = N 52 0 + iN 1 := by
  unfold M9g; rw [up_s]
theorem M9g_WM {N : Ob} {e b c a f d : Nat} (hb : b < 4) (hc : c < 10) (ha : a < 4) (hf : f < 4) (hd : d < 4) (h : WM N) : sr (M9g N e b c a f d) = sr N ∧ gr (M9g N e b c a f d) = gr N ∧ WM (M9g N e b c a f d) := by
  have c0 := fun k h => M9g_o (N := N) (e := e) (b := b) (c := c) (a := a) (f := f) (d := d) k h
  have hcor : ∀ k, k = 9 ∨ k = 10 ∨ (15 ≤ k ∧ k ≤ 30) → M9g N e b c a f d k = N k := fun k hk => c0 k (by omega)
  have hsr : sr (M9g N e b c a f d) = sr N := by funext k; unfold sr; split; exact hcor k (by omega); rfl
  have hgr : gr (M9g N e b c a f d) = gr N := by funext k; unfold gr; split; exact hcor k (by omega); rfl
  refine ⟨hsr, hgr, ?_⟩
  obtain ⟨⟨l1, l2, l3, l4, l5, l6, l7, l8⟩, ht, hR, hG⟩ := h
  refine ⟨⟨by rw [c0 0 (by omega)]; exact l1, by rw [c0 1 (by omega)]; exact l2, by rw [c0 2 (by omega)]; exact l3, ?_, by rw [c0 5 (by omega)]; exact l5, ?_, by rw [c0 4 (by omega)]; exact l7, ?_⟩, ?_, ?_, by rw [hgr]; exact hG⟩
  · intro i hi
    rw [M9g_6]
    split
    · exact ⟨b + 1, by omega, rfl⟩
    · exact l4 i hi
  · intro i hi
    rw [M9g_8]
    split
    · exact ⟨d, by omega, rfl⟩
    · split
      · exact ⟨f, by omega, rfl⟩
      · split
        · exact ⟨a, by omega, rfl⟩
        · exact l6 i hi
  · intro i hi
    rw [M9g_7]
    split
    · exact ⟨c, by omega, rfl⟩
    · exact l8 i hi
  · intro s hs
    rw [hcor 9 (by omega), hcor 10 (by omega), c0 0 (by omega)]
    exact ht s hs
  · rw [hsr]
    exact ⟨hR.1, fun k k1 k2 => by rw [hcor k (by omega)]; exact hR.2.1 k k1 k2, hR.2.2⟩
theorem M9g_RX {N x : Ob} {e b c a f d : Nat} (he : e < 10) (hb : b < 4) (ha : a < 4) (hf : f < 4) (hd : d < 4) (h : QX3 x N) : QX3 (addX x (40 + e) b (iN 0) (iN c) (pk3 a f d)) (M9g N e b c a f d) := by
  obtain ⟨y0, y1, y2, y3, y4⟩ := h
  have c0 := fun k h => M9g_o (N := N) (e := e) (b := b) (c := c) (a := a) (f := f) (d := d) k h
  unfold QX3
  rw [c0 0 (by omega), c0 1 (by omega), c0 2 (by omega), c0 3 (by omega), c0 4 (by omega), c0 5 (by omega), addX_o 0 (by omega), addX_o 1 (by omega)]
  refine ⟨y0, ?_, ?_, ?_, ?_⟩
  · intro i hi
    rw [addX_2, if_neg (by omega)]
    exact y1 i hi
  · intro i hi
    rw [addX_2, M9g_6]
    by_cases h : i = e
    · rw [if_pos (by omega), if_pos h]
    · rw [if_neg (by omega), if_neg h]; exact y2 i hi
  · intro i hi
    rw [addX_3, addX_4, addX_5, if_neg (by omega), if_neg (by omega), if_neg (by omega)]
    exact y3 i hi
  · intro i hi
    rw [M9g_7, M9g_8, M9g_8, M9g_8, addX_4, addX_5]
    by_cases h : i = 4 * e + b
    · subst h
      rw [if_pos (by omega), if_pos rfl, if_pos (by omega), if_neg (by omega), if_neg (by omega), if_pos rfl, if_neg (by omega), if_pos rfl, if_pos rfl]
      refine ⟨rfl, ?_⟩
      rw [nn, nn, nn, iN_c (by omega), iN_c (by omega), iN_c (by omega)]
    · rw [if_neg (by omega), if_neg h, if_neg (by omega), if_neg (by omega), if_neg (by omega), if_neg (by omega), if_neg (by omega), if_neg (by omega), if_neg (by omega), if_neg (by omega), if_neg (by omega), if_neg (by omega)]
      exact y4 i hi
theorem J55_0 (x : Ob) (v p2 p3 p4 p5 b : Int32) : f_X11_guess_J55 x v p2 p3 p4 p5 (iN 0) b = some (0, upo x 67 0 (iN 1)) := by
  rw [f_X11_guess_J55, mB_0, eq_b2]; exact if_pos rfl
theorem J55_10 (x : Ob) (v p2 p3 p4 p5 : Int32) : f_X11_guess_J55 x v p2 p3 p4 p5 (iN 1) (iN 0) = some (0, upo x 67 0 (iN 2)) := by
  rw [f_X11_guess_J55, mB_10, eq_b2]; exact if_pos rfl
theorem J55_11 {M : Ob} {e b c a f d : Nat} (he : e < 10) (hb : b < 4) (e2 : M 6 e = iN b) :
    f_X11_guess_J55 M (iN e) (iN c) (iN a) (iN f) (iN d) (iN 1) (iN 1) = some (iN (b + 1), M9g (upo M 67 0 (iN 0)) e b c a f d) := by
  have n2 : upo M 67 0 (iN 0) 6 e = iN b := by rw [upo_ne (by decide)]; exact e2
  generalize hNe : upo M 67 0 (iN 0) = N at n2
  rw [f_X11_guess_J55, mB_11, eq_b2, hNe, if_neg (show ¬ ((iN 1, N).1 = 0) from (by decide : ¬ (iN 1 = 0)))]
  simp (disch := omega) only [eq_grd, eq_lb, eq_b1, eq_b2, eq_b3, eq_b4, eq_b5, ↓nM_lit, iN_lit, iN_add, iN_mul, iN_lt, iN_le, iN_eq, iN_c, gd_iN, iN_nM, nM_iN, iN_ltM, nM_lt, nM_le, iN_leM, iN_0M, nM_p1, iN_0s1, decide_true, decide_eq_true_eq, Nat.not_lt_zero, if_true, if_false, he, n2, show 4 * e + b < 40 by omega, show 3 * (4 * e + b) < 120 by omega, show 3 * (4 * e + b) + 1 < 120 by omega, show 3 * (4 * e + b) + 2 < 120 by omega, upo_ne, up_s, M9g]
theorem J30_0 (x : Ob) (v p2 p3 p4 p5 : Int32) : f_X11_guess_J30 x v p2 p3 p4 p5 (iN 0) = some (0, upo x 67 0 (iN 1)) := by
  rw [f_X11_guess_J30, if_pos (by rfl), f_X11_guess_J54, J55_0]
theorem J30_1 {x : Ob} {e b : Nat} (he : e < 10) (hb : b ≤ 4) (e2 : x 6 e = iN b) (p2 p3 p4 p5 : Int32) : f_X11_guess_J30 x (iN e) p2 p3 p4 p5 (iN 1) = if b = 4 then f_X11_guess_J55 x (iN e) p2 p3 p4 p5 (iN 1) (iN 0) else f_X11_guess_J55 x (iN e) p2 p3 p4 p5 (iN 1) (iN 1) := by
  rw [f_X11_guess_J30, if_neg (by decide), gd_iN (by omega), decide_eq_true he, eq_grd, iN_c (by omega), e2]
  by_cases h : b = 4
  · subst h
    rw [if_pos rfl, if_pos (by decide), f_X11_guess_J54]; rfl
  · rw [if_neg h, if_neg (show ¬ ((4 : Int32) ≤ iN b) from (by rw [iN_le (by decide) (by omega)]; omega : ¬ (iN 4 ≤ iN b))), iN_1]
theorem op_guess {j : Nat} {K : Nat → Ob} {M : Ob} (hj : j < 1000000) (h : RI j K M) (p1 p2 p3 p4 p5 : Int32) : Op_guess RI j K M p1 p2 p3 p4 p5 := by
  rcases in_or p1 (show 10 < 2147483648 by decide) with ⟨e, he, e1⟩ | hn
  · rcases in_or p2 (show 10 < 2147483648 by decide) with ⟨c, hc, e2⟩ | hn
    · rcases aF_or p3 p4 p5 with ⟨a, f, d, ha, hf, hd, e3, e4, e5, f1, f2⟩ | ⟨f1, f2⟩
      · obtain ⟨b, hb, eb⟩ := h.1.1.2.2.2.1 e he
        have kb : K 1 2 (40 + e) = iN b := by rw [h.2.1.1.2.2.1 e he]; exact eb
        have f2' : f_X11_guess M p1 p2 p3 p4 p5 = f_X11_guess_J30 M p1 p2 p3 p4 p5 (iN 1) := by
          subst e1; subst e2
          simp (disch := omega) only [f_X11_guess, isD_y he, isD_y hc, f2, eq_grd, eq_lb, eq_b1, eq_b2, eq_b3, eq_b4, eq_b5, ↓nM_lit, iN_lit, iN_add, iN_mul, iN_lt, iN_le, iN_eq, iN_c, gd_iN, iN_nM, nM_iN, iN_ltM, nM_lt, nM_le, iN_leM, iN_0M, nM_p1, iN_0s1, decide_true, decide_eq_true_eq, Nat.not_lt_zero, if_true, if_false, show ¬ (1 = 0) by decide, if_false]
        have f2'' := f2'
        rw [e1, J30_1 he hb eb] at f2'
        by_cases hb4 : b = 4
        · refine ⟨3, 0, K, 0, upo M 67 0 (iN 2), iN 2, ?_, ?_, congrArg some (u67 _ _), Or.inr (Or.inr ⟨rfl, rfl⟩), RI_j (RI_67 _ h)⟩
          · subst e1; subst e2
            simp (disch := omega) only [f_X10_guess, isB_y he (show 10 < 2147483648 by decide), isB_y hc (show 10 < 2147483648 by decide), f1, X3_full (show 40 + e < 50 by omega) kb hb4, eq_grd, eq_lb, eq_b1, eq_b2, eq_b3, eq_b4, eq_b5, ↓nM_lit, iN_lit, iN_add, iN_mul, iN_lt, iN_le, iN_eq, iN_c, gd_iN, iN_nM, nM_iN, iN_ltM, nM_lt, nM_le, iN_leM, iN_0M, nM_p1, iN_0s1, decide_true, decide_eq_true_eq, Nat.not_lt_zero, if_true, if_false, show ¬ (1 = 0) by decide, if_false, if_true]
          · rw [e1, f2', if_pos hb4, J55_10]
        · have hb3 : b < 4 := by omega
          have hN := RI_67 (iN 0) h
          obtain ⟨x1, x2⟩ := X3_addR (show 40 + e < 50 by omega) kb hb3 (iN 0) (iN c) (pk3 a f d)
          obtain ⟨hsr, hgr, hWM⟩ := M9g_WM (e := e) (b := b) hb3 hc ha hf hd hN.1
          have hx3 := M9g_RX (e := e) (b := b) (c := c) he hb3 ha hf hd hN.2.1.1
          have c0 := fun k h => M9g_o (N := upo M 67 0 (iN 0)) (e := e) (b := b) (c := c) (a := a) (f := f) (d := d) k h
          have c52 := M9g_52 (N := upo M 67 0 (iN 0)) (e := e) (b := b) (c := c) (a := a) (f := f) (d := d)
          have hcls : f_X11_guess M p1 p2 p3 p4 p5 = some (iN (b + 1), M9g (upo M 67 0 (iN 0)) e b c a f d) := by
            rw [e1, f2', if_neg hb4, e2, e3, e4, e5, J55_11 he hb3 eb]
          generalize M9g (upo M 67 0 (iN 0)) e b c a f d = M' at hcls hsr hgr hWM hx3 c0 c52
          have hRK : RK (va_up K 1 (addX (K 1) (40 + e) b (iN 0) (iN c) (pk3 a f d))) M' := by
            obtain ⟨-, h7, h2, hs5, h8⟩ := hN.2.1
            refine ⟨by rw [vu_eq]; exact hx3, by rw [vu_ne (by decide), hsr]; exact h7, by rw [vu_ne (by decide), hgr]; exact h2, by rw [vu_ne (by decide), hgr]; exact hs5, by rw [vu_ne (by decide)]; exact RX8_cg (fun k k1 k2 => c0 k (by omega)) h8⟩
          obtain ⟨K2, o1, o2⟩ := RI_out hj hN hWM hRK (fun i hi => vu_ne (by omega)) (c0 9 (by omega)) (c0 10 (by omega)) c52 (fun k k1 k2 => c0 k (by omega)) (ZE_cg (c0 21 (by omega)) (c0 26 (by omega)) hN.2.2.2.2.2)
          refine ⟨0, iN (b + 1), K2, iN (b + 1), M', iN 0, ?_, hcls, ?_, Or.inl ⟨rfl, rfl, rfl⟩, o2⟩
          · subst e1; subst e2; subst e3; subst e4; subst e5
            simp (disch := omega) only [f_X10_guess, isB_y he (show 10 < 2147483648 by decide), isB_y hc (show 10 < 2147483648 by decide), f1, x1, pack_iN ha hf hd, x2, eq_grd, eq_lb, eq_b1, eq_b2, eq_b3, eq_b4, eq_b5, ↓nM_lit, iN_lit, iN_add, iN_mul, iN_lt, iN_le, iN_eq, iN_c, gd_iN, iN_nM, nM_iN, iN_ltM, nM_lt, nM_le, iN_leM, iN_0M, nM_p1, iN_0s1, decide_true, decide_eq_true_eq, Nat.not_lt_zero, if_true, if_false, show ¬ (1 = 0) by decide, if_false, if_true, o1]
          · rw [f_X11_thrown, c0 67 (by omega), u67]
      · refine ⟨2, 0, K, 0, upo M 67 0 (iN 1), iN 1, ?_, ?_, congrArg some (u67 _ _), Or.inr (Or.inl ⟨rfl, rfl⟩), RI_j (RI_67 _ h)⟩
        · subst e1; subst e2
          simp (disch := omega) only [f_X10_guess, isB_y he (show 10 < 2147483648 by decide), isB_y hc (show 10 < 2147483648 by decide), f1, eq_grd, eq_lb, eq_b1, eq_b2, eq_b3, eq_b4, eq_b5, ↓nM_lit, iN_lit, iN_add, iN_mul, iN_lt, iN_le, iN_eq, iN_c, gd_iN, iN_nM, nM_iN, iN_ltM, nM_lt, nM_le, iN_leM, iN_0M, nM_p1, iN_0s1, decide_true, decide_eq_true_eq, Nat.not_lt_zero, if_true, if_false, show ¬ (1 = 0) by decide, if_false, if_true]
        · subst e1; subst e2
          simp (disch := omega) only [f_X11_guess, f_X11_guess_J29, isD_y he, isD_y hc, f2, J30_0, eq_grd, eq_lb, eq_b1, eq_b2, eq_b3, eq_b4, eq_b5, ↓nM_lit, iN_lit, iN_add, iN_mul, iN_lt, iN_le, iN_eq, iN_c, gd_iN, iN_nM, nM_iN, iN_ltM, nM_lt, nM_le, iN_leM, iN_0M, nM_p1, iN_0s1, decide_true, decide_eq_true_eq, Nat.not_lt_zero, if_true, if_false, show ¬ (1 = 0) by decide, if_false, if_true]
    · refine ⟨2, 0, K, 0, upo M 67 0 (iN 1), iN 1, ?_, ?_, congrArg some (u67 _ _), Or.inr (Or.inl ⟨rfl, rfl⟩), RI_j (RI_67 _ h)⟩
      · subst e1
        simp (disch := omega) only [f_X10_guess, isB_y he (show 10 < 2147483648 by decide), isB_n hn, eq_grd, eq_lb, eq_b1, eq_b2, eq_b3, eq_b4, eq_b5, ↓nM_lit, iN_lit, iN_add, iN_mul, iN_lt, iN_le, iN_eq, iN_c, gd_iN, iN_nM, nM_iN, iN_ltM, nM_lt, nM_le, iN_leM, iN_0M, nM_p1, iN_0s1, decide_true, decide_eq_true_eq, Nat.not_lt_zero, if_true, if_false, show ¬ (1 = 0) by decide, if_false, if_true]
      · subst e1
        simp (disch := omega) only [f_X11_guess, f_X11_guess_J29, isD_y he, isD_n hn, J30_0, eq_grd, eq_lb, eq_b1, eq_b2, eq_b3, eq_b4, eq_b5, ↓nM_lit, iN_lit, iN_add, iN_mul, iN_lt, iN_le, iN_eq, iN_c, gd_iN, iN_nM, nM_iN, iN_ltM, nM_lt, nM_le, iN_leM, iN_0M, nM_p1, iN_0s1, decide_true, decide_eq_true_eq, Nat.not_lt_zero, if_true, if_false, show ¬ (1 = 0) by decide, if_false, if_true]
  · refine ⟨2, 0, K, 0, upo M 67 0 (iN 1), iN 1, ?_, ?_, congrArg some (u67 _ _), Or.inr (Or.inl ⟨rfl, rfl⟩), RI_j (RI_67 _ h)⟩
    · simp (disch := omega) only [f_X10_guess, isB_n hn, eq_grd, eq_lb, eq_b1, eq_b2, eq_b3, eq_b4, eq_b5, ↓nM_lit, iN_lit, iN_add, iN_mul, iN_lt, iN_le, iN_eq, iN_c, gd_iN, iN_nM, nM_iN, iN_ltM, nM_lt, nM_le, iN_leM, iN_0M, nM_p1, iN_0s1, decide_true, decide_eq_true_eq, Nat.not_lt_zero, if_true, if_false, if_true]
    · simp (disch := omega) only [f_X11_guess, f_X11_guess_J29, isD_n hn, J30_0, eq_grd, eq_lb, eq_b1, eq_b2, eq_b3, eq_b4, eq_b5, ↓nM_lit, iN_lit, iN_add, iN_mul, iN_lt, iN_le, iN_eq, iN_c, gd_iN, iN_nM, nM_iN, iN_ltM, nM_lt, nM_le, iN_leM, iN_0M, nM_p1, iN_0s1, decide_true, decide_eq_true_eq, Nat.not_lt_zero, if_true, if_false, if_true]
