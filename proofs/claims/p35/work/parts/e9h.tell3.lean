/-! reading, guess. -/
def M9r (N : Ob) (w b l c a f d : Nat) : Ob := upo (upo (upo (upo (upo (upo (upo N 3 (4 * w + b) (iN l)) 4 (4 * w + b) (iN c)) 5 (3 * (4 * w + b)) (iN a)) 5 (3 * (4 * w + b) + 1) (iN f)) 5 (3 * (4 * w + b) + 2) (iN d)) 2 w (iN (b + 1))) 52 0 (N 52 0 + iN 1)
theorem M9r_o {N : Ob} {w b l c a f d : Nat} (k : Nat) (h : k ≠ 2 ∧ k ≠ 3 ∧ k ≠ 4 ∧ k ≠ 5 ∧ k ≠ 52) : M9r N w b l c a f d k = N k := by
  obtain ⟨k2, k3, k4, k5, k52⟩ := h
  unfold M9r
  rw [upo_ne k52, upo_ne k2, upo_ne k5, upo_ne k5, upo_ne k5, upo_ne k4, upo_ne k3]
theorem M9r_2 {N : Ob} {w b l c a f d : Nat} (i : Nat) : M9r N w b l c a f d 2 i = if i = w then iN (b + 1) else N 2 i := by
  unfold M9r
  rw [upo_ne (by decide), upo_ap, upo_ne (by decide), upo_ne (by decide), upo_ne (by decide), upo_ne (by decide), upo_ne (by decide)]
  simp only [true_and]
theorem M9r_3 {N : Ob} {w b l c a f d : Nat} (i : Nat) : M9r N w b l c a f d 3 i = if i = 4 * w + b then iN l else N 3 i := by
  unfold M9r
  rw [upo_ne (by decide), upo_ne (by decide), upo_ne (by decide), upo_ne (by decide), upo_ne (by decide), upo_ne (by decide), upo_ap]
  simp only [true_and]
theorem M9r_4 {N : Ob} {w b l c a f d : Nat} (i : Nat) : M9r N w b l c a f d 4 i = if i = 4 * w + b then iN c else N 4 i := by
  unfold M9r
  rw [upo_ne (by decide), upo_ne (by decide), upo_ne (by decide), upo_ne (by decide), upo_ne (by decide), upo_ap, upo_ne (by decide)]
  simp only [true_and]
theorem M9r_5 {N : Ob} {w b l c a f d : Nat} (i : Nat) : M9r N w b l c a f d 5 i = if i = 3 * (4 * w + b) + 2 then iN d else if i = 3 * (4 * w + b) + 1 then iN f else if i = 3 * (4 * w + b) then iN a else N 5 i := by
  unfold M9r
  rw [upo_ne (by decide), upo_ne (by decide), upo_ap, upo_ap, upo_ap, upo_ne (by decide), upo_ne (by decide)]
  simp only [true_and]
theorem M9r_52 {N : Ob} {w b l c a f d : Nat} : M9r N w b l c a f d 52 0 = N 52 0 + iN 1 := by
  unfold M9r; rw [up_s]
theorem J68_0 (x : Ob) (v p2 p3 p4 p5 p6 b c : Int32) : f_X11_reading_J68 x v p2 p3 p4 p5 p6 (iN 0) b c = some (0, upo x 67 0 (iN 1)) := by
  rw [f_X11_reading_J68, mA_0, eq_b2]; exact if_pos rfl
theorem J68_10 (x : Ob) (v p2 p3 p4 p5 p6 c : Int32) : f_X11_reading_J68 x v p2 p3 p4 p5 p6 (iN 1) (iN 0) c = some (0, upo x 67 0 (iN 2)) := by
  rw [f_X11_reading_J68, mA_10, eq_b2]; exact if_pos rfl
theorem J68_110 (x : Ob) (v p2 p3 p4 p5 p6 : Int32) : f_X11_reading_J68 x v p2 p3 p4 p5 p6 (iN 1) (iN 1) (iN 0) = some (0, upo x 67 0 (iN 3)) := by
  rw [f_X11_reading_J68, mA_110, eq_b2]; exact if_pos rfl
theorem J68_111 {M : Ob} {w b l c a f d : Nat} (hw : w < 40) (hb : b < 4) (e2 : M 2 w = iN b) :
    f_X11_reading_J68 M (iN w) (iN l) (iN c) (iN a) (iN f) (iN d) (iN 1) (iN 1) (iN 1) = some (iN (b + 1), M9r (upo M 67 0 (iN 0)) w b l c a f d) := by
  have n2 : upo M 67 0 (iN 0) 2 w = iN b := by rw [upo_ne (by decide)]; exact e2
  generalize hNe : upo M 67 0 (iN 0) = N at n2
  rw [f_X11_reading_J68, mA_111, eq_b2, hNe, if_neg (show ¬ ((iN 1, N).1 = 0) from (by decide : ¬ (iN 1 = 0)))]
  simp (disch := omega) only [eq_grd, eq_lb, eq_b1, eq_b2, eq_b3, eq_b4, eq_b5, ↓nM_lit, iN_lit, iN_add, iN_mul, iN_lt, iN_le, iN_eq, iN_c, gd_iN, iN_nM, nM_iN, iN_ltM, nM_lt, nM_le, iN_leM, iN_0M, nM_p1, iN_0s1, decide_true, decide_eq_true_eq, Nat.not_lt_zero, if_true, if_false, hw, n2, show 4 * w + b < 160 by omega, show 3 * (4 * w + b) < 480 by omega, show 3 * (4 * w + b) + 1 < 480 by omega, show 3 * (4 * w + b) + 2 < 480 by omega, upo_ne, up_s, M9r]
theorem J41_0 (x : Ob) (v p2 p3 p4 p5 p6 s0 : Int32) : f_X11_reading_J41 x v p2 p3 p4 p5 p6 (iN 0) s0 = some (0, upo x 67 0 (iN 1)) := by
  rw [f_X11_reading_J41, if_pos (by rfl), f_X11_reading_J67, J68_0]
theorem J41_1 {x : Ob} {w b : Nat} (hw : w < 40) (hb : b ≤ 4) (e2 : x 2 w = iN b) (p2 p3 p4 p5 p6 s0 : Int32) : f_X11_reading_J41 x (iN w) p2 p3 p4 p5 p6 (iN 1) s0 = if b = 4 then f_X11_reading_J68 x (iN w) p2 p3 p4 p5 p6 (iN 1) s0 (iN 0) else f_X11_reading_J68 x (iN w) p2 p3 p4 p5 p6 (iN 1) s0 (iN 1) := by
  rw [f_X11_reading_J41, if_neg (by decide), gd_iN (by omega), decide_eq_true hw, eq_grd, iN_c (by omega), e2]
  by_cases h : b = 4
  · subst h
    rw [if_pos rfl, if_pos (by decide), f_X11_reading_J67]; rfl
  · rw [if_neg h, if_neg (show ¬ ((4 : Int32) ≤ iN b) from (by rw [iN_le (by decide) (by omega)]; omega : ¬ (iN 4 ≤ iN b))), iN_1]
theorem M9r_WM {N : Ob} {w b l c a f d : Nat} (hb : b < 4) (hc : c < 10) (ha : a < 4) (hf : f < 4) (hd : d < 4) (h : WM N) : sr (M9r N w b l c a f d) = sr N ∧ gr (M9r N w b l c a f d) = gr N ∧ WM (M9r N w b l c a f d) := by
  have c0 := fun k h => M9r_o (N := N) (w := w) (b := b) (l := l) (c := c) (a := a) (f := f) (d := d) k h
  have hcor : ∀ k, k = 9 ∨ k = 10 ∨ (15 ≤ k ∧ k ≤ 30) → M9r N w b l c a f d k = N k := fun k hk => c0 k (by omega)
  have hsr : sr (M9r N w b l c a f d) = sr N := by funext k; unfold sr; split; exact hcor k (by omega); rfl
  have hgr : gr (M9r N w b l c a f d) = gr N := by funext k; unfold gr; split; exact hcor k (by omega); rfl
  refine ⟨hsr, hgr, ?_⟩
  obtain ⟨⟨l1, l2, l3, l4, l5, l6, l7, l8⟩, ht, hR, hG⟩ := h
  refine ⟨⟨by rw [c0 0 (by omega)]; exact l1, by rw [c0 1 (by omega)]; exact l2, ?_, by rw [c0 6 (by omega)]; exact l4, ?_, by rw [c0 8 (by omega)]; exact l6, ?_, by rw [c0 7 (by omega)]; exact l8⟩, ?_, ?_, by rw [hgr]; exact hG⟩
  · intro i hi
    rw [M9r_2]
    split
    · exact ⟨b + 1, by omega, rfl⟩
    · exact l3 i hi
  · intro i hi
    rw [M9r_5]
    split
    · exact ⟨d, by omega, rfl⟩
    · split
      · exact ⟨f, by omega, rfl⟩
      · split
        · exact ⟨a, by omega, rfl⟩
        · exact l5 i hi
  · intro i hi
    rw [M9r_4]
    split
    · exact ⟨c, by omega, rfl⟩
    · exact l7 i hi
  · intro s hs
    rw [hcor 9 (by omega), hcor 10 (by omega), c0 0 (by omega)]
    exact ht s hs
  · rw [hsr]
    exact ⟨hR.1, fun k k1 k2 => by rw [hcor k (by omega)]; exact hR.2.1 k k1 k2, hR.2.2⟩
theorem addX_o {x : Ob} {row b f : Nat} {l c : Int32} (k : Nat) (h : k ≠ 2 ∧ k ≠ 3 ∧ k ≠ 4 ∧ k ≠ 5) : addX x row b l c f k = x k := by
  obtain ⟨k2, k3, k4, k5⟩ := h
  unfold addX; rw [upo_ne k2, upo_ne k5, upo_ne k4, upo_ne k3]
theorem addX_2 {x : Ob} {row b f : Nat} {l c : Int32} (i : Nat) : addX x row b l c f 2 i = if i = row then iN (b + 1) else x 2 i := by
  unfold addX; rw [upo_ap, upo_ne (by decide), upo_ne (by decide), upo_ne (by decide)]; simp only [true_and]
theorem addX_3 {x : Ob} {row b f : Nat} {l c : Int32} (i : Nat) : addX x row b l c f 3 i = if i = 4 * row + b then l else x 3 i := by
  unfold addX; rw [upo_ne (by decide), upo_ne (by decide), upo_ne (by decide), upo_ap]; simp only [true_and]
theorem addX_4 {x : Ob} {row b f : Nat} {l c : Int32} (i : Nat) : addX x row b l c f 4 i = if i = 4 * row + b then c else x 4 i := by
  unfold addX; rw [upo_ne (by decide), upo_ne (by decide), upo_ap, upo_ne (by decide)]; simp only [true_and]
theorem addX_5 {x : Ob} {row b f : Nat} {l c : Int32} (i : Nat) : addX x row b l c f 5 i = if i = 4 * row + b then iN f else x 5 i := by
  unfold addX; rw [upo_ne (by decide), upo_ap, upo_ne (by decide), upo_ne (by decide)]; simp only [true_and]
theorem M9r_RX {N x : Ob} {w b l c a f d : Nat} (hw : w < 40) (hb : b < 4) (ha : a < 4) (hf : f < 4) (hd : d < 4) (h : QX3 x N) : QX3 (addX x w b (iN l) (iN c) (pk3 a f d)) (M9r N w b l c a f d) := by
  obtain ⟨y0, y1, y2, y3, y4⟩ := h
  have c0 := fun k h => M9r_o (N := N) (w := w) (b := b) (l := l) (c := c) (a := a) (f := f) (d := d) k h
  unfold QX3
  rw [c0 0 (by omega), c0 1 (by omega), c0 6 (by omega), c0 7 (by omega), c0 8 (by omega), addX_o 0 (by omega), addX_o 1 (by omega)]
  refine ⟨y0, ?_, ?_, ?_, ?_⟩
  · intro i hi
    rw [M9r_2, addX_2]
    refine ⟨(y1 i hi).1, ?_⟩
    split
    · rfl
    · exact (y1 i hi).2
  · intro e he
    rw [addX_2, if_neg (by omega)]; exact y2 e he
  · intro i hi
    rw [M9r_3, M9r_4, M9r_5, M9r_5, M9r_5, addX_3, addX_4, addX_5]
    by_cases e : i = 4 * w + b
    · subst e
      rw [if_pos rfl, if_pos rfl, if_pos rfl, if_pos rfl, if_pos rfl, if_neg (by omega), if_neg (by omega), if_pos rfl, if_neg (by omega), if_pos rfl, if_pos rfl]
      refine ⟨rfl, rfl, ?_⟩
      rw [nn, nn, nn, iN_c (by omega), iN_c (by omega), iN_c (by omega)]
    · rw [if_neg e, if_neg e, if_neg e, if_neg e, if_neg e, if_neg (by omega), if_neg (by omega), if_neg (by omega), if_neg (by omega), if_neg (by omega), if_neg (by omega), if_neg (by omega), if_neg (by omega), if_neg (by omega)]
      exact y3 i hi
  · intro i hi
    rw [addX_4, addX_5, if_neg (by omega), if_neg (by omega)]
    exact y4 i hi
theorem op_reading {j : Nat} {K : Nat → Ob} {M : Ob} (hj : j < 1000000) (h : RI j K M) (p1 p2 p3 p4 p5 p6 : Int32) : Op_reading RI j K M p1 p2 p3 p4 p5 p6 := by
  obtain ⟨a1, a2, a3⟩ := RI_words h
  rcases in_or p1 (show nn (M 0 0) < 2147483648 by omega) with ⟨w, hw, e⟩ | hn
  · subst e
    obtain ⟨r1, r2⟩ := rW_y h hw
    obtain ⟨b, hb, eb⟩ := h.1.1.2.2.1 w (by omega)
    have kb : K 1 2 w = iN b := by rw [(h.2.1.1.2.1 w (by omega)).2]; exact eb
    rcases rdg_or p2 p3 p4 p5 p6 with ⟨l, c, a, f, d, hl, hc, ha, hf, hd, e1, e2, e3, e4, e5, f1, f2⟩ | ⟨f1, f2⟩
    · have f2' := f2 M (iN w) _ r2
      rw [J41_1 (show w < 40 by omega) hb eb] at f2'
      by_cases hb4 : b = 4
      · refine ⟨3, 0, K, 0, upo M 67 0 (iN 3), iN 3, ?_, ?_, congrArg some (u67 _ _), Or.inr (Or.inr (Or.inr ⟨rfl, rfl⟩)), RI_j (RI_67 _ h)⟩
        · subst e1; subst e2
          simp (disch := omega) only [f_X10_reading, r1, isB_y hl (show 31 < 2147483648 by decide), isB_y hc (show 10 < 2147483648 by decide), f1, X3_full (show w < 50 by omega) kb hb4, eq_grd, eq_lb, eq_b1, eq_b2, eq_b3, eq_b4, eq_b5, ↓nM_lit, iN_lit, iN_add, iN_mul, iN_lt, iN_le, iN_eq, iN_c, gd_iN, iN_nM, nM_iN, iN_ltM, nM_lt, nM_le, iN_leM, iN_0M, nM_p1, iN_0s1, decide_true, decide_eq_true_eq, Nat.not_lt_zero, if_true, if_false, show ¬ (1 = 0) by decide, if_false, if_true]
        · rw [f2', if_pos hb4, J68_110]
      · have hb3 : b < 4 := by omega
        have hN := RI_67 (iN 0) h
        obtain ⟨x1, x2⟩ := X3_addR (show w < 50 by omega) kb hb3 (iN l) (iN c) (pk3 a f d)
        obtain ⟨hsr, hgr, hWM⟩ := M9r_WM (w := w) (b := b) (l := l) hb3 hc ha hf hd hN.1
        have hx3 := M9r_RX (w := w) (b := b) (l := l) (c := c) (show w < 40 by omega) hb3 ha hf hd hN.2.1.1
        have c0 := fun k h => M9r_o (N := upo M 67 0 (iN 0)) (w := w) (b := b) (l := l) (c := c) (a := a) (f := f) (d := d) k h
        have c52 := M9r_52 (N := upo M 67 0 (iN 0)) (w := w) (b := b) (l := l) (c := c) (a := a) (f := f) (d := d)
        have hcls : f_X11_reading M (iN w) p2 p3 p4 p5 p6 = some (iN (b + 1), M9r (upo M 67 0 (iN 0)) w b l c a f d) := by
          rw [f2', if_neg hb4, e1, e2, e3, e4, e5, J68_111 (show w < 40 by omega) hb3 eb]
        generalize M9r (upo M 67 0 (iN 0)) w b l c a f d = M' at hcls hsr hgr hWM hx3 c0 c52
        have hRK : RK (va_up K 1 (addX (K 1) w b (iN l) (iN c) (pk3 a f d))) M' := by
          obtain ⟨-, h7, h2, hs5, h8⟩ := hN.2.1
          refine ⟨by rw [vu_eq]; exact hx3, by rw [vu_ne (by decide), hsr]; exact h7, by rw [vu_ne (by decide), hgr]; exact h2, by rw [vu_ne (by decide), hgr]; exact hs5, by rw [vu_ne (by decide)]; exact RX8_cg (fun k k1 k2 => c0 k (by omega)) h8⟩
        obtain ⟨K2, o1, o2⟩ := RI_out hj hN hWM hRK (fun i hi => vu_ne (by omega)) (c0 9 (by omega)) (c0 10 (by omega)) c52 (fun k k1 k2 => c0 k (by omega)) (ZE_cg (c0 21 (by omega)) (c0 26 (by omega)) hN.2.2.2.2.2)
        refine ⟨0, iN (b + 1), K2, iN (b + 1), M', iN 0, ?_, hcls, ?_, Or.inl ⟨rfl, rfl, rfl⟩, o2⟩
        · subst e1; subst e2; subst e3; subst e4; subst e5
          simp (disch := omega) only [f_X10_reading, r1, isB_y hl (show 31 < 2147483648 by decide), isB_y hc (show 10 < 2147483648 by decide), f1, x1, pack_iN ha hf hd, x2, eq_grd, eq_lb, eq_b1, eq_b2, eq_b3, eq_b4, eq_b5, ↓nM_lit, iN_lit, iN_add, iN_mul, iN_lt, iN_le, iN_eq, iN_c, gd_iN, iN_nM, nM_iN, iN_ltM, nM_lt, nM_le, iN_leM, iN_0M, nM_p1, iN_0s1, decide_true, decide_eq_true_eq, Nat.not_lt_zero, if_true, if_false, show ¬ (1 = 0) by decide, if_false, if_true, o1]
        · rw [f_X11_thrown, c0 67 (by omega), u67]
    · refine ⟨2, 0, K, 0, upo M 67 0 (iN 2), iN 2, f1 K _ r1, ?_, congrArg some (u67 _ _), Or.inr (Or.inr (Or.inl ⟨rfl, rfl⟩)), RI_j (RI_67 _ h)⟩
      rw [f2 M _ _ r2, J41_1 (show w < 40 by omega) hb eb, J68_10, J68_10]
      split <;> rfl
  · obtain ⟨r1, r2⟩ := rW_n h hn
    refine ⟨1, 0, K, 0, upo M 67 0 (iN 1), iN 1, ?_, ?_, congrArg some (u67 _ _), Or.inr (Or.inl ⟨rfl, rfl⟩), RI_j (RI_67 _ h)⟩
    · simp only [f_X10_reading, r1, eq_grd, eq_lb, eq_b1, eq_b2, eq_b3, eq_b4, eq_b5]; rfl
    · rcases rdg_or p2 p3 p4 p5 p6 with ⟨l, c, a, f, d, -, -, -, -, -, -, -, -, -, -, -, f2⟩ | ⟨-, f2⟩
      · rw [f2 M _ _ r2, J41_0]
      · rw [f2 M _ _ r2, J41_0]
