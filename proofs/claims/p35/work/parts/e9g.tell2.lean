/-! What outdates all sentences. -/
theorem X10_out (K : Nat → Ob) : wp (f_X10_outdateAll K) (fun K' => (∀ i, (i < 9 ∨ 12 < i) → K' i = K i) ∧ ∀ t, t < 4 → K' (9 + t) = upo (upo (K (9 + t)) 7 0 (iN 0)) 8 0 (iN 1)) := by
  rw [f_X10_outdateAll]
  simp only [wp_some, wp_grd, wp_lb, wp_ite, wp_b1, wp_b2, wp_b3, wp_b4, wp_b5]
  refine lp_up (F := fun f (K' : Nat → Ob) j => f_X10_outdateAll_L2 f K' j) (V := fun i K' => (∀ k, (k < 9 ∨ 9 + i ≤ k) → K' k = K k) ∧ ∀ t, t < i → K' (9 + t) = upo (upo (K (9 + t)) 7 0 (iN 0)) 8 0 (iN 1)) (hi := 4) ?_ 200 0 K (by omega) (by omega) ⟨fun _ _ => rfl, fun t ht => absurd ht (Nat.not_lt_zero t)⟩
  rintro f K' i hi ⟨v1, v2⟩ hk
  by_cases he : i = 4
  · subst he
    simp (disch := omega) only [f_X10_outdateAll_L2, ↓nM_lit, iN_lit, iN_add, iN_mul, iN_lt, iN_le, iN_eq, iN_c, gd_iN, iN_nM, nM_iN, iN_ltM, nM_lt, nM_le, iN_leM, iN_0M, nM_p1, iN_0s1, decide_true, decide_eq_true_eq, Nat.not_lt_zero, if_true, if_false, wp_some, wp_grd, wp_lb, wp_ite, wp_b1, wp_b2, wp_b3, wp_b4, wp_b5, Nat.le_refl]
    exact ⟨fun k hk => v1 k (by omega), v2⟩
  · simp (disch := omega) only [f_X10_outdateAll_L2, f_X6_outdate, ↓nM_lit, iN_lit, iN_add, iN_mul, iN_lt, iN_le, iN_eq, iN_c, gd_iN, iN_nM, nM_iN, iN_ltM, nM_lt, nM_le, iN_leM, iN_0M, nM_p1, iN_0s1, decide_true, decide_eq_true_eq, Nat.not_lt_zero, if_true, if_false, wp_some, wp_grd, wp_lb, wp_ite, wp_b1, wp_b2, wp_b3, wp_b4, wp_b5, eq_grd, eq_lb, eq_b1, eq_b2, eq_b3, eq_b4, eq_b5, show ¬ (4 ≤ i) by omega, show i < 4 by omega, true_and]
    refine hk _ (by omega) ⟨?_, ?_⟩
    · intro k hk2; rw [vu_ap, if_neg (by omega)]; exact v1 k (by omega)
    · intro t ht
      rw [vu_ap]
      by_cases e : t = i
      · subst e; rw [if_pos rfl, v1 (9 + t) (by omega)]
      · rw [if_neg (by omega)]; exact v2 t (by omega)
theorem RSen_out {x c M M' : Ob} {s : Nat} (h6 : RW6 x (evn M' s) (evw M' s)) (hm : M' 54 s ≠ M' 52 0 ∨ M' 56 s ≠ M' 55 s) : RSen (upo (upo x 7 0 (iN 0)) 8 0 (iN 1)) c M' s := by
  refine ⟨?_, Or.inl (by rw [upo_ne (by decide), up_s]), Or.inl ⟨up_s _ _ _ _, hm⟩⟩
  unfold RW6
  rw [upo_ne (by decide), upo_ne (by decide), upo_ne (by decide), upo_ne (by decide)]
  exact h6
theorem RI_out {j : Nat} {K K' : Nat → Ob} {M M' : Ob} (hj : j < 1000000) (h : RI j K M) (hWM : WM M') (hRK : RK K' M') (hK : ∀ i, (i = 0 ∨ 8 < i) → K' i = K i) (h9 : M' 9 = M 9) (h10 : M' 10 = M 10) (h52 : M' 52 0 = M 52 0 + iN 1) (h5 : ∀ k, 53 ≤ k → k ≤ 58 → M' k = M k) (hz : ZE M') : wp (f_X10_outdateAll K') (fun K2 => RI (j + 1) K2 M') := by
  refine wp_mono (X10_out K') ?_
  rintro K2 ⟨a1, a2⟩
  obtain ⟨v, v1, v2, v3⟩ := h.2.2.2.1
  have e52 : M' 52 0 = iN (v + 1) := by rw [h52, v2, iN_add]
  refine ⟨hWM, RK_K ⟨fun i hi => a1 i (by omega), fun k _ _ _ => by rw [a1 3 (by omega)]⟩ hRK, ?_, ?_, ?_⟩
  · intro s hs
    rw [a2 s hs, a1 (14 + s) (by omega), hK (9 + s) (by omega)]
    refine RSen_out (M := M) ?_ (Or.inl ?_)
    · unfold evn evw
      rw [h9, h10]
      exact (h.2.2.1 s hs).1
    · rw [h5 54 (by decide) (by decide), e52]
      rcases (v3 s hs).1 with e | ⟨w, hw, e⟩
      · rw [e, Ne, nM_iN (by omega)]; exact id
      · rw [e, Ne, iN_eq (by omega) (by omega)]; omega
  · refine ⟨v + 1, by omega, e52, ?_⟩
    intro s hs
    rw [h5 54 (by decide) (by decide), h5 55 (by decide) (by decide), h5 56 (by decide) (by decide)]
    obtain ⟨w1, c, d, w2, w3, w4, w5⟩ := v3 s hs
    refine ⟨?_, c, d, w2, by omega, w4, w5⟩
    rcases w1 with e | ⟨w, hw, e⟩
    · exact Or.inl e
    · exact Or.inr ⟨w, by omega, e⟩
  · refine ⟨?_, hz⟩
    rw [a1 0 (by omega), hK 0 (by omega), h5 53 (by decide) (by decide)]
    exact h.2.2.2.2.1
theorem aF_or (p q r : Int32) : (∃ a b c, a < 4 ∧ b < 4 ∧ c < 4 ∧ p = iN a ∧ q = iN b ∧ r = iN c ∧ f_X10_areFeatures p q r = some (iN 1) ∧ f_X11_areFeatures p q r = some (iN 1)) ∨ (f_X10_areFeatures p q r = some (iN 0) ∧ f_X11_areFeatures p q r = some (iN 0)) := by
  rcases in_or p (show 4 < 2147483648 by decide) with ⟨a, ha, e⟩ | hn
  · subst e
    rcases in_or q (show 4 < 2147483648 by decide) with ⟨b, hb, e⟩ | hn
    · subst e
      rcases in_or r (show 4 < 2147483648 by decide) with ⟨c, hc, e⟩ | hn
      · subst e
        refine Or.inl ⟨a, b, c, ha, hb, hc, rfl, rfl, rfl, ?_, ?_⟩
        · simp (disch := omega) only [f_X10_areFeatures, isB_y ha (show 4 < 2147483648 by decide), isB_y hb (show 4 < 2147483648 by decide), isB_y hc (show 4 < 2147483648 by decide), eq_grd, eq_lb, eq_b1, eq_b2, eq_b3, eq_b4, eq_b5, ↓nM_lit, iN_lit, iN_add, iN_mul, iN_lt, iN_le, iN_eq, iN_c, gd_iN, iN_nM, nM_iN, iN_ltM, nM_lt, nM_le, iN_leM, iN_0M, nM_p1, iN_0s1, decide_true, decide_eq_true_eq, Nat.not_lt_zero, if_true, if_false, show ¬ (1 = 0) by decide]
        · simp (disch := omega) only [f_X11_areFeatures, isI_y2 (show a ≤ 3 by omega) (show 3 < 2147483647 by decide), isI_y2 (show b ≤ 3 by omega) (show 3 < 2147483647 by decide), isI_y2 (show c ≤ 3 by omega) (show 3 < 2147483647 by decide), eq_grd, eq_lb, eq_b1, eq_b2, eq_b3, eq_b4, eq_b5, ↓nM_lit, iN_lit, iN_add, iN_mul, iN_lt, iN_le, iN_eq, iN_c, gd_iN, iN_nM, nM_iN, iN_ltM, nM_lt, nM_le, iN_leM, iN_0M, nM_p1, iN_0s1, decide_true, decide_eq_true_eq, Nat.not_lt_zero, if_true, if_false, show ¬ (1 = 0) by decide]
      · refine Or.inr ⟨?_, ?_⟩
        · simp (disch := omega) only [f_X10_areFeatures, isB_y ha (show 4 < 2147483648 by decide), isB_y hb (show 4 < 2147483648 by decide), isB_n hn, eq_grd, eq_lb, eq_b1, eq_b2, eq_b3, eq_b4, eq_b5, ↓nM_lit, iN_lit, iN_add, iN_mul, iN_lt, iN_le, iN_eq, iN_c, gd_iN, iN_nM, nM_iN, iN_ltM, nM_lt, nM_le, iN_leM, iN_0M, nM_p1, iN_0s1, decide_true, decide_eq_true_eq, Nat.not_lt_zero, if_true, if_false, show ¬ (1 = 0) by decide]
        · simp (disch := omega) only [f_X11_areFeatures, isI_y2 (show a ≤ 3 by omega) (show 3 < 2147483647 by decide), isI_y2 (show b ≤ 3 by omega) (show 3 < 2147483647 by decide), isI_n2 (n := 3) hn (by decide), eq_grd, eq_lb, eq_b1, eq_b2, eq_b3, eq_b4, eq_b5, ↓nM_lit, iN_lit, iN_add, iN_mul, iN_lt, iN_le, iN_eq, iN_c, gd_iN, iN_nM, nM_iN, iN_ltM, nM_lt, nM_le, iN_leM, iN_0M, nM_p1, iN_0s1, decide_true, decide_eq_true_eq, Nat.not_lt_zero, if_true, if_false, show ¬ (1 = 0) by decide]
    · refine Or.inr ⟨?_, ?_⟩
      · simp (disch := omega) only [f_X10_areFeatures, isB_y ha (show 4 < 2147483648 by decide), isB_n hn, eq_grd, eq_lb, eq_b1, eq_b2, eq_b3, eq_b4, eq_b5, ↓nM_lit, iN_lit, iN_add, iN_mul, iN_lt, iN_le, iN_eq, iN_c, gd_iN, iN_nM, nM_iN, iN_ltM, nM_lt, nM_le, iN_leM, iN_0M, nM_p1, iN_0s1, decide_true, decide_eq_true_eq, Nat.not_lt_zero, if_true, if_false, show ¬ (1 = 0) by decide]
      · simp (disch := omega) only [f_X11_areFeatures, isI_y2 (show a ≤ 3 by omega) (show 3 < 2147483647 by decide), isI_n2 (n := 3) hn (by decide), eq_grd, eq_lb, eq_b1, eq_b2, eq_b3, eq_b4, eq_b5, ↓nM_lit, iN_lit, iN_add, iN_mul, iN_lt, iN_le, iN_eq, iN_c, gd_iN, iN_nM, nM_iN, iN_ltM, nM_lt, nM_le, iN_leM, iN_0M, nM_p1, iN_0s1, decide_true, decide_eq_true_eq, Nat.not_lt_zero, if_true, if_false, show ¬ (1 = 0) by decide]
  · refine Or.inr ⟨?_, ?_⟩
    · simp (disch := omega) only [f_X10_areFeatures, isB_n hn, eq_grd, eq_lb, eq_b1, eq_b2, eq_b3, eq_b4, eq_b5, ↓nM_lit, iN_lit, iN_add, iN_mul, iN_lt, iN_le, iN_eq, iN_c, gd_iN, iN_nM, nM_iN, iN_ltM, nM_lt, nM_le, iN_leM, iN_0M, nM_p1, iN_0s1, decide_true, decide_eq_true_eq, Nat.not_lt_zero, if_true, if_false]
    · simp (disch := omega) only [f_X11_areFeatures, isI_n2 (n := 3) hn (by decide), eq_grd, eq_lb, eq_b1, eq_b2, eq_b3, eq_b4, eq_b5, ↓nM_lit, iN_lit, iN_add, iN_mul, iN_lt, iN_le, iN_eq, iN_c, gd_iN, iN_nM, nM_iN, iN_ltM, nM_lt, nM_le, iN_leM, iN_0M, nM_p1, iN_0s1, decide_true, decide_eq_true_eq, Nat.not_lt_zero, if_true, if_false]
theorem pack_iN {a b c : Nat} (ha : a < 4) (hb : b < 4) (hc : c < 4) : f_X10_pack (iN a) (iN b) (iN c) = some (iN (pk3 a b c)) := by
  have := b4_s (P := fun a => b4 (fun b => b4 (fun c => decide (f_X10_pack (iN a) (iN b) (iN c) = some (iN (pk3 a b c)))))) (by decide) ha
  exact of_decide_eq_true (b4_s (b4_s this hb) hc)
/-- the reference's reading, as far as its arguments go -/
theorem rdg_or (p2 p3 p4 p5 p6 : Int32) : (∃ l c a b d, l < 31 ∧ c < 10 ∧ a < 4 ∧ b < 4 ∧ d < 4 ∧ p2 = iN l ∧ p3 = iN c ∧ p4 = iN a ∧ p5 = iN b ∧ p6 = iN d ∧ f_X10_areFeatures p4 p5 p6 = some (iN 1) ∧ ∀ M p1 r, f_X11_isWord M p1 = some r → f_X11_reading M p1 p2 p3 p4 p5 p6 = f_X11_reading_J41 M p1 p2 p3 p4 p5 p6 r (iN 1)) ∨
    ((∀ K p1, f_X10_requireWord K p1 = some 0 → f_X10_reading K p1 p2 p3 p4 p5 p6 = some (2, 0, K)) ∧ ∀ M p1 r, f_X11_isWord M p1 = some r → f_X11_reading M p1 p2 p3 p4 p5 p6 = f_X11_reading_J41 M p1 p2 p3 p4 p5 p6 r (iN 0)) := by
  rcases in_or p2 (show 31 < 2147483648 by decide) with ⟨l, hl, e⟩ | hn
  · subst e
    rcases in_or p3 (show 10 < 2147483648 by decide) with ⟨c, hc, e⟩ | hn
    · subst e
      rcases aF_or p4 p5 p6 with ⟨a, b, d, ha, hb, hd, e1, e2, e3, f1, f2⟩ | ⟨f1, f2⟩
      · refine Or.inl ⟨l, c, a, b, d, hl, hc, ha, hb, hd, rfl, rfl, e1, e2, e3, f1, fun M p1 r hr => ?_⟩
        simp (disch := omega) only [f_X11_reading, hr, isI_y2 (show l ≤ 30 by omega) (show 30 < 2147483647 by decide), isD_y hc, f2, eq_grd, eq_lb, eq_b1, eq_b2, eq_b3, eq_b4, eq_b5, ↓nM_lit, iN_lit, iN_add, iN_mul, iN_lt, iN_le, iN_eq, iN_c, gd_iN, iN_nM, nM_iN, iN_ltM, nM_lt, nM_le, iN_leM, iN_0M, nM_p1, iN_0s1, decide_true, decide_eq_true_eq, Nat.not_lt_zero, if_true, if_false, show ¬ (1 = 0) by decide, if_false]
      · refine Or.inr ⟨fun K p1 hr => ?_, fun M p1 r hr => ?_⟩
        · simp (disch := omega) only [f_X10_reading, hr, isB_y hl (show 31 < 2147483648 by decide), isB_y hc (show 10 < 2147483648 by decide), f1, eq_grd, eq_lb, eq_b1, eq_b2, eq_b3, eq_b4, eq_b5, ↓nM_lit, iN_lit, iN_add, iN_mul, iN_lt, iN_le, iN_eq, iN_c, gd_iN, iN_nM, nM_iN, iN_ltM, nM_lt, nM_le, iN_leM, iN_0M, nM_p1, iN_0s1, decide_true, decide_eq_true_eq, Nat.not_lt_zero, if_true, if_false, show ¬ (1 = 0) by decide, if_false, if_true]
        · simp (disch := omega) only [f_X11_reading, f_X11_reading_J40, hr, isI_y2 (show l ≤ 30 by omega) (show 30 < 2147483647 by decide), isD_y hc, f2, eq_grd, eq_lb, eq_b1, eq_b2, eq_b3, eq_b4, eq_b5, ↓nM_lit, iN_lit, iN_add, iN_mul, iN_lt, iN_le, iN_eq, iN_c, gd_iN, iN_nM, nM_iN, iN_ltM, nM_lt, nM_le, iN_leM, iN_0M, nM_p1, iN_0s1, decide_true, decide_eq_true_eq, Nat.not_lt_zero, if_true, if_false, show ¬ (1 = 0) by decide, if_false]
    · refine Or.inr ⟨fun K p1 hr => ?_, fun M p1 r hr => ?_⟩
      · simp (disch := omega) only [f_X10_reading, hr, isB_y hl (show 31 < 2147483648 by decide), isB_n hn, eq_grd, eq_lb, eq_b1, eq_b2, eq_b3, eq_b4, eq_b5, ↓nM_lit, iN_lit, iN_add, iN_mul, iN_lt, iN_le, iN_eq, iN_c, gd_iN, iN_nM, nM_iN, iN_ltM, nM_lt, nM_le, iN_leM, iN_0M, nM_p1, iN_0s1, decide_true, decide_eq_true_eq, Nat.not_lt_zero, if_true, if_false, show ¬ (1 = 0) by decide, if_false, if_true]
      · simp (disch := omega) only [f_X11_reading, f_X11_reading_J40, hr, isI_y2 (show l ≤ 30 by omega) (show 30 < 2147483647 by decide), isD_n hn, eq_grd, eq_lb, eq_b1, eq_b2, eq_b3, eq_b4, eq_b5, ↓nM_lit, iN_lit, iN_add, iN_mul, iN_lt, iN_le, iN_eq, iN_c, gd_iN, iN_nM, nM_iN, iN_ltM, nM_lt, nM_le, iN_leM, iN_0M, nM_p1, iN_0s1, decide_true, decide_eq_true_eq, Nat.not_lt_zero, if_true, if_false, show ¬ (1 = 0) by decide, if_false]
  · refine Or.inr ⟨fun K p1 hr => ?_, fun M p1 r hr => ?_⟩
    · simp (disch := omega) only [f_X10_reading, hr, isB_n hn, eq_grd, eq_lb, eq_b1, eq_b2, eq_b3, eq_b4, eq_b5, ↓nM_lit, iN_lit, iN_add, iN_mul, iN_lt, iN_le, iN_eq, iN_c, gd_iN, iN_nM, nM_iN, iN_ltM, nM_lt, nM_le, iN_leM, iN_0M, nM_p1, iN_0s1, decide_true, decide_eq_true_eq, Nat.not_lt_zero, if_true, if_false, if_true]
    · simp (disch := omega) only [f_X11_reading, f_X11_reading_J40, hr, isI_n2 (n := 30) hn (by decide), eq_grd, eq_lb, eq_b1, eq_b2, eq_b3, eq_b4, eq_b5, ↓nM_lit, iN_lit, iN_add, iN_mul, iN_lt, iN_le, iN_eq, iN_c, gd_iN, iN_nM, nM_iN, iN_ltM, nM_lt, nM_le, iN_leM, iN_0M, nM_p1, iN_0s1, decide_true, decide_eq_true_eq, Nat.not_lt_zero, if_true, if_false]
/-- a row of the lexicon that takes one more reading -/
def addX (x : Ob) (row b : Nat) (l c : Int32) (f : Nat) : Ob := upo (upo (upo (upo x 3 (4 * row + b) l) 4 (4 * row + b) c) 5 (4 * row + b) (iN f)) 2 row (iN (b + 1))
theorem X3_addR {x : Ob} {row b : Nat} (hr : row < 50) (h2 : x 2 row = iN b) (hb : b < 4) (l c : Int32) (f : Nat) : f_X3_isRowFull x (iN row) = some (iN 0) ∧ f_X3_addToRow x (iN row) l c (iN f) = some (iN (b + 1), addX x row b l c f) := by
  have h1 : f_X3_isRowFull x (iN row) = some (iN 0) := by
    simp (disch := omega) only [f_X3_isRowFull, isB_y hr (show 50 < 2147483648 by decide), eq_grd, eq_lb, eq_b1, eq_b2, eq_b3, eq_b4, eq_b5, ↓nM_lit, iN_lit, iN_add, iN_mul, iN_lt, iN_le, iN_eq, iN_c, gd_iN, iN_nM, nM_iN, iN_ltM, nM_lt, nM_le, iN_leM, iN_0M, nM_p1, iN_0s1, decide_true, decide_eq_true_eq, Nat.not_lt_zero, if_true, if_false, show ¬ (1 = 0) by decide, if_false, hr, h2, hb]
  refine ⟨h1, ?_⟩
  have e : row * 4 + b = 4 * row + b := by omega
  simp (disch := omega) only [f_X3_addToRow, h1, eq_grd, eq_lb, eq_b1, eq_b2, eq_b3, eq_b4, eq_b5, ↓nM_lit, iN_lit, iN_add, iN_mul, iN_lt, iN_le, iN_eq, iN_c, gd_iN, iN_nM, nM_iN, iN_ltM, nM_lt, nM_le, iN_leM, iN_0M, nM_p1, iN_0s1, decide_true, decide_eq_true_eq, Nat.not_lt_zero, if_true, if_false, if_true, hr, h2, e, show 4 * row + b < 200 by omega, upo_ne, up_s, addX]
theorem X3_full {x : Ob} {row b : Nat} (hr : row < 50) (h2 : x 2 row = iN b) (hb : b = 4) : f_X3_isRowFull x (iN row) = some (iN 1) := by
  subst hb
  simp (disch := omega) only [f_X3_isRowFull, isB_y hr (show 50 < 2147483648 by decide), eq_grd, eq_lb, eq_b1, eq_b2, eq_b3, eq_b4, eq_b5, ↓nM_lit, iN_lit, iN_add, iN_mul, iN_lt, iN_le, iN_eq, iN_c, gd_iN, iN_nM, nM_iN, iN_ltM, nM_lt, nM_le, iN_leM, iN_0M, nM_p1, iN_0s1, decide_true, decide_eq_true_eq, Nat.not_lt_zero, if_true, if_false, show ¬ (1 = 0) by decide, if_false, hr, h2, show ¬ (4 < 4) by decide]
