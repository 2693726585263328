/-! Arguments; calls that only ask. -/
theorem i32_cases (p : Int32) : p < iN 0 ∨ ∃ a, a < 2147483648 ∧ p = iN a := by
  by_cases h : p < iN 0
  · exact Or.inl h
  · refine Or.inr ⟨p.toNatClampNeg, Int32.toNatClampNeg_lt _, ?_⟩
    refine (Int32.ofNat_toNatClampNeg p ?_).symm
    exact i32_nlt.mp h
def nb (p : Int32) (n : Nat) : Prop := p < iN 0 ∨ iN n ≤ p
theorem in_or (p : Int32) {n : Nat} (hn : n < 2147483648) : (∃ a, a < n ∧ p = iN a) ∨ nb p n := by
  rcases i32_cases p with h | ⟨a, ha, e⟩
  · exact Or.inr (Or.inl h)
  · by_cases h : a < n
    · exact Or.inl ⟨a, h, e⟩
    · refine Or.inr (Or.inr ?_)
      rw [e, iN_le hn ha]; omega
theorem isB_y {a n : Nat} (h : a < n) (hn : n < 2147483648) : f_X10_isBelow (iN a) (iN n) = some (iN 1) := by
  simp (disch := omega) only [f_X10_isBelow, ↓nM_lit, iN_lit, iN_add, iN_mul, iN_lt, iN_le, iN_eq, iN_c, gd_iN, iN_nM, nM_iN, iN_ltM, nM_lt, nM_le, iN_leM, iN_0M, nM_p1, iN_0s1, decide_true, decide_eq_true_eq, Nat.not_lt_zero, if_true, if_false, show ¬ (n ≤ a) by omega]
theorem isB_n {p : Int32} {n : Nat} (h : nb p n) : f_X10_isBelow p (iN n) = some (iN 0) := by
  rcases h with h | h
  · simp only [f_X10_isBelow, iN_lit, h, if_true]
  · by_cases h0 : p < iN 0
    · simp only [f_X10_isBelow, iN_lit, h0, if_true]
    · simp only [f_X10_isBelow, iN_lit, h0, h, if_true, if_false]
theorem isI_y {a n : Nat} (h : a < n) (hn : n < 2147483648) : f_X11_isIn (iN a) (iN 0) (iN n - iN 1) = some (iN 1) := by
  simp (disch := omega) only [f_X11_isIn, ↓nM_lit, iN_lit, iN_add, iN_mul, iN_lt, iN_le, iN_eq, iN_c, gd_iN, iN_nM, nM_iN, iN_ltM, nM_lt, nM_le, iN_leM, iN_0M, nM_p1, iN_0s1, decide_true, decide_eq_true_eq, Nat.not_lt_zero, if_true, if_false, iN_s1 (show 0 < n by omega), show ¬ (n - 1 < a) by omega]
theorem isI_n {p : Int32} {n : Nat} (h : nb p n) (hn : n < 2147483648) : f_X11_isIn p (iN 0) (iN n - iN 1) = some (iN 0) := by
  rcases i32_cases p with h0 | ⟨a, ha, e⟩
  · simp only [f_X11_isIn, iN_lit, h0, if_true]
  · subst e
    have hna : n ≤ a := by
      rcases h with h | h
      · rw [iN_lt0 ha] at h; exact h.elim
      · exact (iN_le hn ha).mp h
    by_cases h1 : n = 0
    · subst h1
      simp (disch := omega) only [f_X11_isIn, ↓nM_lit, iN_lit, iN_add, iN_mul, iN_lt, iN_le, iN_eq, iN_c, gd_iN, iN_nM, nM_iN, iN_ltM, nM_lt, nM_le, iN_leM, iN_0M, nM_p1, iN_0s1, decide_true, decide_eq_true_eq, Nat.not_lt_zero, if_true, if_false]
    · simp (disch := omega) only [f_X11_isIn, ↓nM_lit, iN_lit, iN_add, iN_mul, iN_lt, iN_le, iN_eq, iN_c, gd_iN, iN_nM, nM_iN, iN_ltM, nM_lt, nM_le, iN_leM, iN_0M, nM_p1, iN_0s1, decide_true, decide_eq_true_eq, Nat.not_lt_zero, if_true, if_false, iN_s1 (show 0 < n by omega), show n - 1 < a by omega]
theorem isI_y2 {a n : Nat} (h : a ≤ n) (hn : n < 2147483647) : f_X11_isIn (iN a) (iN 0) (iN n) = some (iN 1) := by
  have := isI_y (show a < n + 1 by omega) (by omega)
  rw [iN_s1 (by omega)] at this; exact this
theorem isI_n2 {p : Int32} {n : Nat} (h : nb p (n + 1)) (hn : n < 2147483647) : f_X11_isIn p (iN 0) (iN n) = some (iN 0) := by
  have := isI_n h (by omega)
  rw [iN_s1 (by omega)] at this; exact this
theorem isb_1 : isb (iN 1) = true := by decide
theorem isb_0 : isb (iN 0) = true := by decide
theorem isD_y {a : Nat} (h : a < 10) : f_X11_isDigit (iN a) = some (iN 1) := by
  have := isI_y2 (show a ≤ 9 by omega) (by decide)
  simp only [f_X11_isDigit, iN_lit, this, eq_grd, eq_lb, eq_b1, eq_b2, eq_b3, eq_b4, eq_b5, isb_1]
theorem isD_n {p : Int32} (h : nb p 10) : f_X11_isDigit p = some (iN 0) := by
  have := isI_n2 (n := 9) h (by decide)
  simp only [f_X11_isDigit, iN_lit, this, eq_grd, eq_lb, eq_b1, eq_b2, eq_b3, eq_b4, eq_b5, isb_0]
theorem isS_y {a : Nat} (h : a < 4) : f_X11_isSentence (iN a) = some (iN 1) := by
  have := isI_y2 (show a ≤ 3 by omega) (by decide)
  simp only [f_X11_isSentence, iN_lit, this, eq_grd, eq_lb, eq_b1, eq_b2, eq_b3, eq_b4, eq_b5, isb_1]
theorem isS_n {p : Int32} (h : nb p 4) : f_X11_isSentence p = some (iN 0) := by
  have := isI_n2 (n := 3) h (by decide)
  simp only [f_X11_isSentence, iN_lit, this, eq_grd, eq_lb, eq_b1, eq_b2, eq_b3, eq_b4, eq_b5, isb_0]
theorem sAt_n {p : Int32} (h : nb p 4) (K : Nat → Ob) : f_X10_sentenceAt K p = some (1, 0) := by
  rcases i32_cases p with h0 | ⟨a, ha, e⟩
  · simp only [f_X10_sentenceAt, iN_lit, h0, if_true]
  · subst e
    have hna : 4 ≤ a := by
      rcases h with h | h
      · rw [iN_lt0 ha] at h; exact h.elim
      · exact (iN_le (by decide) ha).mp h
    simp (disch := omega) only [f_X10_sentenceAt, ↓nM_lit, iN_lit, iN_add, iN_mul, iN_lt, iN_le, iN_eq, iN_c, gd_iN, iN_nM, nM_iN, iN_ltM, nM_lt, nM_le, iN_leM, iN_0M, nM_p1, iN_0s1, decide_true, decide_eq_true_eq, Nat.not_lt_zero, if_true, if_false, show ¬ (a < 4) by omega]
theorem may_1 (x : Ob) : f_X11_may x (iN 1) = some (iN 1, upo x 67 0 (iN 0)) := by
  simp (disch := omega) only [f_X11_may, ↓nM_lit, iN_lit, iN_add, iN_mul, iN_lt, iN_le, iN_eq, iN_c, gd_iN, iN_nM, nM_iN, iN_ltM, nM_lt, nM_le, iN_leM, iN_0M, nM_p1, iN_0s1, decide_true, decide_eq_true_eq, Nat.not_lt_zero, if_true, if_false, show ¬ (1 = 0) by decide, eq_grd, eq_lb, eq_b1, eq_b2, eq_b3, eq_b4, eq_b5, isb_1, if_false]
theorem may_0 (x : Ob) : f_X11_may x (iN 0) = some (iN 0, upo x 67 0 (iN 1)) := by
  simp (disch := omega) only [f_X11_may, ↓nM_lit, iN_lit, iN_add, iN_mul, iN_lt, iN_le, iN_eq, iN_c, gd_iN, iN_nM, nM_iN, iN_ltM, nM_lt, nM_le, iN_leM, iN_0M, nM_p1, iN_0s1, decide_true, decide_eq_true_eq, Nat.not_lt_zero, if_true, if_false, eq_grd, eq_lb, eq_b1, eq_b2, eq_b3, eq_b4, eq_b5, isb_0]
theorem RI_67 {j : Nat} {K : Nat → Ob} {M : Ob} (v : Int32) (h : RI j K M) : RI j K (upo M 67 0 v) := RI_cg (fun k hk => upo_ne (by omega)) h
theorem u67 (M : Ob) (v : Int32) : upo M 67 0 v 67 0 = v := by rw [upo_ap, if_pos ⟨rfl, rfl⟩]
theorem RI_len {j : Nat} {K : Nat → Ob} {M : Ob} (h : RI j K M) {s : Nat} (hs : s < 4) : K (9 + s) 0 0 = iN (evn M s) ∧ M 9 s = iN (evn M s) ∧ evn M s ≤ 6 := by
  obtain ⟨h1, h2, h3, h4, h5⟩ := h
  obtain ⟨h6, h9, -⟩ := WTxt_at h1.2.1 hs
  exact ⟨(h3 s hs).1.1, h9, h6⟩
theorem RI_words {j : Nat} {K : Nat → Ob} {M : Ob} (h : RI j K M) : K 1 0 0 = iN (nn (M 0 0)) ∧ M 0 0 = iN (nn (M 0 0)) ∧ nn (M 0 0) ≤ 40 := by
  obtain ⟨h1, h2, -⟩ := h
  obtain ⟨a, ha, ea⟩ := h1.1.1
  have e : nn (M 0 0) = a := by rw [ea, nn, iN_c (by omega)]
  rw [e]
  exact ⟨by rw [h2.1.1]; exact ea, ea, ha⟩
theorem op_length {j : Nat} {K : Nat → Ob} {M : Ob} (h : RI j K M) (p1 : Int32) : Op_length RI j K M p1 := by
  rcases in_or p1 (show 4 < 2147483648 by decide) with ⟨s, hs, e⟩ | hn
  · subst e
    obtain ⟨a1, a2, a3⟩ := RI_len h hs
    refine ⟨0, iN (evn M s), K, iN (evn M s), upo M 67 0 (iN 0), iN 0, ?_, rfl, ?_, congrArg some (u67 _ _), Or.inl ⟨rfl, rfl, rfl⟩, RI_j (RI_67 _ h)⟩
    · simp only [f_X10_length, X10_sAt K hs, eq_grd, eq_lb, eq_b1, eq_b2, eq_b3, eq_b4, eq_b5, if_true, hs, decide_true, a1]
    · have : upo M 67 0 (iN 0) 9 s = iN (evn M s) := by rw [upo_ne (by decide)]; exact a2
      simp (disch := omega) only [f_X11_length, isS_y hs, may_1, eq_grd, eq_lb, eq_b1, eq_b2, eq_b3, eq_b4, eq_b5, ↓nM_lit, iN_lit, iN_add, iN_mul, iN_lt, iN_le, iN_eq, iN_c, gd_iN, iN_nM, nM_iN, iN_ltM, nM_lt, nM_le, iN_leM, iN_0M, nM_p1, iN_0s1, decide_true, decide_eq_true_eq, Nat.not_lt_zero, if_true, if_false, show ¬ (1 = 0) by decide, if_false, hs, this]
  · refine ⟨1, 0, K, 0, upo M 67 0 (iN 1), iN 1, ?_, rfl, ?_, congrArg some (u67 _ _), Or.inr ⟨rfl, rfl⟩, RI_j (RI_67 _ h)⟩
    · simp only [f_X10_length, sAt_n hn K, eq_grd, eq_lb, eq_b1, eq_b2, eq_b3, eq_b4, eq_b5]; rfl
    · simp (disch := omega) only [f_X11_length, isS_n hn, may_0, eq_grd, eq_lb, eq_b1, eq_b2, eq_b3, eq_b4, eq_b5, ↓nM_lit, iN_lit, iN_add, iN_mul, iN_lt, iN_le, iN_eq, iN_c, gd_iN, iN_nM, nM_iN, iN_ltM, nM_lt, nM_le, iN_leM, iN_0M, nM_p1, iN_0s1, decide_true, decide_eq_true_eq, Nat.not_lt_zero, if_true, if_false, if_true]
theorem isP_y {M : Ob} {s p n : Nat} (hs : s < 4) (h9 : M 9 s = iN n) (hn : n ≤ 6) (hp : p < n) : f_X11_isPlace M (iN s) (iN p) = some (iN 1) := by
  have := isI_y hp (by omega)
  simp (disch := omega) only [f_X11_isPlace, isS_y hs, eq_grd, eq_lb, eq_b1, eq_b2, eq_b3, eq_b4, eq_b5, ↓nM_lit, iN_lit, iN_add, iN_mul, iN_lt, iN_le, iN_eq, iN_c, gd_iN, iN_nM, nM_iN, iN_ltM, nM_lt, nM_le, iN_leM, iN_0M, nM_p1, iN_0s1, decide_true, decide_eq_true_eq, Nat.not_lt_zero, if_true, if_false, show ¬ (1 = 0) by decide, if_false, hs, h9]
  rw [this]
  simp (disch := omega) only [eq_grd, eq_lb, eq_b1, eq_b2, eq_b3, eq_b4, eq_b5, ↓nM_lit, iN_lit, iN_add, iN_mul, iN_lt, iN_le, iN_eq, iN_c, gd_iN, iN_nM, nM_iN, iN_ltM, nM_lt, nM_le, iN_leM, iN_0M, nM_p1, iN_0s1, decide_true, decide_eq_true_eq, Nat.not_lt_zero, if_true, if_false, show ¬ (1 = 0) by decide]
theorem isP_n {M : Ob} {s n : Nat} {p : Int32} (hs : s < 4) (h9 : M 9 s = iN n) (hn : n ≤ 6) (hp : nb p n) : f_X11_isPlace M (iN s) p = some (iN 0) := by
  have := isI_n hp (by omega)
  simp (disch := omega) only [f_X11_isPlace, isS_y hs, eq_grd, eq_lb, eq_b1, eq_b2, eq_b3, eq_b4, eq_b5, ↓nM_lit, iN_lit, iN_add, iN_mul, iN_lt, iN_le, iN_eq, iN_c, gd_iN, iN_nM, nM_iN, iN_ltM, nM_lt, nM_le, iN_leM, iN_0M, nM_p1, iN_0s1, decide_true, decide_eq_true_eq, Nat.not_lt_zero, if_true, if_false, show ¬ (1 = 0) by decide, if_false, hs, h9]
  rw [this]
  simp (disch := omega) only [eq_grd, eq_lb, eq_b1, eq_b2, eq_b3, eq_b4, eq_b5, ↓nM_lit, iN_lit, iN_add, iN_mul, iN_lt, iN_le, iN_eq, iN_c, gd_iN, iN_nM, nM_iN, iN_ltM, nM_lt, nM_le, iN_leM, iN_0M, nM_p1, iN_0s1, decide_true, decide_eq_true_eq, Nat.not_lt_zero, if_true, if_false]
theorem isP_s {M : Ob} {s p : Int32} (hs : nb s 4) : f_X11_isPlace M s p = some (iN 0) := by
  simp (disch := omega) only [f_X11_isPlace, isS_n hs, eq_grd, eq_lb, eq_b1, eq_b2, eq_b3, eq_b4, eq_b5, ↓nM_lit, iN_lit, iN_add, iN_mul, iN_lt, iN_le, iN_eq, iN_c, gd_iN, iN_nM, nM_iN, iN_ltM, nM_lt, nM_le, iN_leM, iN_0M, nM_p1, iN_0s1, decide_true, decide_eq_true_eq, Nat.not_lt_zero, if_true, if_false]
theorem op_wordAt {j : Nat} {K : Nat → Ob} {M : Ob} (h : RI j K M) (p1 p2 : Int32) : Op_wordAt RI j K M p1 p2 := by
  rcases in_or p1 (show 4 < 2147483648 by decide) with ⟨s, hs, e⟩ | hn
  · subst e
    obtain ⟨a1, a2, a3⟩ := RI_len h hs
    rcases in_or p2 (show evn M s < 2147483648 by omega) with ⟨p, hp, e⟩ | hn
    · subst e
      have w1 := (h.2.2.1 s hs).1.2.2 p hp
      have w2 := ((WTxt_at h.1.2.1 hs).2.2 p hp).2
      refine ⟨0, iN (evw M s p), K, iN (evw M s p), upo M 67 0 (iN 0), iN 0, ?_, rfl, ?_, congrArg some (u67 _ _), Or.inl ⟨rfl, rfl, rfl⟩, RI_j (RI_67 _ h)⟩
      · simp (disch := omega) only [f_X10_wordAt, X10_sAt K hs, eq_grd, eq_lb, eq_b1, eq_b2, eq_b3, eq_b4, eq_b5, if_true, hs, decide_true, f_X10_requirePlace, a1, isB_y hp (show evn M s < 2147483648 by omega), ↓nM_lit, iN_lit, iN_add, iN_mul, iN_lt, iN_le, iN_eq, iN_c, gd_iN, iN_nM, nM_iN, iN_ltM, nM_lt, nM_le, iN_leM, iN_0M, nM_p1, iN_0s1, decide_true, decide_eq_true_eq, Nat.not_lt_zero, if_true, if_false, show ¬ (1 = 0) by decide, if_false, f_X6_wordIn, show ¬ (evn M s ≤ p) by omega, show p < 6 by omega, w1]
      · have : upo M 67 0 (iN 0) 10 (6 * s + p) = iN (evw M s p) := by rw [upo_ne (by decide)]; exact w2
        simp (disch := omega) only [f_X11_wordAt, isP_y hs a2 a3 hp, may_1, eq_grd, eq_lb, eq_b1, eq_b2, eq_b3, eq_b4, eq_b5, ↓nM_lit, iN_lit, iN_add, iN_mul, iN_lt, iN_le, iN_eq, iN_c, gd_iN, iN_nM, nM_iN, iN_ltM, nM_lt, nM_le, iN_leM, iN_0M, nM_p1, iN_0s1, decide_true, decide_eq_true_eq, Nat.not_lt_zero, if_true, if_false, show ¬ (1 = 0) by decide, if_false, show 6 * s + p < 24 by omega, this]
    · refine ⟨1, 0, K, 0, upo M 67 0 (iN 1), iN 1, ?_, rfl, ?_, congrArg some (u67 _ _), Or.inr ⟨rfl, rfl⟩, RI_j (RI_67 _ h)⟩
      · simp (disch := omega) only [f_X10_wordAt, X10_sAt K hs, eq_grd, eq_lb, eq_b1, eq_b2, eq_b3, eq_b4, eq_b5, if_true, hs, decide_true, f_X10_requirePlace, a1, isB_n hn, ↓nM_lit, iN_lit, iN_add, iN_mul, iN_lt, iN_le, iN_eq, iN_c, gd_iN, iN_nM, nM_iN, iN_ltM, nM_lt, nM_le, iN_leM, iN_0M, nM_p1, iN_0s1, decide_true, decide_eq_true_eq, Nat.not_lt_zero, if_true, if_false, show ¬ (1 = 0) by decide, if_false]
      · simp (disch := omega) only [f_X11_wordAt, isP_n hs a2 a3 hn, may_0, eq_grd, eq_lb, eq_b1, eq_b2, eq_b3, eq_b4, eq_b5, ↓nM_lit, iN_lit, iN_add, iN_mul, iN_lt, iN_le, iN_eq, iN_c, gd_iN, iN_nM, nM_iN, iN_ltM, nM_lt, nM_le, iN_leM, iN_0M, nM_p1, iN_0s1, decide_true, decide_eq_true_eq, Nat.not_lt_zero, if_true, if_false, if_true]
  · refine ⟨1, 0, K, 0, upo M 67 0 (iN 1), iN 1, ?_, rfl, ?_, congrArg some (u67 _ _), Or.inr ⟨rfl, rfl⟩, RI_j (RI_67 _ h)⟩
    · simp only [f_X10_wordAt, sAt_n hn K, eq_grd, eq_lb, eq_b1, eq_b2, eq_b3, eq_b4, eq_b5]; rfl
    · simp (disch := omega) only [f_X11_wordAt, isP_s hn, may_0, eq_grd, eq_lb, eq_b1, eq_b2, eq_b3, eq_b4, eq_b5, ↓nM_lit, iN_lit, iN_add, iN_mul, iN_lt, iN_le, iN_eq, iN_c, gd_iN, iN_nM, nM_iN, iN_ltM, nM_lt, nM_le, iN_leM, iN_0M, nM_p1, iN_0s1, decide_true, decide_eq_true_eq, Nat.not_lt_zero, if_true, if_false, if_true]
theorem rW_y {j : Nat} {K : Nat → Ob} {M : Ob} (h : RI j K M) {w : Nat} (hw : w < nn (M 0 0)) : f_X10_requireWord K (iN w) = some 0 ∧ f_X11_isWord M (iN w) = some (iN 1) := by
  obtain ⟨a1, a2, a3⟩ := RI_words h
  have i1 := isB_y hw (by omega)
  have i2 := isI_y hw (by omega)
  refine ⟨?_, ?_⟩
  · simp (disch := omega) only [f_X10_requireWord, f_X3_hasWord, a1, i1, eq_grd, eq_lb, eq_b1, eq_b2, eq_b3, eq_b4, eq_b5, isb_1, ↓nM_lit, iN_lit, iN_add, iN_mul, iN_lt, iN_le, iN_eq, iN_c, gd_iN, iN_nM, nM_iN, iN_ltM, nM_lt, nM_le, iN_leM, iN_0M, nM_p1, iN_0s1, decide_true, decide_eq_true_eq, Nat.not_lt_zero, if_true, if_false, show ¬ (1 = 0) by decide, if_false]
  · rw [f_X11_isWord, a2]
    simp only [iN_lit, i2, eq_grd, eq_lb, eq_b1, eq_b2, eq_b3, eq_b4, eq_b5, isb_1]
theorem rW_n {j : Nat} {K : Nat → Ob} {M : Ob} (h : RI j K M) {w : Int32} (hw : nb w (nn (M 0 0))) : f_X10_requireWord K w = some 1 ∧ f_X11_isWord M w = some (iN 0) := by
  obtain ⟨a1, a2, a3⟩ := RI_words h
  have i1 := isB_n hw
  have i2 := isI_n hw (by omega)
  refine ⟨?_, ?_⟩
  · simp (disch := omega) only [f_X10_requireWord, f_X3_hasWord, a1, i1, eq_grd, eq_lb, eq_b1, eq_b2, eq_b3, eq_b4, eq_b5, isb_0, ↓nM_lit, iN_lit, iN_add, iN_mul, iN_lt, iN_le, iN_eq, iN_c, gd_iN, iN_nM, nM_iN, iN_ltM, nM_lt, nM_le, iN_leM, iN_0M, nM_p1, iN_0s1, decide_true, decide_eq_true_eq, Nat.not_lt_zero, if_true, if_false, if_true]
  · rw [f_X11_isWord, a2]
    simp only [iN_lit, i2, eq_grd, eq_lb, eq_b1, eq_b2, eq_b3, eq_b4, eq_b5, isb_0]
theorem X3_many {x M : Ob} (hx : QX3 x M) (hm : WLex M) {w : Nat} (hw : w < nn (M 0 0)) : wp (f_X3_rowOf x (iN w)) (fun r => f_X3_filledIn x r = some (iN (cnM M w))) := by
  have h40 := WLex_nw hm
  obtain ⟨⟨nw, hnw, enw⟩, h1, h2, h6, -⟩ := hm
  obtain ⟨x0, x1, x2, -⟩ := hx
  obtain ⟨a, ha, ea⟩ := h1 w (by omega)
  obtain ⟨b, hb, eb⟩ := h2 w (by omega)
  obtain ⟨c, hc, ec⟩ := h6 a (by omega)
  obtain ⟨y1, y2⟩ := x1 w (by omega)
  have e0 : x 0 0 = iN (nn (M 0 0)) := by rw [x0, enw, nn, iN_c (by omega)]
  simp (disch := omega) only [f_X3_rowOf, e0, ↓nM_lit, iN_lit, iN_add, iN_mul, iN_lt, iN_le, iN_eq, iN_c, gd_iN, iN_nM, nM_iN, iN_ltM, nM_lt, nM_le, iN_leM, iN_0M, nM_p1, iN_0s1, decide_true, decide_eq_true_eq, Nat.not_lt_zero, if_true, if_false, wp_some, wp_grd, wp_lb, wp_ite, wp_b1, wp_b2, wp_b3, wp_b4, wp_b5, hw, y1, y2, eb, ea, show w < 50 by omega, show w < 40 by omega, true_and]
  by_cases hb0 : b = 0
  · subst hb0
    rw [if_pos (by omega)]
    have e2 := x2 a (by omega)
    simp (disch := omega) only [f_X3_filledIn, ↓nM_lit, iN_lit, iN_add, iN_mul, iN_lt, iN_le, iN_eq, iN_c, gd_iN, iN_nM, nM_iN, iN_ltM, nM_lt, nM_le, iN_leM, iN_0M, nM_p1, iN_0s1, decide_true, decide_eq_true_eq, Nat.not_lt_zero, if_true, if_false, eq_grd, eq_lb, eq_b1, eq_b2, eq_b3, eq_b4, eq_b5, show ¬ (50 ≤ 40 + a) by omega, show 40 + a < 50 by omega, e2, ec, cnM, eb, nn, ea]
  · rw [if_neg (by omega)]
    simp (disch := omega) only [f_X3_filledIn, ↓nM_lit, iN_lit, iN_add, iN_mul, iN_lt, iN_le, iN_eq, iN_c, gd_iN, iN_nM, nM_iN, iN_ltM, nM_lt, nM_le, iN_leM, iN_0M, nM_p1, iN_0s1, decide_true, decide_eq_true_eq, Nat.not_lt_zero, if_true, if_false, eq_grd, eq_lb, eq_b1, eq_b2, eq_b3, eq_b4, eq_b5, show ¬ (50 ≤ w) by omega, show w < 50 by omega, y2, eb, cnM, nn, hb0, if_false]
theorem op_readings {j : Nat} {K : Nat → Ob} {M : Ob} (h : RI j K M) (p1 : Int32) : Op_readings RI j K M p1 := by
  obtain ⟨a1, a2, a3⟩ := RI_words h
  rcases in_or p1 (show nn (M 0 0) < 2147483648 by omega) with ⟨w, hw, e⟩ | hn
  · subst e
    obtain ⟨r1, r2⟩ := rW_y h hw
    obtain ⟨r, e1, e2⟩ := X3_many h.2.1.1 h.1.1 hw
    have hl : WLex (upo M 67 0 (iN 0)) := WLex_cg (fun k hk => upo_ne (by omega)) h.1.1
    have e3 := X11_count hl (show w < 40 by omega)
    rw [cnM_cg (M := M) (fun k hk => upo_ne (by omega))] at e3
    refine ⟨0, iN (cnM M w), K, iN (cnM M w), upo M 67 0 (iN 0), iN 0, ?_, rfl, ?_, congrArg some (u67 _ _), Or.inl ⟨rfl, rfl, rfl⟩, RI_j (RI_67 _ h)⟩
    · simp only [f_X10_readings, r1, eq_grd, eq_lb, eq_b1, eq_b2, eq_b3, eq_b4, eq_b5, if_true, e1, e2]
    · simp (disch := omega) only [f_X11_readings, r2, may_1, eq_grd, eq_lb, eq_b1, eq_b2, eq_b3, eq_b4, eq_b5, ↓nM_lit, iN_lit, iN_add, iN_mul, iN_lt, iN_le, iN_eq, iN_c, gd_iN, iN_nM, nM_iN, iN_ltM, nM_lt, nM_le, iN_leM, iN_0M, nM_p1, iN_0s1, decide_true, decide_eq_true_eq, Nat.not_lt_zero, if_true, if_false, show ¬ (1 = 0) by decide, if_false, e3]
  · obtain ⟨r1, r2⟩ := rW_n h hn
    refine ⟨1, 0, K, 0, upo M 67 0 (iN 1), iN 1, ?_, rfl, ?_, congrArg some (u67 _ _), Or.inr ⟨rfl, rfl⟩, RI_j (RI_67 _ h)⟩
    · simp only [f_X10_readings, r1, eq_grd, eq_lb, eq_b1, eq_b2, eq_b3, eq_b4, eq_b5]; rfl
    · simp (disch := omega) only [f_X11_readings, r2, may_0, eq_grd, eq_lb, eq_b1, eq_b2, eq_b3, eq_b4, eq_b5, ↓nM_lit, iN_lit, iN_add, iN_mul, iN_lt, iN_le, iN_eq, iN_c, gd_iN, iN_nM, nM_iN, iN_ltM, nM_lt, nM_le, iN_leM, iN_0M, nM_p1, iN_0s1, decide_true, decide_eq_true_eq, Nat.not_lt_zero, if_true, if_false, if_true]
theorem op_reads {j : Nat} {K : Nat → Ob} {M : Ob} (h : RI j K M) : Op_reads RI j K M := by
  refine ⟨K 0 12 0, upo M 67 0 (iN 0), rfl, ?_, RI_j (RI_67 _ h)⟩
  rw [f_X11_reads, h.2.2.2.2.1]
  simp only [eq_grd, eq_lb, eq_b1, eq_b2, eq_b3, eq_b4, eq_b5, iN_lit]
  rw [upo_ne (by decide)]
