/-! Calls that ask the chart. -/
theorem iN_div {a b : Nat} (ha : a < 2147483648) (hb : b < 2147483648) : iN a / iN b = iN (a / b) := by
  have hd : a / b ≤ a := Nat.div_le_self _ _
  rw [← Int32.toInt_inj, Int32.toInt_div, iN_t ha, iN_t hb, iN_t (show a / b < 2147483648 by omega), ← Int.ofNat_tdiv]
  generalize a / b = q at hd ⊢
  apply Int.bmod_eq_of_le <;> omega
theorem w_or (p : Int32) {n : Nat} (hn : n < 2147483648) : (∃ w, 1 ≤ w ∧ w ≤ n ∧ p = iN w) ∨ (p < iN 1 ∨ iN n < p) := by
  rcases i32_cases p with h | ⟨a, ha, e⟩
  · refine Or.inr (Or.inl ?_)
    rw [Int32.lt_iff_toInt_lt] at h ⊢
    rw [iN_t (by decide)] at h ⊢
    omega
  · subst e
    by_cases h1 : a < 1
    · exact Or.inr (Or.inl ((iN_lt ha (by decide)).mpr h1))
    · by_cases h2 : n < a
      · exact Or.inr (Or.inr ((iN_lt hn ha).mpr h2))
      · exact Or.inl ⟨a, by omega, by omega, rfl⟩
theorem sp_y {j : Nat} {K : Nat → Ob} {M : Ob} (h : RI j K M) {s b w : Nat} (hs : s < 4) (hw : 1 ≤ w) (hb : b + w ≤ evn M s) : f_X10_requireSpan K s (iN b) (iN w) = some 0 ∧ f_X11_isSpan M (iN s) (iN b) (iN w) = some (iN 1) := by
  obtain ⟨a1, a2, a3⟩ := RI_len h hs
  have i1 := isB_y (show b < evn M s by omega) (by omega)
  have i2 := isP_y hs a2 a3 (show b < evn M s by omega)
  refine ⟨?_, ?_⟩
  · simp (disch := omega) only [f_X10_requireSpan, a1, i1, eq_grd, eq_lb, eq_b1, eq_b2, eq_b3, eq_b4, eq_b5, ↓nM_lit, iN_lit, iN_add, iN_mul, iN_lt, iN_le, iN_eq, iN_c, gd_iN, iN_nM, nM_iN, iN_ltM, nM_lt, nM_le, iN_leM, iN_0M, nM_p1, iN_0s1, decide_true, decide_eq_true_eq, Nat.not_lt_zero, if_true, if_false, show ¬ (1 = 0) by decide, if_false, show ¬ (w < 1) by omega, iN_sub (show b ≤ evn M s by omega), show w ≤ evn M s - b by omega]
  · simp (disch := omega) only [f_X11_isSpan, f_X11_isIn, i2, a2, eq_grd, eq_lb, eq_b1, eq_b2, eq_b3, eq_b4, eq_b5, ↓nM_lit, iN_lit, iN_add, iN_mul, iN_lt, iN_le, iN_eq, iN_c, gd_iN, iN_nM, nM_iN, iN_ltM, nM_lt, nM_le, iN_leM, iN_0M, nM_p1, iN_0s1, decide_true, decide_eq_true_eq, Nat.not_lt_zero, if_true, if_false, show ¬ (1 = 0) by decide, if_false, hs, show ¬ (w < 1) by omega, iN_sub (show b ≤ evn M s by omega), show ¬ (evn M s - b < w) by omega]
theorem sp_n {j : Nat} {K : Nat → Ob} {M : Ob} (h : RI j K M) {s : Nat} {p2 p3 : Int32} (hs : s < 4) (hn : nb p2 (evn M s) ∨ ∃ b, b < evn M s ∧ p2 = iN b ∧ (p3 < iN 1 ∨ iN (evn M s - b) < p3)) : f_X10_requireSpan K s p2 p3 = some 1 ∧ f_X11_isSpan M (iN s) p2 p3 = some (iN 0) := by
  obtain ⟨a1, a2, a3⟩ := RI_len h hs
  rcases hn with hn | ⟨b, hb, e, hn⟩
  · refine ⟨?_, ?_⟩
    · simp (disch := omega) only [f_X10_requireSpan, a1, isB_n hn, eq_grd, eq_lb, eq_b1, eq_b2, eq_b3, eq_b4, eq_b5, ↓nM_lit, iN_lit, iN_add, iN_mul, iN_lt, iN_le, iN_eq, iN_c, gd_iN, iN_nM, nM_iN, iN_ltM, nM_lt, nM_le, iN_leM, iN_0M, nM_p1, iN_0s1, decide_true, decide_eq_true_eq, Nat.not_lt_zero, if_true, if_false, if_true]
    · simp (disch := omega) only [f_X11_isSpan, isP_n hs a2 a3 hn, eq_grd, eq_lb, eq_b1, eq_b2, eq_b3, eq_b4, eq_b5, ↓nM_lit, iN_lit, iN_add, iN_mul, iN_lt, iN_le, iN_eq, iN_c, gd_iN, iN_nM, nM_iN, iN_ltM, nM_lt, nM_le, iN_leM, iN_0M, nM_p1, iN_0s1, decide_true, decide_eq_true_eq, Nat.not_lt_zero, if_true, if_false, if_true]
  · subst e
    have i1 := isB_y hb (by omega)
    have i2 := isP_y hs a2 a3 hb
    rcases hn with hn | hn
    · refine ⟨?_, ?_⟩
      · simp (disch := omega) only [f_X10_requireSpan, a1, i1, eq_grd, eq_lb, eq_b1, eq_b2, eq_b3, eq_b4, eq_b5, ↓nM_lit, iN_lit, iN_add, iN_mul, iN_lt, iN_le, iN_eq, iN_c, gd_iN, iN_nM, nM_iN, iN_ltM, nM_lt, nM_le, iN_leM, iN_0M, nM_p1, iN_0s1, decide_true, decide_eq_true_eq, Nat.not_lt_zero, if_true, if_false, show ¬ (1 = 0) by decide, if_false, hn, if_true]
      · simp (disch := omega) only [f_X11_isSpan, f_X11_isIn, i2, a2, eq_grd, eq_lb, eq_b1, eq_b2, eq_b3, eq_b4, eq_b5, ↓nM_lit, iN_lit, iN_add, iN_mul, iN_lt, iN_le, iN_eq, iN_c, gd_iN, iN_nM, nM_iN, iN_ltM, nM_lt, nM_le, iN_leM, iN_0M, nM_p1, iN_0s1, decide_true, decide_eq_true_eq, Nat.not_lt_zero, if_true, if_false, show ¬ (1 = 0) by decide, if_false, hs, hn, if_true]
    · have h1 : ¬ (p3 < iN 1) := by
        rw [Int32.lt_iff_toInt_lt] at hn ⊢
        rw [iN_t (by omega)] at hn
        rw [iN_t (by decide)]
        omega
      have h2 : ¬ (p3 ≤ iN (evn M s - b)) := fun h => i32_nlt.mpr h hn
      refine ⟨?_, ?_⟩
      · simp (disch := omega) only [f_X10_requireSpan, a1, i1, eq_grd, eq_lb, eq_b1, eq_b2, eq_b3, eq_b4, eq_b5, ↓nM_lit, iN_lit, iN_add, iN_mul, iN_lt, iN_le, iN_eq, iN_c, gd_iN, iN_nM, nM_iN, iN_ltM, nM_lt, nM_le, iN_leM, iN_0M, nM_p1, iN_0s1, decide_true, decide_eq_true_eq, Nat.not_lt_zero, if_true, if_false, show ¬ (1 = 0) by decide, if_false, h1, iN_sub (show b ≤ evn M s by omega), h2]
      · simp (disch := omega) only [f_X11_isSpan, f_X11_isIn, i2, a2, eq_grd, eq_lb, eq_b1, eq_b2, eq_b3, eq_b4, eq_b5, ↓nM_lit, iN_lit, iN_add, iN_mul, iN_lt, iN_le, iN_eq, iN_c, gd_iN, iN_nM, nM_iN, iN_ltM, nM_lt, nM_le, iN_leM, iN_0M, nM_p1, iN_0s1, decide_true, decide_eq_true_eq, Nat.not_lt_zero, if_true, if_false, show ¬ (1 = 0) by decide, if_false, hs, h1, iN_sub (show b ≤ evn M s by omega), hn, if_true]
theorem sp_s {M : Ob} {s p2 p3 : Int32} (hs : nb s 4) : f_X11_isSpan M s p2 p3 = some (iN 0) := by
  simp (disch := omega) only [f_X11_isSpan, isP_s hs, eq_grd, eq_lb, eq_b1, eq_b2, eq_b3, eq_b4, eq_b5, ↓nM_lit, iN_lit, iN_add, iN_mul, iN_lt, iN_le, iN_eq, iN_c, gd_iN, iN_nM, nM_iN, iN_ltM, nM_lt, nM_le, iN_leM, iN_0M, nM_p1, iN_0s1, decide_true, decide_eq_true_eq, Nat.not_lt_zero, if_true, if_false, if_true]
/-- the span is there, or it is refused on both sides -/
theorem span_or {j : Nat} {K : Nat → Ob} {M : Ob} (h : RI j K M) {s : Nat} (hs : s < 4) (p2 p3 : Int32) : (∃ b w, 1 ≤ w ∧ b + w ≤ evn M s ∧ p2 = iN b ∧ p3 = iN w) ∨ (f_X10_requireSpan K s p2 p3 = some 1 ∧ f_X11_isSpan M (iN s) p2 p3 = some (iN 0)) := by
  obtain ⟨a1, a2, a3⟩ := RI_len h hs
  rcases in_or p2 (show evn M s < 2147483648 by omega) with ⟨b, hb, e⟩ | hn
  · rcases w_or p3 (show evn M s - b < 2147483648 by omega) with ⟨w, hw, hw2, e2⟩ | hn
    · exact Or.inl ⟨b, w, hw, by omega, e, e2⟩
    · exact Or.inr (sp_n h hs (Or.inr ⟨b, hb, e, hn⟩))
  · exact Or.inr (sp_n h hs (Or.inl hn))
theorem op_edges {j : Nat} {K : Nat → Ob} {M : Ob} (h : RI j K M) (p1 p2 p3 : Int32) : Op_edges RI j K M p1 p2 p3 := by
  rcases in_or p1 (show 4 < 2147483648 by decide) with ⟨s, hs, e⟩ | hn
  · subst e
    rcases span_or h hs p2 p3 with ⟨b, w, hw, hb, e1, e2⟩ | ⟨e1, e2⟩
    · subst e1; subst e2
      obtain ⟨q1, q2⟩ := sp_y h hs hw hb
      obtain ⟨K', y, e1, e2, hR, h67, h9, hcr, -⟩ := both_need (RI_67 (iN 0) h) hs
      have h6 := (RI_len h hs).2.2
      have en : evn y s = evn M s := by
        have hc2 : cor M (upo M 67 0 (iN 0)) := fun k hk => upo_ne (by omega)
        rw [evn_cg hcr, evn_cg hc2]
      obtain ⟨hI, ⟨-, -, -, -, c0, -, hC⟩, ⟨n, n1, hC2⟩, hW⟩ := id hR
      have r1 := (hC (6 * b + w - 1) (by omega)).1
      have r2 := (hC2.2 (6 * b + w - 1) (by omega)).1
      refine ⟨0, iN (chM (gr y) (sr y) y s (6 * b + w - 1)).length, K', iN (chM (gr y) (sr y) y s (6 * b + w - 1)).length, y, iN 0, ?_, ?_, ?_, Or.inl ⟨rfl, rfl, rfl⟩, RI_j hI⟩
      · simp (disch := omega) only [f_X10_edges, X10_sAt K hs, eq_grd, eq_lb, eq_b1, eq_b2, eq_b3, eq_b4, eq_b5, if_true, hs, decide_true, q1, e1, spanN hw, f_X0_edgesOf, ↓nM_lit, iN_lit, iN_add, iN_mul, iN_lt, iN_le, iN_eq, iN_c, gd_iN, iN_nM, nM_iN, iN_ltM, nM_lt, nM_le, iN_leM, iN_0M, nM_p1, iN_0s1, decide_true, decide_eq_true_eq, Nat.not_lt_zero, if_true, if_false, show ¬ (36 ≤ 6 * b + w - 1) by omega, show 6 * b + w - 1 < 36 by omega, r1]
      · simp (disch := omega) only [f_X11_edges, q2, may_1, eq_grd, eq_lb, eq_b1, eq_b2, eq_b3, eq_b4, eq_b5, ↓nM_lit, iN_lit, iN_add, iN_mul, iN_lt, iN_le, iN_eq, iN_c, gd_iN, iN_nM, nM_iN, iN_ltM, nM_lt, nM_le, iN_leM, iN_0M, nM_p1, iN_0s1, decide_true, decide_eq_true_eq, Nat.not_lt_zero, if_true, if_false, show ¬ (1 = 0) by decide, if_false, e2, iN_s1 (show 0 < 6 * b + w by omega), show 6 * b + w - 1 < 36 by omega, r2]
      · rw [f_X11_thrown, h67, u67]
    · refine ⟨1, 0, K, 0, upo M 67 0 (iN 1), iN 1, ?_, ?_, congrArg some (u67 _ _), Or.inr ⟨rfl, rfl⟩, RI_j (RI_67 _ h)⟩
      · simp (disch := omega) only [f_X10_edges, X10_sAt K hs, eq_grd, eq_lb, eq_b1, eq_b2, eq_b3, eq_b4, eq_b5, if_true, hs, decide_true, e1, ↓nM_lit, iN_lit, iN_add, iN_mul, iN_lt, iN_le, iN_eq, iN_c, gd_iN, iN_nM, nM_iN, iN_ltM, nM_lt, nM_le, iN_leM, iN_0M, nM_p1, iN_0s1, decide_true, decide_eq_true_eq, Nat.not_lt_zero, if_true, if_false, show ¬ (1 = 0) by decide, if_false]
      · simp (disch := omega) only [f_X11_edges, e2, may_0, eq_grd, eq_lb, eq_b1, eq_b2, eq_b3, eq_b4, eq_b5, ↓nM_lit, iN_lit, iN_add, iN_mul, iN_lt, iN_le, iN_eq, iN_c, gd_iN, iN_nM, nM_iN, iN_ltM, nM_lt, nM_le, iN_leM, iN_0M, nM_p1, iN_0s1, decide_true, decide_eq_true_eq, Nat.not_lt_zero, if_true, if_false, if_true]
  · refine ⟨1, 0, K, 0, upo M 67 0 (iN 1), iN 1, ?_, ?_, congrArg some (u67 _ _), Or.inr ⟨rfl, rfl⟩, RI_j (RI_67 _ h)⟩
    · simp only [f_X10_edges, sAt_n hn K, eq_grd, eq_lb, eq_b1, eq_b2, eq_b3, eq_b4, eq_b5]; rfl
    · simp (disch := omega) only [f_X11_edges, sp_s hn, may_0, eq_grd, eq_lb, eq_b1, eq_b2, eq_b3, eq_b4, eq_b5, ↓nM_lit, iN_lit, iN_add, iN_mul, iN_lt, iN_le, iN_eq, iN_c, gd_iN, iN_nM, nM_iN, iN_ltM, nM_lt, nM_le, iN_leM, iN_0M, nM_p1, iN_0s1, decide_true, decide_eq_true_eq, Nat.not_lt_zero, if_true, if_false, if_true]
/-- an edge that is asked for, on both sides -/
theorem asked_both {j : Nat} {K : Nat → Ob} {M : Ob} (h : RI j K M) {s b w : Nat} (hs : s < 4) (hw : 1 ≤ w) (hb : b + w ≤ evn M s) (p4 : Int32) :
    ∃ K' y, f_X10_requireSpan K s (iN b) (iN w) = some 0 ∧ f_X10_readAsNeeded K (iN s) = some (0, s, K') ∧ RI j K' y ∧
      ((∃ i d t, f_X10_edgeAt K' s (iN (6 * b + w - 1)) p4 = some (0, iN (8 * (6 * b + w - 1) + i)) ∧ f_X11_asked M (iN s) (iN b) (iN w) p4 = some (iN d, y) ∧ y 67 0 = iN 0 ∧ 8 * (6 * b + w - 1) + i < 288 ∧ d < 40000 ∧ WGr (gr y) ∧ WT (gr y) t ∧ RC (K' (14 + s)) (gr y) t (8 * (6 * b + w - 1) + i) ∧ MC y (gr y) t d) ∨
       (f_X10_edgeAt K' s (iN (6 * b + w - 1)) p4 = some (1, 0) ∧ f_X11_asked M (iN s) (iN b) (iN w) p4 = some (nM, y) ∧ y 67 0 = iN 1)) := by
  obtain ⟨q1, q2⟩ := sp_y h hs hw hb
  obtain ⟨K', y, e1, e2, hR, h67, h9, hcr, -⟩ := both_need (RI_67 (iN 0) h) hs
  have h6 := (RI_len h hs).2.2
  obtain ⟨hI, ⟨-, -, -, -, c0, -, hC⟩, ⟨n, n1, hC2⟩, hW⟩ := id hR
  obtain ⟨r1, rr⟩ := hC (6 * b + w - 1) (by omega)
  obtain ⟨r2, rm⟩ := hC2.2 (6 * b + w - 1) (by omega)
  have h8 := hW.2 (6 * b + w - 1)
  have ecd : cM y s = chM (gr y) (sr y) y s := rfl
  rw [ecd] at h8
  have hg : WGr (gr y) := hI.1.2.2.2
  rcases in_or p4 (show (chM (gr y) (sr y) y s (6 * b + w - 1)).length < 2147483648 by omega) with ⟨i, hi, e⟩ | hn
  · subst e
    obtain ⟨d, hd, ed, hmd⟩ := rm i hi
    have i1 := isB_y hi (by omega)
    have i2 := isI_y hi (by omega)
    have hwt := (hW.1 (6 * b + w - 1) _ (getD_mem hi)).1
    have f40 : upo y 67 0 (iN 0) 40 (8 * (6 * b + w - 1) + i) = iN d := by rw [upo_ne (by decide)]; exact ed
    refine ⟨K', upo y 67 0 (iN 0), q1, e1, RI_67 _ hI, Or.inl ⟨i, d, (chM (gr y) (sr y) y s (6 * b + w - 1)).getD i dum, ?_, ?_, u67 _ _, by omega, by omega, ?_, ?_, ?_, ?_⟩⟩
    · simp (disch := omega) only [f_X10_edgeAt, f_X0_edgesOf, ↓nM_lit, iN_lit, iN_add, iN_mul, iN_lt, iN_le, iN_eq, iN_c, gd_iN, iN_nM, nM_iN, iN_ltM, nM_lt, nM_le, iN_leM, iN_0M, nM_p1, iN_0s1, decide_true, decide_eq_true_eq, Nat.not_lt_zero, if_true, if_false, eq_grd, eq_lb, eq_b1, eq_b2, eq_b3, eq_b4, eq_b5, show ¬ (36 ≤ 6 * b + w - 1) by omega, show 6 * b + w - 1 < 36 by omega, r1, i1, show ¬ (1 = 0) by decide, if_false, show (6 * b + w - 1) * 8 + i = 8 * (6 * b + w - 1) + i by omega]
    · simp (disch := omega) only [f_X11_asked, q2, may_1, eq_grd, eq_lb, eq_b1, eq_b2, eq_b3, eq_b4, eq_b5, ↓nM_lit, iN_lit, iN_add, iN_mul, iN_lt, iN_le, iN_eq, iN_c, gd_iN, iN_nM, nM_iN, iN_ltM, nM_lt, nM_le, iN_leM, iN_0M, nM_p1, iN_0s1, decide_true, decide_eq_true_eq, Nat.not_lt_zero, if_true, if_false, show ¬ (1 = 0) by decide, if_false, e2, iN_s1 (show 0 < 6 * b + w by omega), show 6 * b + w - 1 < 36 by omega, r2]
      rw [i2]
      simp (disch := omega) only [eq_grd, eq_lb, eq_b1, eq_b2, eq_b3, eq_b4, eq_b5, may_1, ↓nM_lit, iN_lit, iN_add, iN_mul, iN_lt, iN_le, iN_eq, iN_c, gd_iN, iN_nM, nM_iN, iN_ltM, nM_lt, nM_le, iN_leM, iN_0M, nM_p1, iN_0s1, decide_true, decide_eq_true_eq, Nat.not_lt_zero, if_true, if_false, show ¬ (1 = 0) by decide, if_false, show 8 * (6 * b + w - 1) + i < 288 by omega, f40]
    all_goals rw [gr_cg (M := y) (M' := upo y 67 0 (iN 0)) (fun k hk => upo_ne (by omega))]
    · exact hg
    · exact hwt
    · exact rr i hi
    · exact MC_cg (fun k k1 k2 => upo_ne (by omega)) hmd
  · have i1 := isB_n hn
    have i2 := isI_n hn (by omega)
    refine ⟨K', upo y 67 0 (iN 1), q1, e1, RI_67 _ hI, Or.inr ⟨?_, ?_, u67 _ _⟩⟩
    · simp (disch := omega) only [f_X10_edgeAt, f_X0_edgesOf, ↓nM_lit, iN_lit, iN_add, iN_mul, iN_lt, iN_le, iN_eq, iN_c, gd_iN, iN_nM, nM_iN, iN_ltM, nM_lt, nM_le, iN_leM, iN_0M, nM_p1, iN_0s1, decide_true, decide_eq_true_eq, Nat.not_lt_zero, if_true, if_false, eq_grd, eq_lb, eq_b1, eq_b2, eq_b3, eq_b4, eq_b5, show ¬ (36 ≤ 6 * b + w - 1) by omega, show 6 * b + w - 1 < 36 by omega, r1, i1, if_true]
    · simp (disch := omega) only [f_X11_asked, q2, may_1, eq_grd, eq_lb, eq_b1, eq_b2, eq_b3, eq_b4, eq_b5, ↓nM_lit, iN_lit, iN_add, iN_mul, iN_lt, iN_le, iN_eq, iN_c, gd_iN, iN_nM, nM_iN, iN_ltM, nM_lt, nM_le, iN_leM, iN_0M, nM_p1, iN_0s1, decide_true, decide_eq_true_eq, Nat.not_lt_zero, if_true, if_false, show ¬ (1 = 0) by decide, if_false, e2, iN_s1 (show 0 < 6 * b + w by omega), show 6 * b + w - 1 < 36 by omega, r2]
      rw [i2]
      simp (disch := omega) only [eq_grd, eq_lb, eq_b1, eq_b2, eq_b3, eq_b4, eq_b5, may_0, ↓nM_lit, iN_lit, iN_add, iN_mul, iN_lt, iN_le, iN_eq, iN_c, gd_iN, iN_nM, nM_iN, iN_ltM, nM_lt, nM_le, iN_leM, iN_0M, nM_p1, iN_0s1, decide_true, decide_eq_true_eq, Nat.not_lt_zero, if_true, if_false, if_true]
theorem op_edge {j : Nat} {K : Nat → Ob} {M : Ob} (h : RI j K M) (p1 p2 p3 p4 : Int32) : Op_edge RI j K M p1 p2 p3 p4 := by
  rcases in_or p1 (show 4 < 2147483648 by decide) with ⟨s, hs, e⟩ | hn
  · subst e
    rcases span_or h hs p2 p3 with ⟨b, w, hw, hb, e1, e2⟩ | ⟨e1, e2⟩
    · subst e1; subst e2
      obtain ⟨K', y, q1, e1, hI, hcase⟩ := asked_both h hs hw hb p4
      rcases hcase with ⟨i, d, t, f1, f2, f3, f4, f5, f6, f7, f8, f9⟩ | ⟨f1, f2, f3⟩
      · obtain ⟨g1, g2, -⟩ := X0_get f8 f4
        obtain ⟨m1, m2, -⟩ := MC_2 f9
        obtain ⟨c, hc, ec⟩ := tC_le f6 t f7
        have hF := tF_lt f6 t f7
        have v0 := fea_get hF (show 0 < 3 by decide)
        have v1 := fea_get hF (show 1 < 3 by decide)
        have v2 := fea_get hF (show 2 < 3 by decide)
        have hans : (((iN 1000 * tC (gr y) t) + (iN 100 * iN (fv (tF (gr y) t) 0))) + (iN 10 * iN (fv (tF (gr y) t) 1))) + iN (fv (tF (gr y) t) 2) = iN 1000 * tC (gr y) t + iN (dec (tF (gr y) t)) := by
          rw [ec]
          simp only [iN_mul, iN_add, dec]
          congr 1; omega
        refine ⟨0, iN 1000 * tC (gr y) t + iN (dec (tF (gr y) t)), K', iN 1000 * tC (gr y) t + iN (dec (tF (gr y) t)), y, iN 0, ?_, ?_, ?_, Or.inl ⟨rfl, rfl, rfl⟩, RI_j hI⟩
        · rw [f_X10_edge, X10_sAt K hs]
          simp only [eq_grd, eq_lb, eq_b1, eq_b2, eq_b3, eq_b4, eq_b5, if_true, hs, decide_true, q1, e1, spanN hw, f1, g1, g2, f_X10_valueOf, iN_lit, iN_mul 2, v0, v1, v2, hans]
        · simp (disch := omega) only [f_X11_edge, f2, eq_grd, eq_lb, eq_b1, eq_b2, eq_b3, eq_b4, eq_b5, ↓nM_lit, iN_lit, iN_add, iN_mul, iN_lt, iN_le, iN_eq, iN_c, gd_iN, iN_nM, nM_iN, iN_ltM, nM_lt, nM_le, iN_leM, iN_0M, nM_p1, iN_0s1, decide_true, decide_eq_true_eq, Nat.not_lt_zero, if_true, if_false, f5, m1, m2, if_false]
        · rw [f_X11_thrown, f3]
      · refine ⟨1, 0, K', 0, y, iN 1, ?_, ?_, by rw [f_X11_thrown, f3], Or.inr ⟨rfl, rfl⟩, RI_j hI⟩
        · simp (disch := omega) only [f_X10_edge, X10_sAt K hs, eq_grd, eq_lb, eq_b1, eq_b2, eq_b3, eq_b4, eq_b5, if_true, hs, decide_true, q1, e1, spanN hw, f1, show ¬ (1 = 0) by decide, if_false]
        · simp (disch := omega) only [f_X11_edge, f2, eq_grd, eq_lb, eq_b1, eq_b2, eq_b3, eq_b4, eq_b5, ↓nM_lit, iN_lit, iN_add, iN_mul, iN_lt, iN_le, iN_eq, iN_c, gd_iN, iN_nM, nM_iN, iN_ltM, nM_lt, nM_le, iN_leM, iN_0M, nM_p1, iN_0s1, decide_true, decide_eq_true_eq, Nat.not_lt_zero, if_true, if_false, if_true]
    · refine ⟨1, 0, K, 0, upo M 67 0 (iN 1), iN 1, ?_, ?_, congrArg some (u67 _ _), Or.inr ⟨rfl, rfl⟩, RI_j (RI_67 _ h)⟩
      · simp (disch := omega) only [f_X10_edge, X10_sAt K hs, eq_grd, eq_lb, eq_b1, eq_b2, eq_b3, eq_b4, eq_b5, if_true, hs, decide_true, e1, ↓nM_lit, iN_lit, iN_add, iN_mul, iN_lt, iN_le, iN_eq, iN_c, gd_iN, iN_nM, nM_iN, iN_ltM, nM_lt, nM_le, iN_leM, iN_0M, nM_p1, iN_0s1, decide_true, decide_eq_true_eq, Nat.not_lt_zero, if_true, if_false, show ¬ (1 = 0) by decide, if_false]
      · simp (disch := omega) only [f_X11_edge, f_X11_asked, e2, may_0, eq_grd, eq_lb, eq_b1, eq_b2, eq_b3, eq_b4, eq_b5, ↓nM_lit, iN_lit, iN_add, iN_mul, iN_lt, iN_le, iN_eq, iN_c, gd_iN, iN_nM, nM_iN, iN_ltM, nM_lt, nM_le, iN_leM, iN_0M, nM_p1, iN_0s1, decide_true, decide_eq_true_eq, Nat.not_lt_zero, if_true, if_false, if_true]
  · refine ⟨1, 0, K, 0, upo M 67 0 (iN 1), iN 1, ?_, ?_, congrArg some (u67 _ _), Or.inr ⟨rfl, rfl⟩, RI_j (RI_67 _ h)⟩
    · simp only [f_X10_edge, sAt_n hn K, eq_grd, eq_lb, eq_b1, eq_b2, eq_b3, eq_b4, eq_b5]; rfl
    · simp (disch := omega) only [f_X11_edge, f_X11_asked, sp_s hn, may_0, eq_grd, eq_lb, eq_b1, eq_b2, eq_b3, eq_b4, eq_b5, ↓nM_lit, iN_lit, iN_add, iN_mul, iN_lt, iN_le, iN_eq, iN_c, gd_iN, iN_nM, nM_iN, iN_ltM, nM_lt, nM_le, iN_leM, iN_0M, nM_p1, iN_0s1, decide_true, decide_eq_true_eq, Nat.not_lt_zero, if_true, if_false, if_true]
theorem op_edgeCost {j : Nat} {K : Nat → Ob} {M : Ob} (h : RI j K M) (p1 p2 p3 p4 : Int32) : Op_edgeCost RI j K M p1 p2 p3 p4 := by
  rcases in_or p1 (show 4 < 2147483648 by decide) with ⟨s, hs, e⟩ | hn
  · subst e
    rcases span_or h hs p2 p3 with ⟨b, w, hw, hb, e1, e2⟩ | ⟨e1, e2⟩
    · subst e1; subst e2
      obtain ⟨K', y, q1, e1, hI, hcase⟩ := asked_both h hs hw hb p4
      rcases hcase with ⟨i, d, t, f1, f2, f3, f4, f5, f6, f7, f8, f9⟩ | ⟨f1, f2, f3⟩
      · obtain ⟨-, -, g3⟩ := X0_get f8 f4
        obtain ⟨-, -, m3⟩ := MC_2 f9
        refine ⟨0, tK (gr y) t, K', tK (gr y) t, y, iN 0, ?_, ?_, ?_, Or.inl ⟨rfl, rfl, rfl⟩, RI_j hI⟩
        · rw [f_X10_edgeCost, X10_sAt K hs]
          simp only [eq_grd, eq_lb, eq_b1, eq_b2, eq_b3, eq_b4, eq_b5, if_true, hs, decide_true, q1, e1, spanN hw, f1, g3]
        · simp (disch := omega) only [f_X11_edgeCost, f2, eq_grd, eq_lb, eq_b1, eq_b2, eq_b3, eq_b4, eq_b5, ↓nM_lit, iN_lit, iN_add, iN_mul, iN_lt, iN_le, iN_eq, iN_c, gd_iN, iN_nM, nM_iN, iN_ltM, nM_lt, nM_le, iN_leM, iN_0M, nM_p1, iN_0s1, decide_true, decide_eq_true_eq, Nat.not_lt_zero, if_true, if_false, f5, m3, if_false]
        · rw [f_X11_thrown, f3]
      · refine ⟨1, 0, K', 0, y, iN 1, ?_, ?_, by rw [f_X11_thrown, f3], Or.inr ⟨rfl, rfl⟩, RI_j hI⟩
        · simp (disch := omega) only [f_X10_edgeCost, X10_sAt K hs, eq_grd, eq_lb, eq_b1, eq_b2, eq_b3, eq_b4, eq_b5, if_true, hs, decide_true, q1, e1, spanN hw, f1, show ¬ (1 = 0) by decide, if_false]
        · simp (disch := omega) only [f_X11_edgeCost, f2, eq_grd, eq_lb, eq_b1, eq_b2, eq_b3, eq_b4, eq_b5, ↓nM_lit, iN_lit, iN_add, iN_mul, iN_lt, iN_le, iN_eq, iN_c, gd_iN, iN_nM, nM_iN, iN_ltM, nM_lt, nM_le, iN_leM, iN_0M, nM_p1, iN_0s1, decide_true, decide_eq_true_eq, Nat.not_lt_zero, if_true, if_false, if_true]
    · refine ⟨1, 0, K, 0, upo M 67 0 (iN 1), iN 1, ?_, ?_, congrArg some (u67 _ _), Or.inr ⟨rfl, rfl⟩, RI_j (RI_67 _ h)⟩
      · simp (disch := omega) only [f_X10_edgeCost, X10_sAt K hs, eq_grd, eq_lb, eq_b1, eq_b2, eq_b3, eq_b4, eq_b5, if_true, hs, decide_true, e1, ↓nM_lit, iN_lit, iN_add, iN_mul, iN_lt, iN_le, iN_eq, iN_c, gd_iN, iN_nM, nM_iN, iN_ltM, nM_lt, nM_le, iN_leM, iN_0M, nM_p1, iN_0s1, decide_true, decide_eq_true_eq, Nat.not_lt_zero, if_true, if_false, show ¬ (1 = 0) by decide, if_false]
      · simp (disch := omega) only [f_X11_edgeCost, f_X11_asked, e2, may_0, eq_grd, eq_lb, eq_b1, eq_b2, eq_b3, eq_b4, eq_b5, ↓nM_lit, iN_lit, iN_add, iN_mul, iN_lt, iN_le, iN_eq, iN_c, gd_iN, iN_nM, nM_iN, iN_ltM, nM_lt, nM_le, iN_leM, iN_0M, nM_p1, iN_0s1, decide_true, decide_eq_true_eq, Nat.not_lt_zero, if_true, if_false, if_true]
  · refine ⟨1, 0, K, 0, upo M 67 0 (iN 1), iN 1, ?_, ?_, congrArg some (u67 _ _), Or.inr ⟨rfl, rfl⟩, RI_j (RI_67 _ h)⟩
    · simp only [f_X10_edgeCost, sAt_n hn K, eq_grd, eq_lb, eq_b1, eq_b2, eq_b3, eq_b4, eq_b5]; rfl
    · simp (disch := omega) only [f_X11_edgeCost, f_X11_asked, sp_s hn, may_0, eq_grd, eq_lb, eq_b1, eq_b2, eq_b3, eq_b4, eq_b5, ↓nM_lit, iN_lit, iN_add, iN_mul, iN_lt, iN_le, iN_eq, iN_c, gd_iN, iN_nM, nM_iN, iN_ltM, nM_lt, nM_le, iN_leM, iN_0M, nM_p1, iN_0s1, decide_true, decide_eq_true_eq, Nat.not_lt_zero, if_true, if_false, if_true]
