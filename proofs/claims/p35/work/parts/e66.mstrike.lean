/-! The reference strikes. -/
def WTxt (M : Ob) : Prop := ∀ s, s < 4 → ∃ n, n ≤ 6 ∧ M 9 s = iN n ∧ ∀ p, p < n → ∃ w, w < nn (M 0 0) ∧ M 10 (6 * s + p) = iN w
theorem WLex_nw {M : Ob} (hm : WLex M) : nn (M 0 0) ≤ 40 := by
  obtain ⟨⟨nw, hnw, enw⟩, -⟩ := hm
  rw [enw, nn, iN_c (by omega)]; exact hnw
theorem X11_count {M : Ob} (hm : WLex M) {w : Nat} (hw : w < 40) : f_X11_countOf M (iN w) = some (iN (cnM M w)) := by
  obtain ⟨-, h1, h2, h6, -⟩ := hm
  obtain ⟨a, ha, ea⟩ := h1 w hw
  obtain ⟨b, hb, eb⟩ := h2 w hw
  obtain ⟨c, hc, ec⟩ := h6 a (by omega)
  simp (disch := omega) only [f_X11_countOf, cnM, nn, ea, eb, ec, ↓nM_lit, iN_lit, iN_add, iN_mul, iN_lt, iN_le, iN_eq, iN_c, gd_iN, iN_nM, nM_iN, iN_ltM, nM_lt, nM_le, iN_leM, iN_0M, nM_p1, iN_0s1, decide_true, decide_eq_true_eq, Nat.not_lt_zero, if_true, if_false, eq_grd, eq_lb, eq_b1, eq_b2, eq_b3, eq_b4, eq_b5, hw, show a < 10 by omega]
  by_cases h : b = 0
  · simp only [h, Nat.le_refl, if_true]
  · simp only [h, Nat.le_zero, if_false]
theorem X11_cat {M : Ob} (hm : WLex M) {w k : Nat} (hw : w < 40) (hk : k < 4) : f_X11_categoryOf M (iN w) (iN k) = some (ctM M w k) := by
  obtain ⟨-, h1, h2, h6, -⟩ := hm
  obtain ⟨a, ha, ea⟩ := h1 w hw
  obtain ⟨b, hb, eb⟩ := h2 w hw
  simp (disch := omega) only [f_X11_categoryOf, ctM, nn, ea, eb, ↓nM_lit, iN_lit, iN_add, iN_mul, iN_lt, iN_le, iN_eq, iN_c, gd_iN, iN_nM, nM_iN, iN_ltM, nM_lt, nM_le, iN_leM, iN_0M, nM_p1, iN_0s1, decide_true, decide_eq_true_eq, Nat.not_lt_zero, if_true, if_false, eq_grd, eq_lb, eq_b1, eq_b2, eq_b3, eq_b4, eq_b5, hw, show 4 * a + k < 40 by omega, show 4 * w + k < 160 by omega]
  by_cases h : b = 0
  · simp only [h, Nat.le_refl, if_true]
  · simp only [h, Nat.le_zero, if_false]
theorem X11_fea {M : Ob} (hm : WLex M) {w k f : Nat} (hw : w < 40) (hk : k < 4) (hf : f < 3) : f_X11_featureOf M (iN w) (iN k) (iN f) = some (iN (feM M w k f)) := by
  obtain ⟨-, h1, h2, h6, h5, h8, -⟩ := hm
  obtain ⟨a, ha, ea⟩ := h1 w hw
  obtain ⟨b, hb, eb⟩ := h2 w hw
  obtain ⟨c, hc, ec⟩ := h5 (12 * w + 3 * k + f) (by omega)
  obtain ⟨d, hd, ed⟩ := h8 (12 * a + 3 * k + f) (by omega)
  simp (disch := omega) only [f_X11_featureOf, feM, nn, ea, eb, ec, ed, ↓nM_lit, iN_lit, iN_add, iN_mul, iN_lt, iN_le, iN_eq, iN_c, gd_iN, iN_nM, nM_iN, iN_ltM, nM_lt, nM_le, iN_leM, iN_0M, nM_p1, iN_0s1, decide_true, decide_eq_true_eq, Nat.not_lt_zero, if_true, if_false, eq_grd, eq_lb, eq_b1, eq_b2, eq_b3, eq_b4, eq_b5, hw, show 12 * a + 3 * k + f < 120 by omega, show 12 * w + 3 * k + f < 480 by omega]
  by_cases h : b = 0
  · simp only [h, Nat.le_refl, if_true]
  · simp only [h, Nat.le_zero, if_false]
theorem WLex_cg {M M' : Ob} (h : ∀ k, k < 9 → M' k = M k) (hm : WLex M) : WLex M' := by
  unfold WLex
  rw [h 0 (by decide), h 1 (by decide), h 2 (by decide), h 4 (by decide), h 5 (by decide), h 6 (by decide), h 7 (by decide), h 8 (by decide)]
  exact hm
theorem cnM_cg {M M' : Ob} (h : ∀ k, k < 9 → M' k = M k) (w : Nat) : cnM M' w = cnM M w := by
  unfold cnM; rw [h 1 (by decide), h 2 (by decide), h 6 (by decide)]
theorem ctM_cg {M M' : Ob} (h : ∀ k, k < 9 → M' k = M k) (w k : Nat) : ctM M' w k = ctM M w k := by
  unfold ctM; rw [h 1 (by decide), h 2 (by decide), h 4 (by decide), h 7 (by decide)]
theorem feM_cg {M M' : Ob} (h : ∀ k, k < 9 → M' k = M k) (w k f : Nat) : feM M' w k f = feM M w k f := by
  unfold feM; rw [h 1 (by decide), h 2 (by decide), h 5 (by decide), h 8 (by decide)]
/-- a state of the reference in the middle of looking at sentence s: only the rows 11 to 14 differ from M0 -/
def RM (M0 M : Ob) (s : Nat) (n : Nat) (wd : Nat → Nat) (L : Nat → Nat) : Prop :=
  WLex M0 ∧ s < 4 ∧ n ≤ 6 ∧ M0 9 s = iN n ∧ (∀ p, p < n → wd p < nn (M0 0 0) ∧ M0 10 (6 * s + p) = iN (wd p)) ∧ (∀ k, k ≠ 11 → k ≠ 12 → k ≠ 13 → k ≠ 14 → M k = M0 k) ∧ (∀ p, p < n → M 11 (6 * s + p) = iN (L p))
theorem RM_E {M0 M : Ob} {s n : Nat} {wd L : Nat → Nat} (h : RM M0 M s n wd L) : EvB (evW M0 n wd) := by
  obtain ⟨h1, h2, h3, h4, h5, -⟩ := h
  exact evW_B h1 h3 (fun p hp => Nat.lt_of_lt_of_le (h5 p hp).1 (WLex_nw h1))
theorem RM_at {M0 M : Ob} {s n : Nat} {wd L : Nat → Nat} (h : RM M0 M s n wd L) {p : Nat} (hp : p < n) : M 10 (6 * s + p) = iN (wd p) ∧ f_X11_countOf M (iN (wd p)) = some (iN (eC (evW M0 n wd) p)) ∧ (∀ k, k < eC (evW M0 n wd) p → f_X11_categoryOf M (iN (wd p)) (iN k) = some (eT (evW M0 n wd) p k)) ∧ (∀ k f, k < 4 → f < 3 → f_X11_featureOf M (iN (wd p)) (iN k) (iN f) = some (iN (feM M0 (wd p) k f))) := by
  have hE := RM_E h
  obtain ⟨h1, h2, h3, h4, h5, h6, h7⟩ := h
  have hc : ∀ k, k < 9 → M k = M0 k := fun k hk => h6 k (by omega) (by omega) (by omega) (by omega)
  have hl := WLex_cg hc h1
  have hw := Nat.lt_of_lt_of_le (h5 p hp).1 (WLex_nw h1)
  refine ⟨by rw [h6 10 (by decide) (by decide) (by decide) (by decide)]; exact (h5 p hp).2, ?_, ?_, ?_⟩
  · rw [X11_count hl hw, cnM_cg hc, evW_C hp]
  · intro k hk
    have h4' := (hE.2 p (by rw [evW_L]; exact hp)).1
    rw [X11_cat hl hw (by omega), ctM_cg hc]
    rw [evW_C hp] at hk
    rw [evW_T hp hk]
  · intro k f hk hf
    rw [X11_fea hl hw hk hf, feM_cg hc]
theorem X11_left_L {M0 M : Ob} {s n : Nat} {wd L : Nat → Nat} (h : RM M0 M s n wd L) (hL : LB (evW M0 n wd) L) {p : Nat} (hp : p < n) (c : Int32) (f k : Nat) (hk : k ≤ eC (evW M0 n wd) p) (hf : eC (evW M0 n wd) p - k < f) : f_X11_leftOf_L5 f M (iN (6 * s + p)) c (iN (loK (L p) (fun k => decide (eT (evW M0 n wd) p k = c)) k)) (iN k) = some (iN (lf (evW M0 n wd) L p c), iN (eC (evW M0 n wd) p)) := by
  have hE := RM_E h
  obtain ⟨e10, ec, et, -⟩ := RM_at h hp
  have hp' : p < eL (evW M0 n wd) := by rw [evW_L]; exact hp
  have h16 := LB16 hE hL hp'
  have h4 := (hE.2 p hp').1
  have hn := h.2.2.1
  have hs := h.2.1
  have e11 := h.2.2.2.2.2.2 p hp
  induction f generalizing k with
  | zero => omega
  | succ f ih =>
    by_cases h5 : k = eC (evW M0 n wd) p
    · subst h5
      simp (disch := omega) only [f_X11_leftOf_L5, ↓nM_lit, iN_lit, iN_add, iN_mul, iN_lt, iN_le, iN_eq, iN_c, gd_iN, iN_nM, nM_iN, iN_ltM, nM_lt, nM_le, iN_leM, iN_0M, nM_p1, iN_0s1, decide_true, decide_eq_true_eq, Nat.not_lt_zero, if_true, if_false, eq_grd, eq_lb, eq_b1, eq_b2, eq_b3, eq_b4, eq_b5, show 6 * s + p < 24 by omega, e10, ec, Nat.le_refl, loK_cn (hL p hp') h4, lf, hp']
    · have ih' := ih (k + 1) (by omega) (by omega)
      have hlt := loK_lt (L p) (fun k => decide (eT (evW M0 n wd) p k = c)) k
      have et' := et k (by omega)
      cases hb : (L p).testBit k with
      | false =>
        rw [loK_f (by rw [hb]; intro h; cases h)] at ih'
        simp (disch := omega) only [f_X11_leftOf_L5, ↓nM_lit, iN_lit, iN_add, iN_mul, iN_lt, iN_le, iN_eq, iN_c, gd_iN, iN_nM, nM_iN, iN_ltM, nM_lt, nM_le, iN_leM, iN_0M, nM_p1, iN_0s1, decide_true, decide_eq_true_eq, Nat.not_lt_zero, if_true, if_false, eq_grd, eq_lb, eq_b1, eq_b2, eq_b3, eq_b4, eq_b5, e10, ec, show ¬ (eC (evW M0 n wd) p ≤ k) by omega, show 6 * s + p < 24 by omega, e11, bit_1 h16 (show k < 4 by omega), hb, reduceCtorEq, Int32.or_zero, bit_or0, ih']
      | true =>
        by_cases hc : eT (evW M0 n wd) p k = c
        · rw [loK_t hb (by simp only [hc, decide_true])] at ih'
          simp (disch := omega) only [f_X11_leftOf_L5, ↓nM_lit, iN_lit, iN_add, iN_mul, iN_lt, iN_le, iN_eq, iN_c, gd_iN, iN_nM, nM_iN, iN_ltM, nM_lt, nM_le, iN_leM, iN_0M, nM_p1, iN_0s1, decide_true, decide_eq_true_eq, Nat.not_lt_zero, if_true, if_false, eq_grd, eq_lb, eq_b1, eq_b2, eq_b3, eq_b4, eq_b5, e10, ec, show ¬ (eC (evW M0 n wd) p ≤ k) by omega, show 6 * s + p < 24 by omega, e11, bit_1 h16 (show k < 4 by omega), hb, et', hc, bit_or hlt (show k < 4 by omega), ih']
        · rw [loK_f (by intro _; simp only [hc, decide_false])] at ih'
          simp (disch := omega) only [f_X11_leftOf_L5, ↓nM_lit, iN_lit, iN_add, iN_mul, iN_lt, iN_le, iN_eq, iN_c, gd_iN, iN_nM, nM_iN, iN_ltM, nM_lt, nM_le, iN_leM, iN_0M, nM_p1, iN_0s1, decide_true, decide_eq_true_eq, Nat.not_lt_zero, if_true, if_false, eq_grd, eq_lb, eq_b1, eq_b2, eq_b3, eq_b4, eq_b5, e10, ec, show ¬ (eC (evW M0 n wd) p ≤ k) by omega, show 6 * s + p < 24 by omega, e11, bit_1 h16 (show k < 4 by omega), hb, et', hc, bit_or0, ih']
theorem X11_left {M0 M : Ob} {s n : Nat} {wd L : Nat → Nat} (h : RM M0 M s n wd L) (hL : LB (evW M0 n wd) L) {p : Nat} (hp : p < n) (c : Int32) : f_X11_leftOf M (iN (6 * s + p)) c = some (iN (lf (evW M0 n wd) L p c)) := by
  have hE := RM_E h
  have h4 := (hE.2 p (by rw [evW_L]; exact hp)).1
  have := X11_left_L h hL hp c 200 0 (by omega) (by omega)
  rw [loK] at this
  simp only [f_X11_leftOf, ↓nM_lit, iN_lit, iN_add, iN_mul, iN_lt, iN_le, iN_eq, iN_c, gd_iN, iN_nM, nM_iN, iN_ltM, nM_lt, nM_le, iN_leM, iN_0M, nM_p1, iN_0s1, decide_true, decide_eq_true_eq, Nat.not_lt_zero, if_true, if_false, this, eq_grd, eq_lb, eq_b1, eq_b2, eq_b3, eq_b4, eq_b5]
def RSt (M0 R : Ob) : Prop := (∃ a, a ≤ 8 ∧ R 15 0 = iN a) ∧ (∀ k, 15 ≤ k → k ≤ 20 → M0 k = R k) ∧ ∀ g, g < nn (R 15 0) → R 16 g = iN 0 ∨ (R 16 g = iN 1 ∧ (R 18 g = iN 1 ∨ R 18 g = nM))
theorem X11_sure {M0 M R : Ob} {s n : Nat} {wd L : Nat → Nat} (hR : RSt M0 R) (h : RM M0 M s n wd L) (hL : LB (evW M0 n wd) L) {g p : Nat} (hg : g < nn (R 15 0)) (hp : p < n) (h0 : R 16 g = iN 0) : f_X11_holds M (iN s) (iN g) (iN p) = some (if sSu R (evW M0 n wd) L g (iN p + R 18 g) = true then iN 1 else iN 0) := by
  have hE := RM_E h
  obtain ⟨⟨a, ha, ea⟩, hq, hs18⟩ := hR
  have hg8 : g < 8 := by rw [ea, nn, iN_c (by omega)] at hg; omega
  have hM : ∀ k, 15 ≤ k → k ≤ 20 → M k = R k := fun k h1 h2 => by rw [h.2.2.2.2.2.1 k (by omega) (by omega) (by omega) (by omega)]; exact hq k h1 h2
  have e9 : M 9 s = iN n := by rw [h.2.2.2.2.2.1 9 (by decide) (by decide) (by decide) (by decide)]; exact h.2.2.2.1
  have hn := h.2.2.1
  have hs := h.2.1
  simp (disch := omega) only [f_X11_holds, ↓nM_lit, iN_lit, iN_add, iN_mul, iN_lt, iN_le, iN_eq, iN_c, gd_iN, iN_nM, nM_iN, iN_ltM, nM_lt, nM_le, iN_leM, iN_0M, nM_p1, iN_0s1, decide_true, decide_eq_true_eq, Nat.not_lt_zero, if_true, if_false, eq_grd, eq_lb, eq_b1, eq_b2, eq_b3, eq_b4, eq_b5, hg8, hM 16 (by decide) (by decide), h0, hM 18 (by decide) (by decide), hM 19 (by decide) (by decide), hs, e9, iN_s1 (show 0 < n by omega)]
  generalize iN p + R 18 g = t
  have hp' : p < eL (evW M0 n wd) := by rw [evW_L]; exact hp
  rw [f_X11_isIn, sSu, evW_L]
  by_cases h0 : t < iN 0
  · simp (disch := omega) only [h0, ↓nM_lit, iN_lit, iN_add, iN_mul, iN_lt, iN_le, iN_eq, iN_c, gd_iN, iN_nM, nM_iN, iN_ltM, nM_lt, nM_le, iN_leM, iN_0M, nM_p1, iN_0s1, decide_true, decide_eq_true_eq, Nat.not_lt_zero, if_true, if_false, eq_grd, eq_lb, eq_b1, eq_b2, eq_b3, eq_b4, eq_b5, Bool.false_eq_true]
  · have e1 : (iN (n - 1) < t) ↔ iN n ≤ t := by
      rw [Int32.lt_iff_toInt_lt, Int32.le_iff_toInt_le, iN_t (by omega), iN_t (by omega)]; omega
    by_cases h1 : iN n ≤ t
    · simp (disch := omega) only [h0, h1, e1, ↓nM_lit, iN_lit, iN_add, iN_mul, iN_lt, iN_le, iN_eq, iN_c, gd_iN, iN_nM, nM_iN, iN_ltM, nM_lt, nM_le, iN_leM, iN_0M, nM_p1, iN_0s1, decide_true, decide_eq_true_eq, Nat.not_lt_zero, if_true, if_false, eq_grd, eq_lb, eq_b1, eq_b2, eq_b3, eq_b4, eq_b5, Bool.false_eq_true]
    · obtain ⟨q, hq2, rfl⟩ := i32_in (by omega) h0 h1
      have hq' : q < eL (evW M0 n wd) := by rw [evW_L]; exact hq2
      have h16 := LB16 hE hL hq'
      have hlf := lf_lt hE hL hq' (R 19 g)
      have e11 := h.2.2.2.2.2.2 q hq2
      simp (disch := omega) only [↓nM_lit, iN_lit, iN_add, iN_mul, iN_lt, iN_le, iN_eq, iN_c, gd_iN, iN_nM, nM_iN, iN_ltM, nM_lt, nM_le, iN_leM, iN_0M, nM_p1, iN_0s1, decide_true, decide_eq_true_eq, Nat.not_lt_zero, if_true, if_false, eq_grd, eq_lb, eq_b1, eq_b2, eq_b3, eq_b4, eq_b5, show ¬ (1 = 0) by decide, show ¬ (n ≤ q) by omega, show ¬ (n - 1 < q) by omega, show 6 * s + q < 24 by omega, e11, X11_left h hL hq2, hg8, Bool.and_eq_true, ne_eq]
      by_cases h2 : L q = 0
      · simp only [h2, if_true, not_true, false_and, if_false]
      · by_cases h3 : lf (evW M0 n wd) L q (R 19 g) = L q <;> simp only [h2, h3, if_true, if_false, not_false_eq_true, true_and]
theorem X11_seen_L {M0 M R : Ob} {s n : Nat} {wd L : Nat → Nat} (hR : RSt M0 R) (h : RM M0 M s n wd L) (hL : LB (evW M0 n wd) L) {g : Nat} (hg : g < nn (R 15 0)) (h18 : R 18 g = iN 1 ∨ R 18 g = nM) (d : Nat) : ∀ (f : Nat) (t : Int32), d < f → (∀ q, q < n → t = iN q → (R 18 g = iN 1 → n ≤ q + d) ∧ (R 18 g = nM → q < d)) → wp (f_X11_holds_L93 f M (iN s) (iN g) t) (fun r => (if r.1 = 1 then some (0 : Int32) else if r.1 = 2 then some 0 else some 1) = some (if sGo R (evW M0 n wd) L g d t = true then iN 1 else iN 0)) := by
  have hE := RM_E h
  obtain ⟨⟨a, ha, ea⟩, hq, hs18⟩ := hR
  have hg8 : g < 8 := by rw [ea, nn, iN_c (by omega)] at hg; omega
  have hM : ∀ k, 15 ≤ k → k ≤ 20 → M k = R k := fun k h1 h2 => by rw [h.2.2.2.2.2.1 k (by omega) (by omega) (by omega) (by omega)]; exact hq k h1 h2
  have e9 : M 9 s = iN n := by rw [h.2.2.2.2.2.1 9 (by decide) (by decide) (by decide) (by decide)]; exact h.2.2.2.1
  have hn := h.2.2.1
  have hs := h.2.1
  have out : ∀ (f : Nat) (t : Int32) (d : Nat), (t < iN 0 ∨ iN n ≤ t) → wp (f_X11_holds_L93 (f + 1) M (iN s) (iN g) t) (fun r => (if r.1 = 1 then some (0 : Int32) else if r.1 = 2 then some 0 else some 1) = some (if sGo R (evW M0 n wd) L g d t = true then iN 1 else iN 0)) := by
    intro f t d ht
    have hz : sGo R (evW M0 n wd) L g d t = false := by
      cases d with
      | zero => rfl
      | succ d =>
        rw [sGo, evW_L]
        rcases ht with ht | ht
        · rw [if_pos ht]
        · rw [if_pos ht, ite_self]
    rw [hz]
    by_cases h0 : t < iN 0
    · simp (disch := omega) only [f_X11_holds_L93, ↓nM_lit, iN_lit, iN_add, iN_mul, iN_lt, iN_le, iN_eq, iN_c, gd_iN, iN_nM, nM_iN, iN_ltM, nM_lt, nM_le, iN_leM, iN_0M, nM_p1, iN_0s1, decide_true, decide_eq_true_eq, Nat.not_lt_zero, if_true, if_false, wp_some, wp_grd, wp_lb, wp_ite, wp_b1, wp_b2, wp_b3, wp_b4, wp_b5, h0, Bool.false_eq_true]
    · have h1 : iN n ≤ t := by rcases ht with ht | ht; exact absurd ht h0; exact ht
      simp (disch := omega) only [f_X11_holds_L93, ↓nM_lit, iN_lit, iN_add, iN_mul, iN_lt, iN_le, iN_eq, iN_c, gd_iN, iN_nM, nM_iN, iN_ltM, nM_lt, nM_le, iN_leM, iN_0M, nM_p1, iN_0s1, decide_true, decide_eq_true_eq, Nat.not_lt_zero, if_true, if_false, wp_some, wp_grd, wp_lb, wp_ite, wp_b1, wp_b2, wp_b3, wp_b4, wp_b5, eq_grd, eq_lb, eq_b1, eq_b2, eq_b3, eq_b4, eq_b5, h0, h1, hs, e9, Bool.false_eq_true, true_and]
  induction d with
  | zero =>
    intro f t hf ht
    obtain ⟨f, rfl⟩ : ∃ m, f = m + 1 := ⟨f - 1, by omega⟩
    refine out f t 0 ?_
    by_cases h0 : t < iN 0
    · exact Or.inl h0
    · by_cases h1 : iN n ≤ t
      · exact Or.inr h1
      · obtain ⟨q, hq2, rfl⟩ := i32_in (by omega) h0 h1
        obtain ⟨k1, k2⟩ := ht q hq2 rfl
        rcases h18 with h18 | h18
        · have := k1 h18; omega
        · have := k2 h18; omega
  | succ d ih =>
    intro f t hf ht
    obtain ⟨f, rfl⟩ : ∃ m, f = m + 1 := ⟨f - 1, by omega⟩
    by_cases h0 : t < iN 0
    · exact out f t (d + 1) (Or.inl h0)
    · by_cases h1 : iN n ≤ t
      · exact out f t (d + 1) (Or.inr h1)
      · obtain ⟨q, hq2, rfl⟩ := i32_in (by omega) h0 h1
        have ih' := ih f (iN q + R 18 g) (by omega) (by
          intro q2 hq3 e
          obtain ⟨k1, k2⟩ := ht q hq2 rfl
          rcases h18 with h18 | h18
          · rw [h18, iN_add, iN_eq (by omega) (by omega)] at e
            have := k1 h18
            refine ⟨fun _ => by omega, fun h => ?_⟩
            rw [h18] at h; exact absurd h (by decide)
          · rw [h18] at e
            have := k2 h18
            refine ⟨fun h => ?_, fun _ => ?_⟩
            · rw [h18] at h; exact absurd h (by decide)
            · cases q with
              | zero => rw [iN_0M, nM_iN (by omega)] at e; exact e.elim
              | succ q => rw [iN_pM (Nat.succ_pos q), iN_eq (by omega) (by omega)] at e; omega)
        have hq' : q < eL (evW M0 n wd) := by rw [evW_L]; exact hq2
        have h16 := LB16 hE hL hq'
        have hl19 := lf_lt hE hL hq' (R 19 g)
        have hl20 := lf_lt hE hL hq' (R 20 g)
        rw [sGo, evW_L]
        simp (maxSteps := 4000000) (disch := omega) only [f_X11_holds_L93, f_X11_holds_J160, ↓nM_lit, iN_lit, iN_add, iN_mul, iN_lt, iN_le, iN_eq, iN_c, gd_iN, iN_nM, nM_iN, iN_ltM, nM_lt, nM_le, iN_leM, iN_0M, nM_p1, iN_0s1, decide_true, decide_eq_true_eq, Nat.not_lt_zero, if_true, if_false, wp_some, wp_grd, wp_lb, wp_ite, wp_b1, wp_b2, wp_b3, wp_b4, wp_b5, eq_grd, eq_lb, eq_b1, eq_b2, eq_b3, eq_b4, eq_b5, h1, hs, e9, hg8, hM 18 (by decide) (by decide), hM 19 (by decide) (by decide), hM 20 (by decide) (by decide), X11_left h hL hq2, show ¬ (n ≤ q) by omega, true_and]
        by_cases h5 : R 20 g = nM
        · simp only [h5, if_true, ne_eq, not_true, false_and, if_false]
          by_cases h3 : lf (evW M0 n wd) L q (R 19 g) = 0
          · simp only [h3, if_true, not_true, if_false, eq_b2, wp_some, wp_grd, wp_lb, wp_ite, wp_b1, wp_b2, wp_b3, wp_b4, wp_b5]; exact ih'
          · simp only [h3, if_true, not_false_eq_true, if_false, eq_b2, wp_some, wp_grd, wp_lb, wp_ite, wp_b1, wp_b2, wp_b3, wp_b4, wp_b5]; rfl
        · by_cases h2 : R 20 g = R 19 g
          · simp only [h2, if_true, ne_eq, not_true, false_and, and_false, if_false]
            rw [h2] at h5
            by_cases h3 : lf (evW M0 n wd) L q (R 19 g) = 0
            · simp only [h5, h3, if_true, not_true, if_false, eq_b2, wp_some, wp_grd, wp_lb, wp_ite, wp_b1, wp_b2, wp_b3, wp_b4, wp_b5]; exact ih'
            · simp only [h5, h3, if_true, not_false_eq_true, if_false, eq_b2, wp_some, wp_grd, wp_lb, wp_ite, wp_b1, wp_b2, wp_b3, wp_b4, wp_b5]; rfl
          · by_cases h4 : lf (evW M0 n wd) L q (R 20 g) = 0
            · simp only [h5, h2, h4, if_true, ne_eq, not_true, and_false, if_false]
              by_cases h3 : lf (evW M0 n wd) L q (R 19 g) = 0
              · simp only [h3, if_true, not_true, if_false, eq_b2, wp_some, wp_grd, wp_lb, wp_ite, wp_b1, wp_b2, wp_b3, wp_b4, wp_b5]; exact ih'
              · simp only [h3, if_true, not_false_eq_true, if_false, eq_b2, wp_some, wp_grd, wp_lb, wp_ite, wp_b1, wp_b2, wp_b3, wp_b4, wp_b5]; rfl
            · simp only [h2, h4, h5, ne_eq, not_false_eq_true, and_self, if_true, if_false, wp_some, wp_grd, wp_lb, wp_ite, wp_b1, wp_b2, wp_b3, wp_b4, wp_b5, Bool.false_eq_true]; rfl
