/-! Words, rows and what a sentence holds of them: the class's objects X3 and X6 against the reference's rows. -/
abbrev nn (v : Int32) : Nat := v.toNatClampNeg
def WLex (M : Ob) : Prop := (∃ a, a ≤ 40 ∧ M 0 0 = iN a) ∧ (∀ w, w < 40 → ∃ a, a ≤ 9 ∧ M 1 w = iN a) ∧ (∀ w, w < 40 → ∃ a, a ≤ 4 ∧ M 2 w = iN a) ∧ (∀ e, e < 10 → ∃ a, a ≤ 4 ∧ M 6 e = iN a) ∧ (∀ i, i < 480 → ∃ a, a ≤ 3 ∧ M 5 i = iN a) ∧ (∀ i, i < 120 → ∃ a, a ≤ 3 ∧ M 8 i = iN a) ∧ (∀ i, i < 160 → ∃ a, a ≤ 9 ∧ M 4 i = iN a) ∧ (∀ i, i < 40 → ∃ a, a ≤ 9 ∧ M 7 i = iN a)
def rwM (M : Ob) (w : Nat) : Nat := if nn (M 2 w) = 0 then 40 + nn (M 1 w) else w
def cnM (M : Ob) (w : Nat) : Nat := if nn (M 2 w) = 0 then nn (M 6 (nn (M 1 w))) else nn (M 2 w)
def ctM (M : Ob) (w k : Nat) : Int32 := if nn (M 2 w) = 0 then M 7 (4 * nn (M 1 w) + k) else M 4 (4 * w + k)
def feM (M : Ob) (w k f : Nat) : Nat := if nn (M 2 w) = 0 then nn (M 8 (12 * nn (M 1 w) + 3 * k + f)) else nn (M 5 (12 * w + 3 * k + f))
def pk3 (a b c : Nat) : Nat := a + 4 * b + 16 * c
def pkM (M : Ob) (w k : Nat) : Nat := pk3 (feM M w k 0) (feM M w k 1) (feM M w k 2)
def evW (M : Ob) (n : Nat) (wd : Nat → Nat) : Ev := (n, fun p => if p < n then cnM M (wd p) else 0, fun p k => if p < n ∧ k < cnM M (wd p) then ctM M (wd p) k else nM, fun p k => if p < n ∧ k < cnM M (wd p) then pkM M (wd p) k else 0)
def evS (M : Ob) (s : Nat) : Ev := evW M (nn (M 9 s)) (fun p => nn (M 10 (6 * s + p)))
theorem evW_L (M : Ob) (n : Nat) (wd : Nat → Nat) : eL (evW M n wd) = n := rfl
theorem evW_C {M : Ob} {n : Nat} {wd : Nat → Nat} {p : Nat} (h : p < n) : eC (evW M n wd) p = cnM M (wd p) := by simp only [evW, eC, h, if_true]
theorem evW_T {M : Ob} {n : Nat} {wd : Nat → Nat} {p k : Nat} (h : p < n) (hk : k < cnM M (wd p)) : eT (evW M n wd) p k = ctM M (wd p) k := by simp only [evW, eT, h, hk, and_self, if_true]
theorem evW_P {M : Ob} {n : Nat} {wd : Nat → Nat} {p k : Nat} (h : p < n) (hk : k < cnM M (wd p)) : eP (evW M n wd) p k = pkM M (wd p) k := by simp only [evW, eP, h, hk, and_self, if_true]
theorem cnM_le {M : Ob} (hm : WLex M) {w : Nat} (hw : w < 40) : cnM M w ≤ 4 := by
  obtain ⟨-, h1, h2, h6, -⟩ := hm
  obtain ⟨a, ha, ea⟩ := h1 w hw
  obtain ⟨b, hb, eb⟩ := h2 w hw
  obtain ⟨c, hc, ec⟩ := h6 a (by omega)
  simp only [cnM, nn, ea, eb, ec, iN_c (show a < 2147483648 by omega), iN_c (show b < 2147483648 by omega), iN_c (show c < 2147483648 by omega)]
  split <;> omega
theorem feM_le {M : Ob} (hm : WLex M) {w k f : Nat} (hw : w < 40) (hk : k < 4) (hf : f < 3) : feM M w k f ≤ 3 := by
  obtain ⟨-, h1, -, -, h5, h8, -⟩ := hm
  obtain ⟨a, ha, ea⟩ := h1 w hw
  obtain ⟨b, hb, eb⟩ := h5 (12 * w + 3 * k + f) (by omega)
  obtain ⟨c, hc, ec⟩ := h8 (12 * a + 3 * k + f) (by omega)
  simp only [feM, nn, ea, eb, ec, iN_c (show a < 2147483648 by omega), iN_c (show b < 2147483648 by omega), iN_c (show c < 2147483648 by omega)]
  split <;> omega
theorem pk3_lt {a b c : Nat} (ha : a ≤ 3) (hb : b ≤ 3) (hc : c ≤ 3) : pk3 a b c < 64 := by unfold pk3; omega
theorem pkM_lt {M : Ob} (hm : WLex M) {w k : Nat} (hw : w < 40) (hk : k < 4) : pkM M w k < 64 :=
  pk3_lt (feM_le hm hw hk (by omega)) (feM_le hm hw hk (by omega)) (feM_le hm hw hk (by omega))
theorem ctM_le {M : Ob} (hm : WLex M) {w k : Nat} (hw : w < 40) (hk : k < 4) : ∃ a, a ≤ 9 ∧ ctM M w k = iN a := by
  obtain ⟨-, h1, -, -, -, -, h4, h7⟩ := hm
  obtain ⟨a, ha, ea⟩ := h1 w hw
  simp only [ctM, nn, ea, iN_c (show a < 2147483648 by omega)]
  split
  · exact h7 _ (by omega)
  · exact h4 _ (by omega)
theorem evW_B {M : Ob} (hm : WLex M) {n : Nat} {wd : Nat → Nat} (hn : n ≤ 6) (hw : ∀ p, p < n → wd p < 40) : EvB (evW M n wd) := by
  refine ⟨by rw [evW_L]; exact hn, fun p hp => ?_⟩
  rw [evW_L] at hp
  have h4 := cnM_le hm (hw p hp)
  rw [evW_C hp]
  refine ⟨h4, fun k hk => ?_⟩
  rw [evW_P hp hk, evW_T hp hk]
  exact ⟨pkM_lt hm (hw p hp) (by omega), ctM_le hm (hw p hp) (by omega)⟩
/-- X3 holds the reference's lexicon -/
def QX3 (x M : Ob) : Prop := x 0 0 = M 0 0 ∧ (∀ w, w < 40 → x 1 w = M 1 w ∧ x 2 w = M 2 w) ∧ (∀ e, e < 10 → x 2 (40 + e) = M 6 e) ∧ (∀ i, i < 160 → x 3 i = M 3 i ∧ x 4 i = M 4 i ∧ x 5 i = iN (pk3 (nn (M 5 (3 * i))) (nn (M 5 (3 * i + 1))) (nn (M 5 (3 * i + 2))))) ∧ (∀ i, i < 40 → x 4 (160 + i) = M 7 i ∧ x 5 (160 + i) = iN (pk3 (nn (M 8 (3 * i))) (nn (M 8 (3 * i + 1))) (nn (M 8 (3 * i + 2)))))
theorem X3_row {x M : Ob} (hx : QX3 x M) (hm : WLex M) {w : Nat} (hw : w < nn (M 0 0)) : f_X3_rowOf x (iN w) = some (iN (rwM M w)) ∧ f_X3_filledIn x (iN (rwM M w)) = some (iN (cnM M w)) := by
  obtain ⟨x0, x1, x2, -⟩ := hx
  obtain ⟨⟨nw, hnw, enw⟩, h1, h2, h6, -⟩ := hm
  have hw' : w < nw := by rw [enw] at hw; rwa [nn, iN_c (by omega)] at hw
  obtain ⟨a, ha, ea⟩ := h1 w (by omega)
  obtain ⟨b, hb, eb⟩ := h2 w (by omega)
  obtain ⟨c, hc, ec⟩ := h6 a (by omega)
  obtain ⟨x1a, x1b⟩ := x1 w (by omega)
  have x2a := x2 a (by omega)
  have eb0 : (iN b ≤ iN 0) ↔ b = 0 := by rw [iN_le (by omega) (by omega)]; omega
  constructor
  · simp (disch := omega) only [f_X3_rowOf, x0, enw, x1a, x1b, ea, eb, eb0, rwM, nn, ↓nM_lit, iN_lit, iN_add, iN_mul, iN_lt, iN_le, iN_eq, iN_c, gd_iN, iN_nM, nM_iN, iN_ltM, nM_lt, nM_le, iN_leM, iN_0M, nM_p1, iN_0s1, decide_true, decide_eq_true_eq, Nat.not_lt_zero, if_true, if_false, hw', if_true, if_false, eq_grd, eq_lb, eq_b1, eq_b2, eq_b3, eq_b4, eq_b5, show w < 50 by omega, show w < 40 by omega]
    by_cases hb0 : b = 0 <;> simp [hb0]
  · simp (disch := omega) only [rwM, cnM, nn, ea, eb, ec, ↓nM_lit, iN_lit, iN_add, iN_mul, iN_lt, iN_le, iN_eq, iN_c, gd_iN, iN_nM, nM_iN, iN_ltM, nM_lt, nM_le, iN_leM, iN_0M, nM_p1, iN_0s1, decide_true, decide_eq_true_eq, Nat.not_lt_zero, if_true, if_false]
    by_cases hb0 : b = 0
    · simp (disch := omega) only [hb0, if_true, f_X3_filledIn, ↓nM_lit, iN_lit, iN_add, iN_mul, iN_lt, iN_le, iN_eq, iN_c, gd_iN, iN_nM, nM_iN, iN_ltM, nM_lt, nM_le, iN_leM, iN_0M, nM_p1, iN_0s1, decide_true, decide_eq_true_eq, Nat.not_lt_zero, if_true, if_false, eq_grd, eq_lb, eq_b1, eq_b2, eq_b3, eq_b4, eq_b5, if_false, show ¬ (50 ≤ 40 + a) by omega, show 40 + a < 50 by omega, x2a, ec]
    · simp (disch := omega) only [hb0, f_X3_filledIn, ↓nM_lit, iN_lit, iN_add, iN_mul, iN_lt, iN_le, iN_eq, iN_c, gd_iN, iN_nM, nM_iN, iN_ltM, nM_lt, nM_le, iN_leM, iN_0M, nM_p1, iN_0s1, decide_true, decide_eq_true_eq, Nat.not_lt_zero, if_true, if_false, eq_grd, eq_lb, eq_b1, eq_b2, eq_b3, eq_b4, eq_b5, if_false, show ¬ (50 ≤ w) by omega, show w < 50 by omega, x1b, eb]
theorem X3_cat {x M : Ob} (hx : QX3 x M) (hm : WLex M) {w k : Nat} (hw : w < nn (M 0 0)) (hk : k < cnM M w) : f_X3_categoryIn x (iN (rwM M w)) (iN k) = some (ctM M w k) ∧ f_X3_featuresIn x (iN (rwM M w)) (iN k) = some (iN (pkM M w k)) := by
  have hk4 : k < 4 := by
    have := cnM_le hm (w := w) (by
      obtain ⟨⟨nw, hnw, enw⟩, -⟩ := hm
      rw [enw, nn, iN_c (by omega)] at hw; omega)
    omega
  obtain ⟨x0, x1, x2, x3, x4⟩ := hx
  obtain ⟨⟨nw, hnw, enw⟩, h1, h2, h6, h5, h8, -⟩ := hm
  have hw' : w < nw := by rw [enw] at hw; rwa [nn, iN_c (by omega)] at hw
  obtain ⟨a, ha, ea⟩ := h1 w (by omega)
  obtain ⟨b, hb, eb⟩ := h2 w (by omega)
  obtain ⟨c, hc, ec⟩ := h6 a (by omega)
  obtain ⟨x1a, x1b⟩ := x1 w (by omega)
  have x2a := x2 a (by omega)
  obtain ⟨x3a, x3b, x3c⟩ := x3 (4 * w + k) (by omega)
  obtain ⟨x4a, x4b⟩ := x4 (4 * a + k) (by omega)
  simp (disch := omega) only [cnM, nn, ea, eb, ec, ↓nM_lit, iN_lit, iN_add, iN_mul, iN_lt, iN_le, iN_eq, iN_c, gd_iN, iN_nM, nM_iN, iN_ltM, nM_lt, nM_le, iN_leM, iN_0M, nM_p1, iN_0s1, decide_true, decide_eq_true_eq, Nat.not_lt_zero, if_true, if_false] at hk
  by_cases hb0 : b = 0
  · simp only [hb0, if_true] at hk
    rw [show 160 + (4 * a + k) = (40 + a) * 4 + k by omega] at x4a x4b
    simp (disch := omega) only [rwM, ctM, pkM, feM, nn, ea, eb, hb0, if_true, ↓nM_lit, iN_lit, iN_add, iN_mul, iN_lt, iN_le, iN_eq, iN_c, gd_iN, iN_nM, nM_iN, iN_ltM, nM_lt, nM_le, iN_leM, iN_0M, nM_p1, iN_0s1, decide_true, decide_eq_true_eq, Nat.not_lt_zero, if_true, if_false, f_X3_categoryIn, f_X3_categoryIn_J29, f_X3_featuresIn, f_X3_featuresIn_J29, if_false, show ¬ (50 ≤ 40 + a) by omega, show 40 + a < 50 by omega, x2a, ec, eq_grd, eq_lb, eq_b1, eq_b2, eq_b3, eq_b4, eq_b5, show ¬ (c ≤ k) by omega, show (40 + a) * 4 + k < 200 by omega, x4a, x4b, show ¬ (1 = 0) by decide, show 12 * a + 3 * k + 0 = 3 * (4 * a + k) by omega, show 12 * a + 3 * k + 1 = 3 * (4 * a + k) + 1 by omega, show 12 * a + 3 * k + 2 = 3 * (4 * a + k) + 2 by omega, and_self]
  · simp only [hb0, if_false] at hk
    rw [show 4 * w + k = w * 4 + k by omega] at x3a x3b x3c
    simp (disch := omega) only [rwM, ctM, pkM, feM, nn, ea, eb, hb0, ↓nM_lit, iN_lit, iN_add, iN_mul, iN_lt, iN_le, iN_eq, iN_c, gd_iN, iN_nM, nM_iN, iN_ltM, nM_lt, nM_le, iN_leM, iN_0M, nM_p1, iN_0s1, decide_true, decide_eq_true_eq, Nat.not_lt_zero, if_true, if_false, f_X3_categoryIn, f_X3_categoryIn_J29, f_X3_featuresIn, f_X3_featuresIn_J29, if_false, show ¬ (50 ≤ w) by omega, show w < 50 by omega, x1b, eq_grd, eq_lb, eq_b1, eq_b2, eq_b3, eq_b4, eq_b5, show ¬ (b ≤ k) by omega, show w * 4 + k < 200 by omega, x3b, x3c, show ¬ (1 = 0) by decide, show 12 * w + 3 * k + 0 = 3 * (w * 4 + k) by omega, show 12 * w + 3 * k + 1 = 3 * (w * 4 + k) + 1 by omega, show 12 * w + 3 * k + 2 = 3 * (w * 4 + k) + 2 by omega, show 4 * w + k = w * 4 + k by omega, and_self]
