/-! The class's sentence: leaving all, what is left of a category, striking. -/
def RW6 (x : Ob) (n : Nat) (wd : Nat → Nat) : Prop := x 0 0 = iN n ∧ n ≤ 6 ∧ ∀ p, p < n → x 1 p = iN (wd p)
def RA6 (x : Ob) (E : Ev) : Prop := ∀ p, p < eL E → ∀ k, k < eC E p → x 4 (p * 4 + k) = eT E p k ∧ x 5 (p * 4 + k) = iN (eP E p k)
def RL6 (x : Ob) (E : Ev) (L : Nat → Nat) : Prop := x 0 0 = iN (eL E) ∧ (∀ p, p < eL E → x 2 p = iN (L p)) ∧ RA6 x E
theorem bit_cn {l c k : Nat} (h : l < 2 ^ c) (hb : l.testBit k = true) : k < c := by
  by_cases hk : k < c
  · exact hk
  · have := Nat.testBit_lt_two_pow (Nat.lt_of_lt_of_le h (Nat.pow_le_pow_right (by decide) (Nat.le_of_not_lt hk)))
    rw [this] at hb; cases hb
theorem LB16 {E : Ev} {L : Nat → Nat} (hE : EvB E) (hL : LB E L) {p : Nat} (hp : p < eL E) : L p < 16 := by
  have h1 := hL p hp
  have h2 := (hE.2 p hp).1
  have : 2 ^ eC E p ≤ 2 ^ 4 := Nat.pow_le_pow_right (by decide) h2
  omega
theorem X6_left_L {x : Ob} {E : Ev} {L : Nat → Nat} (hx : RL6 x E L) (hE : EvB E) (hL : LB E L) {p : Nat} (hp : p < eL E) (c : Int32) (n k : Nat) (hk : k ≤ 4) (hn : 4 - k < n) : f_X6_leftOf_L17 n x (iN p) c (iN (loK (L p) (fun k => decide (eT E p k = c)) k)) (iN k) = some (iN (lf E L p c), iN 4) := by
  obtain ⟨x0, x2, xa⟩ := hx
  have h6 := hE.1
  have h16 := LB16 hE hL hp
  have e2 := x2 p hp
  induction n generalizing k with
  | zero => omega
  | succ n ih =>
    by_cases h4 : k = 4
    · subst h4
      simp (disch := omega) only [f_X6_leftOf_L17, ↓nM_lit, iN_lit, iN_add, iN_mul, iN_lt, iN_le, iN_eq, iN_c, gd_iN, iN_nM, nM_iN, iN_ltM, nM_lt, nM_le, iN_leM, iN_0M, nM_p1, iN_0s1, decide_true, decide_eq_true_eq, Nat.not_lt_zero, if_true, if_false, Nat.le_refl, loK_4, lf, hp]
    · have ih' := ih (k + 1) (by omega) (by omega)
      have hlt := loK_lt (L p) (fun k => decide (eT E p k = c)) k
      cases hb : (L p).testBit k with
      | false =>
        rw [loK_f (by rw [hb]; intro h; cases h)] at ih'
        simp (disch := omega) only [f_X6_leftOf_L17, ↓nM_lit, iN_lit, iN_add, iN_mul, iN_lt, iN_le, iN_eq, iN_c, gd_iN, iN_nM, nM_iN, iN_ltM, nM_lt, nM_le, iN_leM, iN_0M, nM_p1, iN_0s1, decide_true, decide_eq_true_eq, Nat.not_lt_zero, if_true, if_false, eq_grd, eq_lb, eq_b1, eq_b2, eq_b3, eq_b4, eq_b5, e2, show ¬ (4 ≤ k) by omega, show p < 6 by omega, bit_0 h16 (show k < 4 by omega), hb, ih']
      | true =>
        have e4 := (xa p hp k (bit_cn (hL p hp) hb)).1
        by_cases hc : eT E p k = c
        · rw [loK_t hb (by simp only [hc, decide_true])] at ih'
          simp (disch := omega) only [f_X6_leftOf_L17, ↓nM_lit, iN_lit, iN_add, iN_mul, iN_lt, iN_le, iN_eq, iN_c, gd_iN, iN_nM, nM_iN, iN_ltM, nM_lt, nM_le, iN_leM, iN_0M, nM_p1, iN_0s1, decide_true, decide_eq_true_eq, Nat.not_lt_zero, if_true, if_false, eq_grd, eq_lb, eq_b1, eq_b2, eq_b3, eq_b4, eq_b5, e2, show ¬ (4 ≤ k) by omega, show p < 6 by omega, bit_0 h16 (show k < 4 by omega), hb, reduceCtorEq, show p * 4 + k < 24 by omega, e4, hc, bit_or hlt (show k < 4 by omega), ih']
        · rw [loK_f (by intro _; simp only [hc, decide_false])] at ih'
          simp (disch := omega) only [f_X6_leftOf_L17, ↓nM_lit, iN_lit, iN_add, iN_mul, iN_lt, iN_le, iN_eq, iN_c, gd_iN, iN_nM, nM_iN, iN_ltM, nM_lt, nM_le, iN_leM, iN_0M, nM_p1, iN_0s1, decide_true, decide_eq_true_eq, Nat.not_lt_zero, if_true, if_false, eq_grd, eq_lb, eq_b1, eq_b2, eq_b3, eq_b4, eq_b5, e2, show ¬ (4 ≤ k) by omega, show p < 6 by omega, bit_0 h16 (show k < 4 by omega), hb, reduceCtorEq, show p * 4 + k < 24 by omega, e4, hc, ih']
theorem X6_left {x : Ob} {E : Ev} {L : Nat → Nat} (hx : RL6 x E L) (hE : EvB E) (hL : LB E L) {p : Nat} (hp : p < eL E) (c : Int32) : f_X6_leftOf x (iN p) c = some (iN (lf E L p c)) := by
  have h6 := hE.1
  have := X6_left_L hx hE hL hp c 200 0 (by omega) (by omega)
  rw [loK] at this
  simp (disch := omega) only [f_X6_leftOf, hx.1, ↓nM_lit, iN_lit, iN_add, iN_mul, iN_lt, iN_le, iN_eq, iN_c, gd_iN, iN_nM, nM_iN, iN_ltM, nM_lt, nM_le, iN_leM, iN_0M, nM_p1, iN_0s1, decide_true, decide_eq_true_eq, Nat.not_lt_zero, if_true, if_false, show ¬ (eL E ≤ p) by omega, this, eq_grd, eq_lb, eq_b1, eq_b2, eq_b3, eq_b4, eq_b5]
theorem X6_left_out {x : Ob} {E : Ev} {L : Nat → Nat} (hx : RL6 x E L) {t : Int32} (ht : t < iN 0 ∨ iN (eL E) ≤ t) (c : Int32) : f_X6_leftOf x t c = some (iN 0) := by
  rw [f_X6_leftOf, hx.1]
  rcases ht with h | h
  · rw [if_pos (show t < 0 from h)]; rfl
  · rw [if_pos h, ite_self]; rfl
theorem X6_in {x : Ob} {E : Ev} {L : Nat → Nat} (hx : RL6 x E L) (hE : EvB E) {p : Nat} (hp : p < eL E) : f_X6_leftIn x (iN p) = some (iN (L p)) := by
  have h6 := hE.1
  simp (disch := omega) only [f_X6_leftIn, hx.1, ↓nM_lit, iN_lit, iN_add, iN_mul, iN_lt, iN_le, iN_eq, iN_c, gd_iN, iN_nM, nM_iN, iN_ltM, nM_lt, nM_le, iN_leM, iN_0M, nM_p1, iN_0s1, decide_true, decide_eq_true_eq, Nat.not_lt_zero, if_true, if_false, show ¬ (eL E ≤ p) by omega, show p < 6 by omega, hx.2.1 p hp, eq_grd, eq_lb, eq_b1, eq_b2, eq_b3, eq_b4, eq_b5]
theorem X6_in_out {x : Ob} {E : Ev} {L : Nat → Nat} (hx : RL6 x E L) {t : Int32} (ht : t < iN 0 ∨ iN (eL E) ≤ t) : f_X6_leftIn x t = some (iN 0) := by
  rw [f_X6_leftIn, hx.1]
  rcases ht with h | h
  · rw [if_pos (show t < 0 from h)]; rfl
  · rw [if_pos h, ite_self]; rfl
theorem i32_in {t : Int32} {n : Nat} (hn : n < 2147483648) (h0 : ¬ t < iN 0) (h1 : ¬ iN n ≤ t) : ∃ q, q < n ∧ t = iN q :=
  iN_ex h0 (by rw [Int32.lt_iff_toInt_lt]; rw [Int32.le_iff_toInt_le] at h1; omega) hn
theorem lf_lt {E : Ev} {L : Nat → Nat} (hE : EvB E) (hL : LB E L) {p : Nat} (hp : p < eL E) (c : Int32) : lf E L p c < 16 := by
  rw [lf, if_pos hp]; exact lo_lt (LB16 hE hL hp) _
/-- the rules of striking: X7 holds the reference's -/
def QX7 (x R : Ob) : Prop := (∃ a, a ≤ 8 ∧ R 15 0 = iN a) ∧ x 0 0 = R 15 0 ∧ ∀ g, g < nn (R 15 0) → ((R 16 g = iN 0 ∧ x 1 g = iN 1) ∨ (R 16 g = iN 1 ∧ x 1 g = iN 0)) ∧ x 2 g = R 17 g ∧ x 3 g = R 18 g ∧ x 4 g = R 19 g ∧ x 5 g = R 20 g
theorem lf_nM {E : Ev} {L : Nat → Nat} (hE : EvB E) (hL : LB E L) {p : Nat} (hp : p < eL E) : lf E L p nM = 0 := by
  rw [lf, if_pos hp, lo_cg (b' := fun _ => false)]
  · simp only [lo, Bool.and_false, Bool.false_eq_true, if_false]
  · intro k _ hb
    obtain ⟨a, ha, ea⟩ := ((hE.2 p hp).2 k (bit_cn (hL p hp) hb)).2
    simp (disch := omega) only [ea, iN_nM, decide_false]
theorem X7_sure {x7 R x : Ob} {E : Ev} {L : Nat → Nat} (h7 : QX7 x7 R) (hx : RL6 x E L) (hE : EvB E) (hL : LB E L) {g p : Nat} (hg : g < 8) (hgn : g < nn (R 15 0)) : f_X7_holdsSure x7 x (iN g) (iN p) = some (if sSu R E L g (iN p + R 18 g) = true then iN 1 else iN 0) := by
  obtain ⟨-, -, hr⟩ := h7
  obtain ⟨-, r2, r3, r4, r5⟩ := hr g hgn
  have h6 := hE.1
  simp (disch := omega) only [f_X7_holdsSure, ↓nM_lit, iN_lit, iN_add, iN_mul, iN_lt, iN_le, iN_eq, iN_c, gd_iN, iN_nM, nM_iN, iN_ltM, nM_lt, nM_le, iN_leM, iN_0M, nM_p1, iN_0s1, decide_true, decide_eq_true_eq, Nat.not_lt_zero, if_true, if_false, eq_grd, eq_lb, eq_b1, eq_b2, eq_b3, eq_b4, eq_b5, hg, r3]
  generalize iN p + R 18 g = t
  by_cases h0 : t < iN 0
  · simp (disch := omega) only [X6_in_out hx (Or.inl h0), eq_grd, eq_lb, eq_b1, eq_b2, eq_b3, eq_b4, eq_b5, ↓nM_lit, iN_lit, iN_add, iN_mul, iN_lt, iN_le, iN_eq, iN_c, gd_iN, iN_nM, nM_iN, iN_ltM, nM_lt, nM_le, iN_leM, iN_0M, nM_p1, iN_0s1, decide_true, decide_eq_true_eq, Nat.not_lt_zero, if_true, if_false, sSu, h0, Bool.false_eq_true]
  · by_cases h1 : iN (eL E) ≤ t
    · simp (disch := omega) only [X6_in_out hx (Or.inr h1), eq_grd, eq_lb, eq_b1, eq_b2, eq_b3, eq_b4, eq_b5, ↓nM_lit, iN_lit, iN_add, iN_mul, iN_lt, iN_le, iN_eq, iN_c, gd_iN, iN_nM, nM_iN, iN_ltM, nM_lt, nM_le, iN_leM, iN_0M, nM_p1, iN_0s1, decide_true, decide_eq_true_eq, Nat.not_lt_zero, if_true, if_false, sSu, h0, h1, Bool.false_eq_true]
    · obtain ⟨q, hq, rfl⟩ := i32_in (by omega) h0 h1
      have h16 := LB16 hE hL hq
      have hlf := lf_lt hE hL hq (R 19 g)
      simp (disch := omega) only [X6_in hx hE hq, eq_grd, eq_lb, eq_b1, eq_b2, eq_b3, eq_b4, eq_b5, ↓nM_lit, iN_lit, iN_add, iN_mul, iN_lt, iN_le, iN_eq, iN_c, gd_iN, iN_nM, nM_iN, iN_ltM, nM_lt, nM_le, iN_leM, iN_0M, nM_p1, iN_0s1, decide_true, decide_eq_true_eq, Nat.not_lt_zero, if_true, if_false, sSu, h0, h1, X6_left hx hE hL hq, r4, hg, Bool.and_eq_true, ne_eq, show ¬ (eL E ≤ q) by omega]
      by_cases h2 : L q = 0
      · simp only [h2, if_true, not_true, false_and, if_false]
      · by_cases h3 : lf E L q (R 19 g) = L q <;> simp only [h2, h3, if_true, if_false, not_false_eq_true, true_and]
theorem X7_seen_L {x7 R x : Ob} {E : Ev} {L : Nat → Nat} (h7 : QX7 x7 R) (hx : RL6 x E L) (hE : EvB E) (hL : LB E L) {g : Nat} (hg : g < 8) (hgn : g < nn (R 15 0)) (d : Nat) : ∀ (n k : Nat) (t : Int32), d + k = 6 → d < n → wp (f_X7_holdsSeen_L13 n x7 x (iN g) t (iN k)) (fun r => (if r.1 = 1 then some (0 : Int32) else if r.1 = 2 then some 0 else some 1) = some (if sGo R E L g d t = true then iN 1 else iN 0)) := by
  obtain ⟨-, -, hr⟩ := h7
  obtain ⟨-, r2, r3, r4, r5⟩ := hr g hgn
  have h6 := hE.1
  induction d with
  | zero =>
    intro n k t hk hn
    obtain ⟨n, rfl⟩ : ∃ m, n = m + 1 := ⟨n - 1, by omega⟩
    simp (disch := omega) only [f_X7_holdsSeen_L13, ↓nM_lit, iN_lit, iN_add, iN_mul, iN_lt, iN_le, iN_eq, iN_c, gd_iN, iN_nM, nM_iN, iN_ltM, nM_lt, nM_le, iN_leM, iN_0M, nM_p1, iN_0s1, decide_true, decide_eq_true_eq, Nat.not_lt_zero, if_true, if_false, wp_some, wp_grd, wp_lb, wp_ite, wp_b1, wp_b2, wp_b3, wp_b4, wp_b5, show 6 ≤ k by omega, sGo, Bool.false_eq_true]
  | succ d ih =>
    intro n k t hk hn
    obtain ⟨n, rfl⟩ : ∃ m, n = m + 1 := ⟨n - 1, by omega⟩
    have ih' := ih n (k + 1) (t + R 18 g) (by omega) (by omega)
    rw [f_X7_holdsSeen_L13, sGo]
    by_cases h0 : t < iN 0
    · simp (disch := omega) only [↓nM_lit, iN_lit, iN_add, iN_mul, iN_lt, iN_le, iN_eq, iN_c, gd_iN, iN_nM, nM_iN, iN_ltM, nM_lt, nM_le, iN_leM, iN_0M, nM_p1, iN_0s1, decide_true, decide_eq_true_eq, Nat.not_lt_zero, if_true, if_false, wp_some, wp_grd, wp_lb, wp_ite, wp_b1, wp_b2, wp_b3, wp_b4, wp_b5, show ¬ (6 ≤ k) by omega, h0, Bool.false_eq_true]
    · by_cases h1 : iN (eL E) ≤ t
      · simp (disch := omega) only [↓nM_lit, iN_lit, iN_add, iN_mul, iN_lt, iN_le, iN_eq, iN_c, gd_iN, iN_nM, nM_iN, iN_ltM, nM_lt, nM_le, iN_leM, iN_0M, nM_p1, iN_0s1, decide_true, decide_eq_true_eq, Nat.not_lt_zero, if_true, if_false, wp_some, wp_grd, wp_lb, wp_ite, wp_b1, wp_b2, wp_b3, wp_b4, wp_b5, show ¬ (6 ≤ k) by omega, h0, h1, hx.1, Bool.false_eq_true]
      · obtain ⟨q, hq, rfl⟩ := i32_in (by omega) h0 h1
        have h16 := LB16 hE hL hq
        have hl19 := lf_lt hE hL hq (R 19 g)
        have hl20 := lf_lt hE hL hq (R 20 g)
        simp (disch := omega) only [↓nM_lit, iN_lit, iN_add, iN_mul, iN_lt, iN_le, iN_eq, iN_c, gd_iN, iN_nM, nM_iN, iN_ltM, nM_lt, nM_le, iN_leM, iN_0M, nM_p1, iN_0s1, decide_true, decide_eq_true_eq, Nat.not_lt_zero, if_true, if_false, wp_some, wp_grd, wp_lb, wp_ite, wp_b1, wp_b2, wp_b3, wp_b4, wp_b5, eq_grd, eq_lb, eq_b1, eq_b2, eq_b3, eq_b4, eq_b5, show ¬ (6 ≤ k) by omega, h1, hx.1, hg, r5, r4, r3, f_X7_holdsSeen_J66, X6_left hx hE hL hq, show ¬ (eL E ≤ q) by omega]
        by_cases h2 : R 20 g = R 19 g
        · simp only [h2, if_true, ne_eq, not_true, false_and, and_false, if_false]
          by_cases h3 : lf E L q (R 19 g) = 0
          · simp only [h3, if_true, not_true, if_false, eq_b3]; exact ih'
          · simp only [h3, if_true, not_false_eq_true, if_false, eq_b3, wp_some, wp_grd, wp_lb, wp_ite, wp_b1, wp_b2, wp_b3, wp_b4, wp_b5]; rfl
        · by_cases h4 : lf E L q (R 20 g) = 0
          · simp only [h2, h4, if_true, ne_eq, not_true, and_false, if_false]
            by_cases h3 : lf E L q (R 19 g) = 0
            · simp only [h3, if_true, not_true, if_false, eq_b3]; exact ih'
            · simp only [h3, if_true, not_false_eq_true, if_false, eq_b3, wp_some, wp_grd, wp_lb, wp_ite, wp_b1, wp_b2, wp_b3, wp_b4, wp_b5]; rfl
          · have h5 : R 20 g ≠ nM := by intro e; rw [e, lf_nM hE hL hq] at h4; exact h4 rfl
            simp only [h2, h4, h5, ne_eq, not_false_eq_true, and_self, if_true, if_false, wp_some, wp_grd, wp_lb, wp_ite, wp_b1, wp_b2, wp_b3, wp_b4, wp_b5, Bool.false_eq_true]; rfl
theorem X7_holds {x7 R x : Ob} {E : Ev} {L : Nat → Nat} (h7 : QX7 x7 R) (hx : RL6 x E L) (hE : EvB E) (hL : LB E L) {g p : Nat} (hg : g < 8) (hgn : g < nn (R 15 0)) : f_X7_holdsSeen x7 x (iN g) (iN p) = some (if sGo R E L g 6 (iN p + R 18 g) = true then iN 1 else iN 0) := by
  obtain ⟨r, e, h⟩ := X7_seen_L h7 hx hE hL hg hgn 6 200 0 (iN p + R 18 g) (by omega) (by omega)
  obtain ⟨-, -, hr⟩ := h7
  obtain ⟨-, r2, r3, r4, r5⟩ := hr g hgn
  simp (disch := omega) only [f_X7_holdsSeen, ↓nM_lit, iN_lit, iN_add, iN_mul, iN_lt, iN_le, iN_eq, iN_c, gd_iN, iN_nM, nM_iN, iN_ltM, nM_lt, nM_le, iN_leM, iN_0M, nM_p1, iN_0s1, decide_true, decide_eq_true_eq, Nat.not_lt_zero, if_true, if_false, eq_grd, eq_lb, eq_b1, eq_b2, eq_b3, eq_b4, eq_b5, hg, r3, e]
  exact h
