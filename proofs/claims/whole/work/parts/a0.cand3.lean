theorem pre_1 {G : Ob} (t : Tr) (h : WT G t) : 1 ≤ (pre t).length := by
  cases t with
  | leaf a => rw [pre_leaf h]; exact Nat.le_refl 1
  | branch g l r => rw [pre, List.length_cons]; omega
theorem pre_b (g : Nat) (l r : Tr) : (pre (.branch g l r)).length = (pre l).length + (pre r).length + 1 := by
  rw [pre, List.length_cons, List.length_append]
theorem hd_2 {G : Ob} (hG : WGr G) {g : Nat} (hg : g < nn (G 21 0)) (h2 : G 25 g = iN 2) : G 24 g ≠ nM := by
  intro hu
  rcases (hG.2 g hg).2.2.1 with ⟨-, -, h25⟩ | ⟨⟨c, hc, e⟩, -⟩
  · rw [h25] at h2; exact absurd h2 (by decide)
  · rw [e, iN_nM (by omega)] at hu; exact hu
theorem hd_1 {G : Ob} (hG : WGr G) {g : Nat} (hg : g < nn (G 21 0)) (h2 : ¬ G 25 g = iN 2) : G 25 g = iN 1 := by
  rcases (hG.2 g hg).2.2.1 with ⟨-, -, h25⟩ | ⟨-, h | h⟩
  · exact h25
  · exact h
  · exact absurd h h2
theorem X0_head {x x2 G : Ob} (hG : WGr G) (hx2 : QX2 x2 G) (t : Tr) : WT G t → ∀ (σ n c : Nat) (Q : Int32 × Int32 → Prop), σ < 288 → RC x G t σ → (pre t).length ≤ n → c + (pre t).length ≤ 128 → (∀ σ' c', σ' < 288 → RC x G (.leaf (dn G t)) σ' → Q (iN σ', c')) → wp (f_X0_headOf_L5 n x x2 (iN σ) (iN c)) Q := by
  induction t with
  | leaf a =>
    intro h σ n c Q hσ hr hn hc hQ
    rw [pre_leaf h] at hn hc
    obtain ⟨m, rfl⟩ : ∃ m, n = m + 1 := ⟨n - 1, by simp only [List.length_singleton] at hn; omega⟩
    simp only [List.length_singleton] at hc
    have e1 := (X0_partL hr hσ (iN 0)).2.1
    simp (disch := omega) only [f_X0_headOf_L5, ↓nM_lit, iN_lit, iN_add, iN_mul, iN_lt, iN_le, iN_eq, iN_c, gd_iN, iN_nM, nM_iN, iN_ltM, nM_lt, nM_le, iN_leM, iN_0M, nM_p1, iN_0s1, decide_true, decide_eq_true_eq, Nat.not_lt_zero, if_true, if_false, wp_some, wp_grd, wp_lb, wp_ite, wp_b1, wp_b2, wp_b3, wp_b4, wp_b5, eq_grd, eq_lb, eq_b1, eq_b2, eq_b3, eq_b4, eq_b5, show ¬ (128 ≤ c) by omega, e1]
    exact hQ σ (iN c) hσ hr
  | branch g l r ihl ihr =>
    intro h σ n c Q hσ hr hn hc hQ
    rw [pre_b] at hn hc
    obtain ⟨m, rfl⟩ : ∃ m, n = m + 1 := ⟨n - 1, by omega⟩
    have hg16 : g < 16 := by have := ng_le hG; have := h.1; omega
    obtain ⟨σl, σr, p2, p1, p3, q1, q2, q3, q4⟩ := X0_partB hg16 hr hσ
    have ph := (X2_get hx2 hG h.1).2.2.2
    have gN : ¬ (iN g = nM) := by rw [iN_nM (by omega)]; exact id
    have l1 := pre_1 l h.2.1
    by_cases h2 : G 25 g = iN 2
    · have hun := hd_2 hG h.1 h2
      obtain ⟨q, q5, q6, q7⟩ := q4 hun
      have r1 := pre_1 r (h.2.2.2.2.2 hun).1
      simp (disch := omega) only [f_X0_headOf_L5, ↓nM_lit, iN_lit, iN_add, iN_le, wp_some, wp_grd, wp_lb, wp_ite, wp_b1, wp_b2, wp_b3, wp_b4, wp_b5, eq_grd, eq_lb, eq_b1, eq_b2, eq_b3, eq_b4, eq_b5, show ¬ (128 ≤ c) by omega, p3, gN, if_false, ph, h2, p2, q6]
      refine ihr (h.2.2.2.2.2 hun).1 q m (c + 1) Q q5 q7 (by omega) (by omega) ?_
      rw [dn, if_pos h2] at hQ; exact hQ
    · have h1 := hd_1 hG h.1 h2
      simp (disch := omega) only [f_X0_headOf_L5, ↓nM_lit, iN_lit, iN_add, iN_le, wp_some, wp_grd, wp_lb, wp_ite, wp_b1, wp_b2, wp_b3, wp_b4, wp_b5, eq_grd, eq_lb, eq_b1, eq_b2, eq_b3, eq_b4, eq_b5, show ¬ (128 ≤ c) by omega, p3, gN, if_false, ph, h1, p1]
      refine ihl h.2.1 σl m (c + 1) Q q1 q2 (by omega) (by omega) ?_
      rw [dn, if_neg h2] at hQ; exact hQ
theorem wv_eq {P φ v : Nat} (hP : P < 64) (hφ : φ < 3) (hv : v < 4) : f_X10_withValue (iN P) (iN φ) (iN v) = some (iN (stP P φ v)) := by
  have := b64_s (P := fun P => b4 (fun v => b4 (fun φ => decide (φ < 3 → f_X10_withValue (iN P) (iN φ) (iN v) = some (iN (stP P φ v)))))) (by decide +kernel) hP
  exact of_decide_eq_true (b4_s (b4_s this hv) (by omega)) hφ
theorem stP_lt {P φ v : Nat} (hv : v ≤ 3) : stP P φ v < 64 := by
  unfold stP
  have h : ∀ k, fv P k ≤ 3 := fun k => by unfold fv; omega
  have h0 := h 0
  have h1 := h 1
  have h2 := h 2
  exact pk3_lt (by split <;> omega) (by split <;> omega) (by split <;> omega)
theorem code_12 {x y : Nat} (hx : x < 4) (hy : y < 4) : (iN (16 + 4 * x + y) >>> (iN 2 &&& iN 31)) &&& iN 3 = iN x ∧ iN (16 + 4 * x + y) &&& iN 3 = iN y := by
  have : ∀ x, x < 4 → ∀ y, y < 4 → (iN (16 + 4 * x + y) >>> (iN 2 &&& iN 31)) &&& iN 3 = iN x ∧ iN (16 + 4 * x + y) &&& iN 3 = iN y := by decide
  exact this x hx y hy
theorem X6_at {x : Ob} {E : Ev} {L : Nat → Nat} (hx : RL6 x E L) (hE : EvB E) {p k : Nat} (hp : p < eL E) (hk : k < eC E p) : f_X6_featuresOf x (iN p) (iN k) = some (iN (eP E p k)) ∧ f_X6_categoryOf x (iN p) (iN k) = some (eT E p k) := by
  have h6 := hE.1
  have h4 := (hE.2 p hp).1
  obtain ⟨a1, a2⟩ := hx.2.2 p hp k hk
  constructor
  · simp (disch := omega) only [f_X6_featuresOf, f_X6_featuresOf_J26, hx.1, ↓nM_lit, iN_lit, iN_add, iN_mul, iN_lt, iN_le, iN_eq, iN_c, gd_iN, iN_nM, nM_iN, iN_ltM, nM_lt, nM_le, iN_leM, iN_0M, nM_p1, iN_0s1, decide_true, decide_eq_true_eq, Nat.not_lt_zero, if_true, if_false, eq_grd, eq_lb, eq_b1, eq_b2, eq_b3, eq_b4, eq_b5, show ¬ (eL E ≤ p) by omega, show ¬ (4 ≤ k) by omega, show ¬ (1 = 0) by decide, if_false, show p * 4 + k < 24 by omega, a2]
  · simp (disch := omega) only [f_X6_categoryOf, f_X6_categoryOf_J26, hx.1, ↓nM_lit, iN_lit, iN_add, iN_mul, iN_lt, iN_le, iN_eq, iN_c, gd_iN, iN_nM, nM_iN, iN_ltM, nM_lt, nM_le, iN_leM, iN_0M, nM_p1, iN_0s1, decide_true, decide_eq_true_eq, Nat.not_lt_zero, if_true, if_false, eq_grd, eq_lb, eq_b1, eq_b2, eq_b3, eq_b4, eq_b5, show ¬ (eL E ≤ p) by omega, show ¬ (4 ≤ k) by omega, show ¬ (1 = 0) by decide, if_false, show p * 4 + k < 24 by omega, a1]
