/-! The class reads a sentence. -/
theorem giv_get {f v : Nat} (hf : f < 64) (hv : v < 16) (p : Int32) (x : Ob) (h3 : x 3 p.toNatClampNeg = iN v) (hp : gd p 6 = true) :
    (if iN f &&& iN 3 = iN 0 then f_X6_featuresAsGiven_J68 x p (iN f) (iN v &&& iN 3) else f_X6_featuresAsGiven_J68 x p (iN f) (iN 0)) = some (iN (gF (iN 1) f v)) := by
  have := b64_s (P := fun f => b16 (fun v => decide ((if iN f &&& iN 3 = iN 0 then (if (iN f ||| (iN v &&& iN 3)) &&& iN 12 = iN 0 then (iN f ||| (iN v &&& iN 3)) ||| (iN v &&& iN 12) else (iN f ||| (iN v &&& iN 3)) ||| iN 0) else (if (iN f ||| iN 0) &&& iN 12 = iN 0 then (iN f ||| iN 0) ||| (iN v &&& iN 12) else (iN f ||| iN 0) ||| iN 0)) = iN (gF (iN 1) f v)))) (by decide +kernel) hf
  have := of_decide_eq_true (b16_s this hv)
  rw [← this]
  simp only [f_X6_featuresAsGiven_J68, iN_lit, eq_grd, eq_lb, eq_b1, eq_b2, eq_b3, eq_b4, eq_b5, h3, hp]
  by_cases h1 : iN f &&& iN 3 = iN 0
  · simp only [h1, if_true]
    split <;> rfl
  · simp only [h1, if_false]
    split <;> rfl
theorem gF_lt {c : Int32} {f v : Nat} (hf : f < 64) (hv : v < 16) : gF c f v < 64 := by
  by_cases hc : c = iN 1
  · subst hc
    have := b64_s (P := fun f => b16 (fun v => decide (gF (iN 1) f v < 64))) (by decide +kernel) hf
    exact of_decide_eq_true (b16_s this hv)
  · rw [gF, if_neg hc]; exact hf
theorem spanN {b a : Nat} (ha : 1 ≤ a) : f_X10_spanOf (iN b) (iN a) = some (iN (6 * b + a - 1)) := by
  simp (disch := omega) only [f_X10_spanOf, ↓nM_lit, iN_lit, iN_add, iN_mul, iN_lt, iN_le, iN_eq, iN_c, gd_iN, iN_nM, nM_iN, iN_ltM, nM_lt, nM_le, iN_leM, iN_0M, nM_p1, iN_0s1, decide_true, decide_eq_true_eq, Nat.not_lt_zero, if_true, if_false, iN_s1 (show 0 < b * 6 + a by omega)]
  rw [show b * 6 + a - 1 = 6 * b + a - 1 by omega]
/-- the sentence as it is read: what is left, what is given -/
def RG6 (x : Ob) (E : Ev) (L gv : Nat → Nat) : Prop := RL6 x E L ∧ EvB E ∧ LB E L ∧ ∀ p, p < eL E → x 3 p = iN (gv p) ∧ gv p < 16
theorem X6_given {x : Ob} {E : Ev} {L gv : Nat → Nat} (hx : RG6 x E L gv) {p k : Nat} (hp : p < eL E) (hk : (L p).testBit k = true) :
    f_X6_isLeft x (iN p) (iN k) = some (iN 1) ∧ f_X6_featuresAsGiven x (iN p) (iN k) = some (iN (gF (eT E p k) (eP E p k) (gv p))) ∧ f_X6_categoryOf x (iN p) (iN k) = some (eT E p k) := by
  obtain ⟨⟨x0, x2, xa⟩, hE, hL, hg⟩ := hx
  have h6 := hE.1
  have hc := bit_cn (hL p hp) hk
  obtain ⟨a4, a5⟩ := xa p hp k hc
  obtain ⟨h4, hq⟩ := hE.2 p hp
  obtain ⟨h64, -⟩ := hq k hc
  obtain ⟨g3, g16⟩ := hg p hp
  have h16 := LB16 hE hL hp
  refine ⟨?_, ?_, ?_⟩
  · simp (disch := omega) only [f_X6_isLeft, f_X6_isLeft_J26, x0, x2 p hp, ↓nM_lit, iN_lit, iN_add, iN_mul, iN_lt, iN_le, iN_eq, iN_c, gd_iN, iN_nM, nM_iN, iN_ltM, nM_lt, nM_le, iN_leM, iN_0M, nM_p1, iN_0s1, decide_true, decide_eq_true_eq, Nat.not_lt_zero, if_true, if_false, eq_grd, eq_lb, eq_b1, eq_b2, eq_b3, eq_b4, eq_b5, show ¬ (eL E ≤ p) by omega, show ¬ (4 ≤ k) by omega, show ¬ (1 = 0) by decide, show p < 6 by omega, bit_0 h16 (show k < 4 by omega), hk, Bool.true_eq_false]
  · have hpg : gd (iN p) 6 = true := by rw [gd_iN (by omega), decide_eq_true_eq]; omega
    have g3' : x 3 (iN p).toNatClampNeg = iN (gv p) := by rw [iN_c (by omega)]; exact g3
    have := giv_get h64 g16 (iN p) x g3' hpg
    simp (disch := omega) only [f_X6_featuresAsGiven, x0, ↓nM_lit, iN_lit, iN_add, iN_mul, iN_lt, iN_le, iN_eq, iN_c, gd_iN, iN_nM, nM_iN, iN_ltM, nM_lt, nM_le, iN_leM, iN_0M, nM_p1, iN_0s1, decide_true, decide_eq_true_eq, Nat.not_lt_zero, if_true, if_false, eq_grd, eq_lb, eq_b1, eq_b2, eq_b3, eq_b4, eq_b5, show ¬ (eL E ≤ p) by omega, show k < 4 by omega, show p * 4 + k < 24 by omega, a4, a5, g3, show p < 6 by omega] at this ⊢
    by_cases h1 : eT E p k = iN 1
    · rw [if_pos h1, h1]; exact this
    · rw [if_neg h1, gF, if_neg h1]
  · simp (disch := omega) only [f_X6_categoryOf, f_X6_categoryOf_J26, x0, ↓nM_lit, iN_lit, iN_add, iN_mul, iN_lt, iN_le, iN_eq, iN_c, gd_iN, iN_nM, nM_iN, iN_ltM, nM_lt, nM_le, iN_leM, iN_0M, nM_p1, iN_0s1, decide_true, decide_eq_true_eq, Nat.not_lt_zero, if_true, if_false, eq_grd, eq_lb, eq_b1, eq_b2, eq_b3, eq_b4, eq_b5, show ¬ (eL E ≤ p) by omega, show ¬ (4 ≤ k) by omega, show ¬ (1 = 0) by decide, show p * 4 + k < 24 by omega, a4]
theorem X6_given_no {x : Ob} {E : Ev} {L gv : Nat → Nat} (hx : RG6 x E L gv) {p k : Nat} (hp : p < eL E) (hk4 : k < 4) (hk : (L p).testBit k = false) : f_X6_isLeft x (iN p) (iN k) = some (iN 0) := by
  obtain ⟨⟨x0, x2, xa⟩, hE, hL, hg⟩ := hx
  have h6 := hE.1
  have h16 := LB16 hE hL hp
  simp (disch := omega) only [f_X6_isLeft, f_X6_isLeft_J26, x0, x2 p hp, ↓nM_lit, iN_lit, iN_add, iN_mul, iN_lt, iN_le, iN_eq, iN_c, gd_iN, iN_nM, nM_iN, iN_ltM, nM_lt, nM_le, iN_leM, iN_0M, nM_p1, iN_0s1, decide_true, decide_eq_true_eq, Nat.not_lt_zero, if_true, if_false, eq_grd, eq_lb, eq_b1, eq_b2, eq_b3, eq_b4, eq_b5, show ¬ (eL E ≤ p) by omega, show ¬ (4 ≤ k) by omega, show ¬ (1 = 0) by decide, show p < 6 by omega, bit_0 h16 hk4, hk]
/-- the class's part of the state, the sentence aside -/
def SC (n0 : Int32) (G : Ob) (ch : Ch) (b m : Nat) (y : Ob) : Prop := RCh y G ch ∧ Iv G ch b m 0 ∧ y 0 0 = n0
theorem X4_word {G x6 : Ob} {n0 : Int32} {E : Ev} {L gv : Nat → Nat} (hG : WGr G) (h6 : RG6 x6 E L gv) {ch : Ch} {p : Nat} (hp : p < eL E) {y : Ob} (hS : SC n0 G ch p 1 y) :
    wp (f_X4_readWord x6 y (iN p)) (fun z => SC n0 G (wdF G E L gv p 4 ch) p 1 z) := by
  have hE6 := h6.2.1.1
  rw [f_X4_readWord]
  simp only [wp_some, wp_grd, wp_lb, wp_ite, wp_b1, wp_b2, wp_b3, wp_b4, wp_b5]
  refine lp_up (F := fun n (y : Ob) k => f_X4_readWord_L2 n x6 y (iN p) k) (V := fun k y => SC n0 G (wdF G E L gv p k ch) p 1 y) (hi := 4) ?_ 200 0 y (by omega) (by omega) hS
  intro n z k hk hv hkk
  by_cases he : k = 4
  · subst he
    simp (disch := omega) only [f_X4_readWord_L2, ↓nM_lit, iN_lit, iN_add, iN_mul, iN_lt, iN_le, iN_eq, iN_c, gd_iN, iN_nM, nM_iN, iN_ltM, nM_lt, nM_le, iN_leM, iN_0M, nM_p1, iN_0s1, decide_true, decide_eq_true_eq, Nat.not_lt_zero, if_true, if_false, wp_some, wp_grd, wp_lb, wp_ite, wp_b1, wp_b2, wp_b3, wp_b4, wp_b5, Nat.le_refl]
    exact hv
  · have hk4 : k < 4 := by omega
    by_cases hb : (L p).testBit k = true
    · obtain ⟨a1, a2, a3⟩ := X6_given h6 hp hb
      have hc := bit_cn (h6.2.2.1 p hp) hb
      obtain ⟨h64, c, hc9, ec⟩ := (h6.2.1.2 p hp).2 k hc
      have g16 := (h6.2.2.2 p hp).2
      have hT : WT G (.leaf (p, k, eT E p k, gF (eT E p k) (eP E p k) (gv p))) := ⟨by omega, hk4, ⟨c, hc9, ec⟩, gF_lt h64 g16⟩
      have hW : tW (.leaf (p, k, eT E p k, gF (eT E p k) (eP E p k) (gv p))) = 1 := by
        simp (disch := omega) only [tW, ec, iN_nM, if_false]
      obtain ⟨s1, s2, s3⟩ := hv
      have hput := X0_put (t := .leaf (p, k, eT E p k, gF (eT E p k) (eP E p k) (gv p))) (g := nM) (pl := iN k) (pr := nM) (rel := iN 0) hG s2 s1 hT rfl hW (fun h => h.elim) (Nat.zero_le _) (fun σ y _ h2 h3 _ _ => ⟨by rw [h2]; rfl, h3⟩)
      simp only [wp_some, wp_grd, wp_lb, wp_ite, wp_b1, wp_b2, wp_b3, wp_b4, wp_b5, show 6 * p + 1 - 1 = 6 * p by omega] at hput
      simp (disch := omega) only [f_X4_readWord_L2, ↓nM_lit, iN_lit, iN_add, iN_mul, iN_lt, iN_le, iN_eq, iN_c, gd_iN, iN_nM, nM_iN, iN_ltM, nM_lt, nM_le, iN_leM, iN_0M, nM_p1, iN_0s1, decide_true, decide_eq_true_eq, Nat.not_lt_zero, if_true, if_false, wp_some, wp_grd, wp_lb, wp_ite, wp_b1, wp_b2, wp_b3, wp_b4, wp_b5, eq_grd, eq_lb, eq_b1, eq_b2, eq_b3, eq_b4, eq_b5, show ¬ (4 ≤ k) by omega, a1, a2, a3, show ¬ (1 = 0) by decide, spanN (Nat.le_refl 1), show 6 * p + 1 - 1 = 6 * p by omega]
      refine wp_mono hput ?_
      rintro ⟨b1, b2⟩ hb2
      refine wp_mono hb2 ?_
      intro w hw
      refine hkk w hk4 ?_
      rw [wdF, if_pos hb]
      exact ⟨hw.1, hw.2.1, by rw [hw.2.2]; exact s3⟩
    · have hb' : (L p).testBit k = false := by cases h : (L p).testBit k; rfl; exact absurd h hb
      simp (disch := omega) only [f_X4_readWord_L2, ↓nM_lit, iN_lit, iN_add, iN_mul, iN_lt, iN_le, iN_eq, iN_c, gd_iN, iN_nM, nM_iN, iN_ltM, nM_lt, nM_le, iN_leM, iN_0M, nM_p1, iN_0s1, decide_true, decide_eq_true_eq, Nat.not_lt_zero, if_true, if_false, wp_some, wp_grd, wp_lb, wp_ite, wp_b1, wp_b2, wp_b3, wp_b4, wp_b5, eq_grd, eq_lb, eq_b1, eq_b2, eq_b3, eq_b4, eq_b5, show ¬ (4 ≤ k) by omega, X6_given_no h6 hp hk4 hb']
      refine hkk z hk4 ?_
      rw [wdF, if_neg hb]
      exact hv
theorem rlF_ne {G : Ob} {s a b : Nat} {s' : Nat} (h : s' ≠ s) (g : Nat) (ch : Ch) : rlF G s a b g ch s' = ch s' := by
  induction g with
  | zero => rfl
  | succ g ih =>
    rw [rlF]
    split
    · exact ih
    · rw [uls_ne h, ih]
theorem X4_rules {x2 G q2 : Ob} {n0 : Int32} {ch : Ch} {b m a : Nat} {y2 y0 : Ob} (hG : WGr G) (hx : QX2 x2 G) (hS : SX x2 n0 G ch b m 0 y2 y0) (ha : 1 ≤ a) (ham : a < m) :
    wp (f_X4_read_L74 200 y2 q2 y0 (iN m) (iN b) (iN (6 * b + m - 1)) (iN a) (iN 0)) (fun q => SX x2 n0 G (rlF G (6 * b + m - 1) (6 * b + a - 1) (6 * (b + a) + (m - a) - 1) (nn (G 21 0)) ch) b m 0 q.2.1 q.2.2) := by
  have h16 := ng_le hG
  have hbm := hS.2.2.1.2.1
  refine lp_up (F := fun n (y : Ob × Ob) j => f_X4_read_L74 n y.1 q2 y.2 (iN m) (iN b) (iN (6 * b + m - 1)) (iN a) j) (V := fun g y => SX x2 n0 G (rlF G (6 * b + m - 1) (6 * b + a - 1) (6 * (b + a) + (m - a) - 1) g ch) b m 0 y.1 y.2) (hi := nn (G 21 0)) ?_ 200 0 (y2, y0) (by omega) (by omega) hS
  rintro n ⟨z2, z0⟩ g hg hv hk
  simp only at hv hk ⊢
  have e0 : z2 0 0 = iN (nn (G 21 0)) := by rw [hv.1 0 (by decide) (by decide) (by decide), hx.1]; exact ng_e hG
  by_cases he : g = nn (G 21 0)
  · rw [he] at hv ⊢
    simp (disch := omega) only [f_X4_read_L74, e0, ↓nM_lit, iN_lit, iN_add, iN_mul, iN_lt, iN_le, iN_eq, iN_c, gd_iN, iN_nM, nM_iN, iN_ltM, nM_lt, nM_le, iN_leM, iN_0M, nM_p1, iN_0s1, decide_true, decide_eq_true_eq, Nat.not_lt_zero, if_true, if_false, wp_some, wp_grd, wp_lb, wp_ite, wp_b1, wp_b2, wp_b3, wp_b4, wp_b5, Nat.le_refl]
    exact hv
  · have hg' : g < nn (G 21 0) := by omega
    obtain ⟨-, -, c3, -⟩ := X2_get (RX2_cg hv.1 hx) hG hg'
    simp (disch := omega) only [f_X4_read_L74, e0, ↓nM_lit, iN_lit, iN_add, iN_mul, iN_lt, iN_le, iN_eq, iN_c, gd_iN, iN_nM, nM_iN, iN_ltM, nM_lt, nM_le, iN_leM, iN_0M, nM_p1, iN_0s1, decide_true, decide_eq_true_eq, Nat.not_lt_zero, if_true, if_false, wp_some, wp_grd, wp_lb, wp_ite, wp_b1, wp_b2, wp_b3, wp_b4, wp_b5, eq_grd, eq_lb, eq_b1, eq_b2, eq_b3, eq_b4, eq_b5, show ¬ (nn (G 21 0) ≤ g) by omega, c3]
    by_cases hun : G 24 g = nM
    · rw [if_pos hun]
      refine hk (z2, z0) hg' ?_
      rw [rlF, if_pos hun]; exact hv
    · rw [if_neg hun]
      simp (disch := omega) only [spanN ha, eq_grd, eq_lb, eq_b1, eq_b2, eq_b3, eq_b4, eq_b5, iN_sub (show a ≤ m by omega), spanN (show 1 ≤ m - a by omega), wp_some, wp_grd, wp_lb, wp_ite, wp_b1, wp_b2, wp_b3, wp_b4, wp_b5]
      refine wp_mono (X4_bin hG hx hv hg' hun ha ham) ?_
      rintro ⟨q1, q2⟩ hq
      refine hk (q1, q2) hg' ?_
      rw [rlF, if_neg hun]; exact hq
theorem X4_cuts {x2 G q2 : Ob} {n0 : Int32} {ch : Ch} {b m : Nat} {y2 y0 : Ob} (hG : WGr G) (hx : QX2 x2 G) (hS : SX x2 n0 G ch b m 0 y2 y0) :
    wp (f_X4_read_L64 200 y2 q2 y0 (iN m) (iN b) (iN (6 * b + m - 1)) (iN 1)) (fun q => SX x2 n0 G (cutF G b m (m - 1) ch) b m 0 q.2.1 q.2.2) := by
  have hbm := hS.2.2.1.2.1
  have hm1 := hS.2.2.1.1
  refine lp_up (F := fun n (y : Ob × Ob) j => f_X4_read_L64 n y.1 q2 y.2 (iN m) (iN b) (iN (6 * b + m - 1)) j) (V := fun a y => 1 ≤ a ∧ SX x2 n0 G (cutF G b m (a - 1) ch) b m 0 y.1 y.2) (hi := m) ?_ 200 1 (y2, y0) (by omega) (by omega) ⟨Nat.le_refl _, hS⟩
  rintro n ⟨z2, z0⟩ a ha ⟨ha1, hv⟩ hk
  simp only at hv hk ⊢
  by_cases he : a = m
  · subst he
    simp (disch := omega) only [f_X4_read_L64, ↓nM_lit, iN_lit, iN_add, iN_mul, iN_lt, iN_le, iN_eq, iN_c, gd_iN, iN_nM, nM_iN, iN_ltM, nM_lt, nM_le, iN_leM, iN_0M, nM_p1, iN_0s1, decide_true, decide_eq_true_eq, Nat.not_lt_zero, if_true, if_false, wp_some, wp_grd, wp_lb, wp_ite, wp_b1, wp_b2, wp_b3, wp_b4, wp_b5, Nat.le_refl]
    exact hv
  · simp (disch := omega) only [f_X4_read_L64, ↓nM_lit, iN_lit, iN_add, iN_mul, iN_lt, iN_le, iN_eq, iN_c, gd_iN, iN_nM, nM_iN, iN_ltM, nM_lt, nM_le, iN_leM, iN_0M, nM_p1, iN_0s1, decide_true, decide_eq_true_eq, Nat.not_lt_zero, if_true, if_false, wp_some, wp_grd, wp_lb, wp_ite, wp_b1, wp_b2, wp_b3, wp_b4, wp_b5, show ¬ (m ≤ a) by omega]
    refine wp_mono (X4_rules (q2 := q2) hG hx hv ha1 (by omega)) ?_
    rintro ⟨q0, q1, q3⟩ hq
    refine hk (q1, q3) (by omega) ⟨by omega, ?_⟩
    obtain ⟨a', rfl⟩ : ∃ a', a = a' + 1 := ⟨a - 1, by omega⟩
    rw [show a' + 1 + 1 - 1 = a' + 1 by omega, cutF]
    exact hq
