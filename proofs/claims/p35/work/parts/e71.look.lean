/-! The reference looks at a sentence: strikes and refers. -/
def rnO (o : Option (Nat × Nat × Nat)) : Int32 := match o with
  | none => nM
  | some t => iN (10 * t.1 + t.2.1)
def gO (o : Option (Nat × Nat × Nat)) : Nat := match o with
  | none => 0
  | some t => t.2.2
theorem X11_bit {M : Ob} {set : Nat} (hl : set < 16) (v1 v2 v3 : Int32) (d : Nat) : ∀ (n r k : Nat), r + d = 4 → d < n → nG (fun r => set.testBit r) d r = some k → f_X11_refer_L45 n M v1 v2 v3 (iN set) (iN r) = some (iN k) := by
  induction d with
  | zero => intro n r k _ _ h; cases h
  | succ d ih =>
    intro n r k hr hn h
    obtain ⟨n, rfl⟩ : ∃ m, n = m + 1 := ⟨n - 1, by omega⟩
    rw [nG] at h
    by_cases hb : set.testBit r = true
    · rw [if_pos hb] at h
      cases h
      simp (disch := omega) only [f_X11_refer_L45, ↓nM_lit, iN_lit, iN_add, iN_mul, iN_lt, iN_le, iN_eq, iN_c, gd_iN, iN_nM, nM_iN, iN_ltM, nM_lt, nM_le, iN_leM, iN_0M, nM_p1, iN_0s1, decide_true, decide_eq_true_eq, Nat.not_lt_zero, if_true, if_false, eq_grd, eq_lb, eq_b1, eq_b2, eq_b3, eq_b4, eq_b5, bit_0 hl (show r < 4 by omega), hb, Bool.true_eq_false]
    · have hb' : set.testBit r = false := by cases h : set.testBit r; rfl; exact absurd h hb
      rw [if_neg hb] at h
      simp (disch := omega) only [f_X11_refer_L45, ↓nM_lit, iN_lit, iN_add, iN_mul, iN_lt, iN_le, iN_eq, iN_c, gd_iN, iN_nM, nM_iN, iN_ltM, nM_lt, nM_le, iN_leM, iN_0M, nM_p1, iN_0s1, decide_true, decide_eq_true_eq, Nat.not_lt_zero, if_true, if_false, eq_grd, eq_lb, eq_b1, eq_b2, eq_b3, eq_b4, eq_b5, bit_0 hl (show r < 4 by omega), hb']
      exact ih n (r + 1) k (by omega) (by omega) h
theorem fb_none {set : Nat} (hs : set < 16) (h : fb set = none) : set = 0 := by
  have := b16_s (P := fun s => decide (fb s = none → s = 0)) (by decide +kernel) hs
  exact of_decide_eq_true this h
theorem fb_zero : fb 0 = none := by decide
theorem eP_f {M0 : Ob} {t p r : Nat} (hl : WLex M0) (hw : evw M0 t p < 40) (hp : p < evn M0 t) (hr : r < eC (evS M0 t) p) (hr4 : r < 4) : eP (evS M0 t) p r % 4 = feM M0 (evw M0 t p) r 0 ∧ eP (evS M0 t) p r / 4 % 4 = feM M0 (evw M0 t p) r 1 ∧ eP (evS M0 t) p r / 16 % 4 = feM M0 (evw M0 t p) r 2 := by
  have hr2 : r < cnM M0 (evw M0 t p) := by rw [evS_e, evW_C hp] at hr; exact hr
  have h0 := feM_le hl hw hr4 (f := 0) (by omega)
  have h1 := feM_le hl hw hr4 (f := 1) (by omega)
  have h2 := feM_le hl hw hr4 (f := 2) (by omega)
  rw [evS_e, evW_P hp hr2]
  unfold pkM pk3
  omega
theorem upo3 {M : Ob} {i : Nat} {a b c : Int32} {k j : Nat} : upo (upo (upo M 12 i a) 13 i b) 14 i c k j = if k = 12 ∧ j = i then a else if k = 13 ∧ j = i then b else if k = 14 ∧ j = i then c else M k j := by
  simp only [upo_ap]
  by_cases h1 : k = 12 ∧ j = i
  · simp [h1]
  · by_cases h2 : k = 13 ∧ j = i
    · simp [h2]
    · simp only [h1, h2, if_false]
theorem X11_refer {M0 M : Ob} {s : Nat} {Ls : Nat → Nat → Nat} (hM : MS M0 M s Ls) (hs : s < 4) {p : Nat} (hp : p < evn M0 s) :
    wp (f_X11_refer M (iN s) (iN p)) (fun y => (∀ k, k ≠ 12 → k ≠ 13 → k ≠ 14 → y k = M k) ∧ (∀ i, i ≠ 6 * s + p → y 12 i = M 12 i ∧ y 13 i = M 13 i ∧ y 14 i = M 14 i) ∧ y 12 (6 * s + p) = rnO (rfO (evS M0) Ls (evS M0 s) (Ls s) s p) ∧ y 13 (6 * s + p) = iN (gO (rfO (evS M0) Ls (evS M0 s) (Ls s) s p) % 4) ∧ y 14 (6 * s + p) = iN (gO (rfO (evS M0) Ls (evS M0 s) (Ls s) s p) / 4)) := by
  obtain ⟨hR, hL⟩ := hM s (Nat.le_refl s)
  have hE : EvB (evS M0 s) := RM_E hR
  have hn6 := hR.2.2.1
  have hlx := hR.1
  have hp' : p < eL (evS M0 s) := hp
  have hc4 := (hE.2 p hp').1
  have hl := lf_lt hE hL hp' (iN 1)
  have hw : ∀ t, t ≤ s → ∀ q, q < evn M0 t → evw M0 t q < 40 := fun t ht q hq => Nat.lt_of_lt_of_le ((hM t ht).1.2.2.2.2.1 q hq).1 (WLex_nw hlx)
  -- the state with the three rows cleared
  have hM7 : ∀ y : Ob, (∀ k, k ≠ 12 → k ≠ 13 → k ≠ 14 → y k = M k) → MS M0 y s Ls := by
    intro y hy t ht
    obtain ⟨hR, hL⟩ := hM t ht
    obtain ⟨m1, m2, m3, m4, m5, m6, m7⟩ := hR
    exact ⟨⟨m1, m2, m3, m4, m5, fun k h1 h2 h3 h4 => by rw [hy k h2 h3 h4]; exact m6 k h1 h2 h3 h4, fun q hq => by rw [hy 11 (by decide) (by decide) (by decide)]; exact m7 q hq⟩, hL⟩
  have f7 : ∀ k, k ≠ 12 → k ≠ 13 → k ≠ 14 → (upo (upo (upo M 12 (6 * s + p) nM) 13 (6 * s + p) (iN 0)) 14 (6 * s + p) (iN 0)) k = M k := by
    intro k h1 h2 h3; rw [upo_ne h3, upo_ne h2, upo_ne h1]
  have g7 : ∀ k j, upo (upo (upo M 12 (6 * s + p) nM) 13 (6 * s + p) (iN 0)) 14 (6 * s + p) (iN 0) k j = if k = 12 ∧ j = 6 * s + p then nM else if k = 13 ∧ j = 6 * s + p then iN 0 else if k = 14 ∧ j = 6 * s + p then iN 0 else M k j := fun k j => upo3
  generalize hm7 : upo (upo (upo M 12 (6 * s + p) nM) 13 (6 * s + p) (iN 0)) 14 (6 * s + p) (iN 0) = M7 at f7 g7
  have hS7 := hM7 M7 f7
  obtain ⟨hR7, -⟩ := hS7 s (Nat.le_refl s)
  obtain ⟨e10, ec, et, ef⟩ := RM_at hR7 hp
  have e1 : f_X11_leftOf M7 (iN (6 * s + p)) (iN 1) = some (iN (lf (evS M0 s) (Ls s) p (iN 1))) := X11_left hR7 hL hp (iN 1)
  simp (disch := omega) only [f_X11_refer, ↓nM_lit, iN_lit, iN_add, iN_mul, iN_lt, iN_le, iN_eq, iN_c, gd_iN, iN_nM, nM_iN, iN_ltM, nM_lt, nM_le, iN_leM, iN_0M, nM_p1, iN_0s1, decide_true, decide_eq_true_eq, Nat.not_lt_zero, if_true, if_false, wp_some, wp_grd, wp_lb, wp_ite, wp_b1, wp_b2, wp_b3, wp_b4, wp_b5, eq_grd, eq_lb, eq_b1, eq_b2, eq_b3, eq_b4, eq_b5, show 6 * s + p < 24 by omega, hm7, e1, true_and]
  rw [rfO]
  have none_ok : (∀ k, k ≠ 12 → k ≠ 13 → k ≠ 14 → M7 k = M k) ∧ (∀ i, i ≠ 6 * s + p → M7 12 i = M 12 i ∧ M7 13 i = M 13 i ∧ M7 14 i = M 14 i) ∧ M7 12 (6 * s + p) = nM ∧ M7 13 (6 * s + p) = iN 0 ∧ M7 14 (6 * s + p) = iN 0 := by
    refine ⟨f7, ?_, ?_, ?_, ?_⟩
    · intro i hi
      simp [g7, hi]
    · simp [g7]
    · simp [g7]
    · simp [g7]
  by_cases hz : lf (evS M0 s) (Ls s) p (iN 1) = 0
  · simp only [hz, if_true, fb_zero]
    exact none_ok
  · cases hf : fb (lf (evS M0 s) (Ls s) p (iN 1)) with
    | none => exact absurd (fb_none hl hf) hz
    | some r0 =>
      obtain ⟨-, hr, -⟩ := fb_lt hE hL hf
      have e64 := ((hE.2 p hp').2 r0 hr).1
      have hb := X11_bit (M := M7) hl (iN s) (iN p) (iN (6 * s + p)) 4 200 0 r0 (by omega) (by omega) hf
      obtain ⟨pf0, pf1, -⟩ := eP_f hlx (hw s (Nat.le_refl s) p hp) hp hr (by omega)
      have ef0 : f_X11_featureOf M7 (iN (evw M0 s p)) (iN r0) (iN 0) = some (iN (eP (evS M0 s) p r0 % 4)) := by rw [ef r0 0 (by omega) (by omega), pf0]
      have ef1 : f_X11_featureOf M7 (iN (evw M0 s p)) (iN r0) (iN 1) = some (iN (eP (evS M0 s) p r0 / 4 % 4)) := by rw [ef r0 1 (by omega) (by omega), pf1]
      -- what is written for a noun that is found
      have fin : ∀ (t q r : Nat), t ≤ s → q < evn M0 t → r < eC (evS M0 t) q →
          6 * t + q < 24 ∧ upo M7 12 (6 * s + p) (iN (10 * t + q)) 10 (6 * t + q) = iN (evw M0 t q) ∧ f_X11_featureOf (upo M7 12 (6 * s + p) (iN (10 * t + q))) (iN (evw M0 t q)) (iN r) (iN 0) = some (iN (feM M0 (evw M0 t q) r 0)) ∧
          upo (upo M7 12 (6 * s + p) (iN (10 * t + q))) 13 (6 * s + p) (iN (feM M0 (evw M0 t q) r 0)) 10 (6 * t + q) = iN (evw M0 t q) ∧ f_X11_featureOf (upo (upo M7 12 (6 * s + p) (iN (10 * t + q))) 13 (6 * s + p) (iN (feM M0 (evw M0 t q) r 0))) (iN (evw M0 t q)) (iN r) (iN 1) = some (iN (feM M0 (evw M0 t q) r 1)) ∧
          (fun y : Ob => (∀ k, k ≠ 12 → k ≠ 13 → k ≠ 14 → y k = M k) ∧ (∀ i, i ≠ 6 * s + p → y 12 i = M 12 i ∧ y 13 i = M 13 i ∧ y 14 i = M 14 i) ∧ y 12 (6 * s + p) = iN (10 * t + q) ∧ y 13 (6 * s + p) = iN (eP (evS M0 t) q r % 16 % 4) ∧ y 14 (6 * s + p) = iN (eP (evS M0 t) q r % 16 / 4)) (upo (upo (upo M7 12 (6 * s + p) (iN (10 * t + q))) 13 (6 * s + p) (iN (feM M0 (evw M0 t q) r 0))) 14 (6 * s + p) (iN (feM M0 (evw M0 t q) r 1))) := by
        intro t q r ht hq hr
        have hE2 : EvB (evS M0 t) := RM_E (hM t ht).1
        have hc4 := (hE2.2 q hq).1
        have hn6 := (hM t ht).1.2.2.1
        have hlx := (hM t ht).1.1
        have h44 := hM7 (upo M7 12 (6 * s + p) (iN (10 * t + q))) (fun k h1 h2 h3 => by rw [upo_ne h1]; exact f7 k h1 h2 h3)
        obtain ⟨a10, -, -, af⟩ := RM_at (h44 t ht).1 hq
        obtain ⟨p0, p1, -⟩ := eP_f hlx (hw t ht q hq) hq hr (by omega)
        have h49 := hM7 (upo (upo M7 12 (6 * s + p) (iN (10 * t + q))) 13 (6 * s + p) (iN (feM M0 (evw M0 t q) r 0))) (fun k h1 h2 h3 => by rw [upo_ne h2, upo_ne h1]; exact f7 k h1 h2 h3)
        obtain ⟨b10, -, -, bf⟩ := RM_at (h49 t ht).1 hq
        refine ⟨by omega, a10, af r 0 (by omega) (by omega), b10, bf r 1 (by omega) (by omega), ?_, ?_, ?_, ?_, ?_⟩
        · intro k h1 h2 h3; rw [upo_ne h3, upo_ne h2, upo_ne h1]; exact f7 k h1 h2 h3
        · intro i hi
          simp only [upo3, hi, and_false, if_false]
          exact none_ok.2.1 i hi
        · simp [upo3]
        · simp only [upo3, show ¬ (13 = 12) by decide, false_and, if_false, true_and, if_true]
          rw [show eP (evS M0 t) q r % 16 % 4 = eP (evS M0 t) q r % 4 by omega, p0]
        · simp only [upo3, show ¬ (14 = 12) by decide, show ¬ (14 = 13) by decide, false_and, if_false, true_and, if_true]
          rw [show eP (evS M0 t) q r % 16 / 4 = eP (evS M0 t) q r / 4 % 4 by omega, p1]
      simp (disch := omega) only [hz, if_false, hb, eq_grd, eq_lb, eq_b1, eq_b2, eq_b3, eq_b4, eq_b5, e10, ef0, ef1, ↓nM_lit, iN_lit, iN_add, iN_mul, iN_lt, iN_le, iN_eq, iN_c, gd_iN, iN_nM, nM_iN, iN_ltM, nM_lt, nM_le, iN_leM, iN_0M, nM_p1, iN_0s1, decide_true, decide_eq_true_eq, Nat.not_lt_zero, if_true, if_false, show 6 * s + p < 24 by omega, wp_some, wp_grd, wp_lb, wp_ite, wp_b1, wp_b2, wp_b3, wp_b4, wp_b5, true_and]
      have eDp : iN p - iN 1 = iD p := rfl
      rw [show (200 : Nat) = 199 + 1 from rfl, f_X11_refer_L94]
      simp (disch := omega) only [f_X11_refer_J128, wp_some, wp_grd, wp_lb, wp_ite, wp_b1, wp_b2, wp_b3, wp_b4, wp_b5, ↓nM_lit, iN_lit, iN_add, iN_mul, iN_lt, iN_le, iN_eq, iN_c, gd_iN, iN_nM, nM_iN, iN_ltM, nM_lt, nM_le, iN_leM, iN_0M, nM_p1, iN_0s1, decide_true, decide_eq_true_eq, Nat.not_lt_zero, if_true, if_false, lt_s2 hs hs, show ¬ (s + 2 < s) by omega, eDp]
      refine wp_mono (X11_down (s := s) hR7 hL e64 (iN s) (iN p) (iN (6 * s + p)) 200 p (by omega) (by omega)) ?_
      intro q hq
      cases hg : fD (evS M0 s) (Ls s) (eP (evS M0 s) p r0) p with
      | some k =>
        rw [hg] at hq
        obtain ⟨q1, q2, q3, r, q4, q5, q6⟩ := hq
        obtain ⟨k24, a10, a0, b10, b1, hfin⟩ := fin s k.1 r (Nat.le_refl s) q3 q5
        simp (disch := omega) only [q1, q2, q4, show ¬ (2 = 1) by decide, show ¬ (2 = 0) by decide, ↓nM_lit, iN_lit, iN_add, iN_mul, iN_lt, iN_le, iN_eq, iN_c, gd_iN, iN_nM, nM_iN, iN_ltM, nM_lt, nM_le, iN_leM, iN_0M, nM_p1, iN_0s1, decide_true, decide_eq_true_eq, Nat.not_lt_zero, if_true, if_false, wp_some, wp_grd, wp_lb, wp_ite, wp_b1, wp_b2, wp_b3, wp_b4, wp_b5, eq_grd, eq_lb, eq_b1, eq_b2, eq_b3, eq_b4, eq_b5, k24, a10, a0, b10, b1, show 6 * s + p < 24 by omega, true_and, rnO, gO, q6]
        exact hfin
      | none =>
        rw [hg] at hq
        simp (disch := omega) only [hq, ↓nM_lit, iN_lit, iN_add, iN_mul, iN_lt, iN_le, iN_eq, iN_c, gd_iN, iN_nM, nM_iN, iN_ltM, nM_lt, nM_le, iN_leM, iN_0M, nM_p1, iN_0s1, decide_true, decide_eq_true_eq, Nat.not_lt_zero, if_true, if_false, wp_some, wp_grd, wp_lb, wp_ite, wp_b1, wp_b2, wp_b3, wp_b4, wp_b5, iD_pM]
        refine wp_mono (X11_ahead hS7 hs e64 (iN p) (iN (6 * s + p)) 199 2 s (by omega) (by omega) (Or.inr rfl) (by omega) (by omega)) ?_
        intro u hu
        cases ha : fA (evS M0) Ls (eP (evS M0 s) p r0) 2 s with
        | none =>
          rw [ha] at hu
          simp only [hu, if_true, wp_some, wp_grd, wp_lb, wp_ite, wp_b1, wp_b2, wp_b3, wp_b4, wp_b5, rnO, gO]
          exact none_ok
        | some k =>
          rw [ha] at hu
          obtain ⟨q1, q2, q3, q3b, q3c, r, q4, q5, q6⟩ := hu
          obtain ⟨k24, a10, a0, b10, b1, hfin⟩ := fin k.1 k.2.1 r q3b q3c q5
          simp (disch := omega) only [q1, q2, q3, q4, show ¬ (2 = 1) by decide, show ¬ (2 = 0) by decide, ↓nM_lit, iN_lit, iN_add, iN_mul, iN_lt, iN_le, iN_eq, iN_c, gd_iN, iN_nM, nM_iN, iN_ltM, nM_lt, nM_le, iN_leM, iN_0M, nM_p1, iN_0s1, decide_true, decide_eq_true_eq, Nat.not_lt_zero, if_true, if_false, wp_some, wp_grd, wp_lb, wp_ite, wp_b1, wp_b2, wp_b3, wp_b4, wp_b5, eq_grd, eq_lb, eq_b1, eq_b2, eq_b3, eq_b4, eq_b5, k24, a10, a0, b10, b1, show 6 * s + p < 24 by omega, true_and, rnO, gO, q6]
          exact hfin
theorem evW_cg {M M' : Ob} (h : ∀ k, k < 9 → M' k = M k) (n : Nat) (wd : Nat → Nat) : evW M' n wd = evW M n wd := by
  have e : ∀ w k, pkM M' w k = pkM M w k := fun w k => by unfold pkM; rw [feM_cg h, feM_cg h, feM_cg h]
  simp only [evW, cnM_cg h, ctM_cg h, e]
theorem WTxt_at {M : Ob} (h : WTxt M) {s : Nat} (hs : s < 4) : evn M s ≤ 6 ∧ M 9 s = iN (evn M s) ∧ ∀ p, p < evn M s → evw M s p < nn (M 0 0) ∧ M 10 (6 * s + p) = iN (evw M s p) := by
  obtain ⟨n, hn, e, hw⟩ := h s hs
  have en : evn M s = n := by unfold evn; rw [e, nn, iN_c (by omega)]
  rw [en]
  refine ⟨hn, e, fun p hp => ?_⟩
  obtain ⟨w, hw, ew⟩ := hw p hp
  have h31 : nn (M 0 0) < 2147483648 := Int32.toNatClampNeg_lt _
  have ew2 : evw M s p = w := by unfold evw; rw [ew, nn, iN_c (by omega)]
  rw [ew2]; exact ⟨hw, ew⟩
def Lk (R M : Ob) (t : Nat) : Nat → Nat := stk R (evS M t)
def rfM (R M : Ob) (s p : Nat) : Option (Nat × Nat × Nat) := rfO (evS M) (Lk R M) (evS M s) (Lk R M s) s p
theorem X11_look {M R : Ob} {s : Nat} (hl : WLex M) (ht : WTxt M) (hR : RSt M R) (hs : s < 4) :
    wp (f_X11_look M (iN s)) (fun y => (∀ k, k ≠ 11 → k ≠ 12 → k ≠ 13 → k ≠ 14 → y k = M k) ∧ MS M y s (Lk R M) ∧ ∀ p, p < evn M s → y 12 (6 * s + p) = rnO (rfM R M s p) ∧ y 13 (6 * s + p) = iN (gO (rfM R M s p) % 4) ∧ y 14 (6 * s + p) = iN (gO (rfM R M s p) / 4)) := by
  rw [f_X11_look]
  simp only [wp_some, wp_grd, wp_lb, wp_ite, wp_b1, wp_b2, wp_b3, wp_b4, wp_b5]
  have key : wp (f_X11_look_L2 200 M (iN s) (iN 0)) (fun r => (∀ k, k ≠ 11 → r.2 k = M k) ∧ ∀ t, t < s + 1 → LB (evS M t) (Lk R M t) ∧ ∀ p, p < evn M t → r.2 11 (6 * t + p) = iN (Lk R M t p)) := by
    refine lp_up (F := fun f (y : Ob) i => f_X11_look_L2 f y (iN s) i) (V := fun q y => (∀ k, k ≠ 11 → y k = M k) ∧ ∀ t, t < q → LB (evS M t) (Lk R M t) ∧ ∀ p, p < evn M t → y 11 (6 * t + p) = iN (Lk R M t p)) (hi := s + 1) ?_ 200 0 M (by omega) (by omega) ⟨fun _ _ => rfl, fun j hj => absurd hj (Nat.not_lt_zero j)⟩
    intro f y i hi hv hk
    by_cases he : i = s + 1
    · subst he
      simp (disch := omega) only [f_X11_look_L2, ↓nM_lit, iN_lit, iN_add, iN_mul, iN_lt, iN_le, iN_eq, iN_c, gd_iN, iN_nM, nM_iN, iN_ltM, nM_lt, nM_le, iN_leM, iN_0M, nM_p1, iN_0s1, decide_true, decide_eq_true_eq, Nat.not_lt_zero, if_true, if_false, wp_some, wp_grd, wp_lb, wp_ite, wp_b1, wp_b2, wp_b3, wp_b4, wp_b5, show s < s + 1 by omega]
      exact hv
    · obtain ⟨n6, e9, hw⟩ := WTxt_at ht (show i < 4 by omega)
      have yl := WLex_cg (fun k hk => hv.1 k (by omega)) hl
      have y0 : y 0 0 = M 0 0 := by rw [hv.1 0 (by decide)]
      simp (disch := omega) only [f_X11_look_L2, ↓nM_lit, iN_lit, iN_add, iN_mul, iN_lt, iN_le, iN_eq, iN_c, gd_iN, iN_nM, nM_iN, iN_ltM, nM_lt, nM_le, iN_leM, iN_0M, nM_p1, iN_0s1, decide_true, decide_eq_true_eq, Nat.not_lt_zero, if_true, if_false, wp_some, wp_grd, wp_lb, wp_ite, wp_b1, wp_b2, wp_b3, wp_b4, wp_b5, show ¬ (s < i) by omega]
      refine wp_mono (X11_strikeAll (R := R) (n := evn M i) (wd := evw M i) yl (show i < 4 by omega) n6 (by rw [hv.1 9 (by decide)]; exact e9) (fun p hp => by rw [y0, hv.1 10 (by decide)]; exact hw p hp) ⟨hR.1, fun k h1 h2 => by rw [hv.1 k (by omega)]; exact hR.2.1 k h1 h2, hR.2.2⟩) ?_
      intro r hr
      obtain ⟨r1, r2, r3, r4⟩ := hr
      rw [evW_cg (fun k hk => hv.1 k (by omega))] at r2 r3
      refine hk r (by omega) ⟨fun k h1 => by rw [r1 k h1]; exact hv.1 k h1, ?_⟩
      intro t ht'
      by_cases e : t = i
      · subst e; exact ⟨r3, r2⟩
      · obtain ⟨a, b⟩ := hv.2 t (by omega)
        refine ⟨a, fun p hp => ?_⟩
        have hn6 := (WTxt_at ht (show t < 4 by omega)).1
        rw [r4 _ (by omega)]; exact b p hp
  refine wp_mono key ?_
  intro r hr
  obtain ⟨r1, r2⟩ := hr
  have hMS : MS M r.2 s (Lk R M) := by
    intro t ht'
    obtain ⟨n6, e9, hw⟩ := WTxt_at ht (show t < 4 by omega)
    exact ⟨⟨hl, by omega, n6, e9, hw, fun k h1 _ _ _ => r1 k h1, (r2 t (by omega)).2⟩, (r2 t (by omega)).1⟩
  obtain ⟨n6, e9, hw⟩ := WTxt_at ht hs
  have key2 : wp (f_X11_look_L20 200 r.2 (iN s) (iN 0)) (fun q => (∀ k, k ≠ 12 → k ≠ 13 → k ≠ 14 → q.2 k = r.2 k) ∧ ∀ p, p < evn M s → q.2 12 (6 * s + p) = rnO (rfM R M s p) ∧ q.2 13 (6 * s + p) = iN (gO (rfM R M s p) % 4) ∧ q.2 14 (6 * s + p) = iN (gO (rfM R M s p) / 4)) := by
    refine lp_up (F := fun f (y : Ob) i => f_X11_look_L20 f y (iN s) i) (V := fun i y => (∀ k, k ≠ 12 → k ≠ 13 → k ≠ 14 → y k = r.2 k) ∧ ∀ p, p < i → y 12 (6 * s + p) = rnO (rfM R M s p) ∧ y 13 (6 * s + p) = iN (gO (rfM R M s p) % 4) ∧ y 14 (6 * s + p) = iN (gO (rfM R M s p) / 4)) (hi := evn M s) ?_ 200 0 r.2 (by omega) (by omega) ⟨fun _ _ _ _ => rfl, fun j hj => absurd hj (Nat.not_lt_zero j)⟩
    intro f y i hi hv hk
    have y9 : y 9 s = iN (evn M s) := by rw [hv.1 9 (by decide) (by decide) (by decide), r1 9 (by decide)]; exact e9
    by_cases he : i = evn M s
    · subst he
      simp (disch := omega) only [f_X11_look_L20, y9, hs, ↓nM_lit, iN_lit, iN_add, iN_mul, iN_lt, iN_le, iN_eq, iN_c, gd_iN, iN_nM, nM_iN, iN_ltM, nM_lt, nM_le, iN_leM, iN_0M, nM_p1, iN_0s1, decide_true, decide_eq_true_eq, Nat.not_lt_zero, if_true, if_false, wp_some, wp_grd, wp_lb, wp_ite, wp_b1, wp_b2, wp_b3, wp_b4, wp_b5, Nat.le_refl, true_and]
      exact hv
    · have hyM : MS M y s (Lk R M) := by
        intro t ht'
        obtain ⟨⟨m1, m2, m3, m4, m5, m6, m7⟩, hL⟩ := hMS t ht'
        exact ⟨⟨m1, m2, m3, m4, m5, fun k h1 h2 h3 h4 => by rw [hv.1 k h2 h3 h4]; exact m6 k h1 h2 h3 h4, fun q hq => by rw [hv.1 11 (by decide) (by decide) (by decide)]; exact m7 q hq⟩, hL⟩
      simp (disch := omega) only [f_X11_look_L20, y9, hs, ↓nM_lit, iN_lit, iN_add, iN_mul, iN_lt, iN_le, iN_eq, iN_c, gd_iN, iN_nM, nM_iN, iN_ltM, nM_lt, nM_le, iN_leM, iN_0M, nM_p1, iN_0s1, decide_true, decide_eq_true_eq, Nat.not_lt_zero, if_true, if_false, wp_some, wp_grd, wp_lb, wp_ite, wp_b1, wp_b2, wp_b3, wp_b4, wp_b5, show ¬ (evn M s ≤ i) by omega, true_and]
      refine wp_mono (X11_refer hyM hs (show i < evn M s by omega)) ?_
      intro z hz
      obtain ⟨z1, z2, z3, z4, z5⟩ := hz
      refine hk z (by omega) ⟨fun k h1 h2 h3 => by rw [z1 k h1 h2 h3]; exact hv.1 k h1 h2 h3, ?_⟩
      intro p hp
      by_cases e : p = i
      · subst e; exact ⟨z3, z4, z5⟩
      · obtain ⟨a, b, c⟩ := z2 (6 * s + p) (by omega)
        rw [a, b, c]; exact hv.2 p (by omega)
  refine wp_mono key2 ?_
  intro q hq
  refine ⟨fun k h1 h2 h3 h4 => by rw [hq.1 k h2 h3 h4]; exact r1 k h1, ?_, hq.2⟩
  intro t ht'
  obtain ⟨⟨m1, m2, m3, m4, m5, m6, m7⟩, hL⟩ := hMS t ht'
  exact ⟨⟨m1, m2, m3, m4, m5, fun k h1 h2 h3 h4 => by rw [hq.1 k h2 h3 h4]; exact m6 k h1 h2 h3 h4, fun p hp => by rw [hq.1 11 (by decide) (by decide) (by decide)]; exact m7 p hp⟩, hL⟩
