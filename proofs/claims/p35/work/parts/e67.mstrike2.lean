theorem X11_holds {M0 M R : Ob} {s n : Nat} {wd L : Nat → Nat} (hR : RSt M0 R) (h : RM M0 M s n wd L) (hL : LB (evW M0 n wd) L) {g p : Nat} (hg : g < nn (R 15 0)) (hp : p < n) : f_X11_holds M (iN s) (iN g) (iN p) = some (if sHo R (evW M0 n wd) L g p = true then iN 1 else iN 0) := by
  rcases hR.2.2 g hg with h0 | ⟨h0, h18⟩
  · rw [X11_sure hR h hL hg hp h0, sHo, if_pos h0]
  · have hn := h.2.2.1
    have hg8 : g < 8 := by
      obtain ⟨⟨a, ha, ea⟩, -⟩ := hR
      rw [ea, nn, iN_c (by omega)] at hg; omega
    have hM : ∀ k, 15 ≤ k → k ≤ 20 → M k = R k := fun k h1 h2 => by rw [h.2.2.2.2.2.1 k (by omega) (by omega) (by omega) (by omega)]; exact hR.2.1 k h1 h2
    obtain ⟨r, e, hr⟩ := X11_seen_L hR h hL hg h18 6 200 (iN p + R 18 g) (by omega) (fun q hq _ => ⟨fun _ => by omega, fun _ => by omega⟩)
    have hne : ¬ (R 16 g = iN 0) := by rw [h0]; decide
    rw [sHo, if_neg hne]
    simp (disch := omega) only [f_X11_holds, ↓nM_lit, iN_lit, iN_add, iN_mul, iN_lt, iN_le, iN_eq, iN_c, gd_iN, iN_nM, nM_iN, iN_ltM, nM_lt, nM_le, iN_leM, iN_0M, nM_p1, iN_0s1, decide_true, decide_eq_true_eq, Nat.not_lt_zero, if_true, if_false, eq_grd, eq_lb, eq_b1, eq_b2, eq_b3, eq_b4, eq_b5, hg8, hM 16 (by decide) (by decide), h0, show ¬ (1 = 0) by decide, hM 18 (by decide) (by decide), e]
    exact hr
def pcs : Nat → (Nat → Nat) → Nat
  | 0, _ => 0
  | n + 1, L => pcs n L + pc4 (L n)
theorem pcs_u (n : Nat) (L : Nat → Nat) (p v : Nat) : p < n → pcs n (uN L p v) + pc4 (L p) = pcs n L + pc4 v := by
  induction n with
  | zero => intro h; omega
  | succ n ih =>
    intro h
    have out : ∀ m, m ≤ p → pcs m (uN L p v) = pcs m L := by
      intro m
      induction m with
      | zero => intro _; rfl
      | succ m im => intro hm; rw [pcs, pcs, im (by omega), uN, if_neg (by omega)]
    by_cases e : p = n
    · subst e; rw [pcs, pcs, out p (Nat.le_refl p), uN, if_pos rfl]; omega
    · have := ih (by omega)
      have e2 : uN L p v n = L n := by rw [uN, if_neg (by omega)]
      rw [pcs, pcs, e2]; omega
def PcO (n k : Nat) (s : Sk) : Prop := pcs n s.2 ≤ k ∧ (s.1 = true → pcs n s.2 < k)
theorem PcO_1 {R : Ob} {E : Ev} (hE : EvB E) {g p k : Nat} (hp : p < eL E) {s : Sk} (hL : LB E s.2) (h : PcO (eL E) k s) : PcO (eL E) k (s1 R E g p s) ∧ LB E (s1 R E g p s).2 := by
  rw [s1]
  by_cases hc : lf E s.2 p (R 17 g) ≠ 0 ∧ lf E s.2 p (R 17 g) ≠ s.2 p ∧ sHo R E s.2 g p = true
  · rw [if_pos hc]
    have h16 := LB16 hE hL hp
    have e : lf E s.2 p (R 17 g) = lo (s.2 p) (fun k => decide (eT E p k = R 17 g)) := by rw [lf, if_pos hp]
    rw [e] at hc ⊢
    have h1 := lo_pc h16 _ hc.1
    have h2 := pcs_u (eL E) s.2 p (s.2 p - lo (s.2 p) (fun k => decide (eT E p k = R 17 g))) hp
    refine ⟨⟨?_, fun _ => ?_⟩, LB_u hL (Nat.sub_le _ _)⟩
    · have := h.1; simp only []; omega
    · have := h.1; simp only []; omega
  · rw [if_neg hc]; exact ⟨h, hL⟩
theorem PcO_P {R : Ob} {E : Ev} (hE : EvB E) {g k : Nat} {s : Sk} (hL : LB E s.2) (h : PcO (eL E) k s) (i : Nat) (hi : i ≤ eL E) : PcO (eL E) k (sP R E g i s) ∧ LB E (sP R E g i s).2 := by
  induction i with
  | zero => exact ⟨h, hL⟩
  | succ i ih => obtain ⟨a, b⟩ := ih (by omega); exact PcO_1 hE (by omega) b a
theorem PcO_R {R : Ob} {E : Ev} (hE : EvB E) {k : Nat} {s : Sk} (hL : LB E s.2) (h : PcO (eL E) k s) (i : Nat) : PcO (eL E) k (sR R E i s) ∧ LB E (sR R E i s).2 := by
  induction i with
  | zero => exact ⟨h, hL⟩
  | succ i ih => obtain ⟨a, b⟩ := ih; exact PcO_P hE b a (eL E) (Nat.le_refl _)
theorem rnd_pc {R : Ob} {E : Ev} (hE : EvB E) {L : Nat → Nat} (hL : LB E L) : ((rnd R E L).1 = true → pcs (eL E) (rnd R E L).2 < pcs (eL E) L) ∧ LB E (rnd R E L).2 := by
  have := PcO_R (R := R) hE (s := (false, L)) (k := pcs (eL E) L) hL ⟨Nat.le_refl _, fun h => by cases h⟩ (R 15 0).toNatClampNeg
  exact ⟨this.1.2, this.2⟩
theorem sI_LB {R : Ob} {E : Ev} (hE : EvB E) (d : Nat) : ∀ (L : Nat → Nat), LB E L → LB E (sI R E d L) := by
  induction d with
  | zero => intro L h; exact h
  | succ d ih =>
    intro L h
    have := (rnd_pc (R := R) hE h).2
    rw [sI]; split
    · exact ih _ this
    · exact this
/-- a place, a rule, a round of the reference -/
def SM (M0 : Ob) (s n : Nat) (wd : Nat → Nat) (st : Sk) (y : Ob × Int32) : Prop := RM M0 y.1 s n wd st.2 ∧ LB (evW M0 n wd) st.2 ∧ y.2 = bI st.1 ∧ (∀ i, (i < 6 * s ∨ 6 * s + n ≤ i) → y.1 11 i = M0 11 i) ∧ ∀ k, k ≠ 11 → y.1 k = M0 k
theorem X11_places {M0 R : Ob} {s n : Nat} {wd : Nat → Nat} (hR : RSt M0 R) {g : Nat} (hg : g < nn (R 15 0)) (s0 : Sk) (y0 : Ob × Int32) (h0 : SM M0 s n wd s0 y0) :
    wp (f_X11_strikeAll_L69 200 y0.1 (iN s) y0.2 (iN g) (iN 0)) (fun r => SM M0 s n wd (sP R (evW M0 n wd) g n s0) (r.2.2, r.1)) := by
  have hg8 : g < 8 := by
    obtain ⟨⟨a, ha, ea⟩, -⟩ := hR
    rw [ea, nn, iN_c (by omega)] at hg; omega
  have hn := h0.1.2.2.1
  have hs := h0.1.2.1
  refine lp_up (F := fun f (y : Ob × Int32) i => f_X11_strikeAll_L69 f y.1 (iN s) y.2 (iN g) i) (V := fun i y => SM M0 s n wd (sP R (evW M0 n wd) g i s0) y) (hi := n) ?_ 200 0 y0 (by omega) (by omega) h0
  intro f y i hi hv hk
  obtain ⟨hM, hL, hb, ho, hfr⟩ := id hv
  have hE := RM_E hM
  have e9 : y.1 9 s = iN n := by rw [hM.2.2.2.2.2.1 9 (by decide) (by decide) (by decide) (by decide)]; exact hM.2.2.2.1
  have e17 : y.1 17 g = R 17 g := by rw [hM.2.2.2.2.2.1 17 (by decide) (by decide) (by decide) (by decide), hR.2.1 17 (by decide) (by decide)]
  by_cases he : i = n
  · subst he
    simp (disch := omega) only [f_X11_strikeAll_L69, e9, ↓nM_lit, iN_lit, iN_add, iN_mul, iN_lt, iN_le, iN_eq, iN_c, gd_iN, iN_nM, nM_iN, iN_ltM, nM_lt, nM_le, iN_leM, iN_0M, nM_p1, iN_0s1, decide_true, decide_eq_true_eq, Nat.not_lt_zero, if_true, if_false, wp_some, wp_grd, wp_lb, wp_ite, wp_b1, wp_b2, wp_b3, wp_b4, wp_b5, hs, Nat.le_refl, true_and]
    exact hv
  · have hi' : i < n := by omega
    have hi2 : i < eL (evW M0 n wd) := by rw [evW_L]; exact hi'
    have hl := lf_lt hE hL hi2 (R 17 g)
    have h16 := LB16 hE hL hi2
    have e11 := hM.2.2.2.2.2.2 i hi'
    simp (disch := omega) only [f_X11_strikeAll_L69, e9, ↓nM_lit, iN_lit, iN_add, iN_mul, iN_lt, iN_le, iN_eq, iN_c, gd_iN, iN_nM, nM_iN, iN_ltM, nM_lt, nM_le, iN_leM, iN_0M, nM_p1, iN_0s1, decide_true, decide_eq_true_eq, Nat.not_lt_zero, if_true, if_false, wp_some, wp_grd, wp_lb, wp_ite, wp_b1, wp_b2, wp_b3, wp_b4, wp_b5, eq_grd, eq_lb, eq_b1, eq_b2, eq_b3, eq_b4, eq_b5, hs, show ¬ (n ≤ i) by omega, hg8, e17, X11_left hM hL hi', show 6 * s + i < 24 by omega, e11, X11_holds hR hM hL hg hi', true_and]
    have same : (¬ (lf (evW M0 n wd) (sP R (evW M0 n wd) g i s0).2 i (R 17 g) ≠ 0 ∧ lf (evW M0 n wd) (sP R (evW M0 n wd) g i s0).2 i (R 17 g) ≠ (sP R (evW M0 n wd) g i s0).2 i ∧ sHo R (evW M0 n wd) (sP R (evW M0 n wd) g i s0).2 g i = true)) → wp (f_X11_strikeAll_L69 f y.1 (iN s) y.2 (iN g) (iN (i + 1))) (fun r => SM M0 s n wd (sP R (evW M0 n wd) g n s0) (r.2.2, r.1)) := by
      intro hh
      refine hk y hi' ?_
      rw [sP, s1, if_neg hh]
      exact hv
    by_cases hz : lf (evW M0 n wd) (sP R (evW M0 n wd) g i s0).2 i (R 17 g) = 0
    · simp only [hz, if_true]
      exact same (by rw [hz]; intro h; exact h.1 rfl)
    · by_cases ha : lf (evW M0 n wd) (sP R (evW M0 n wd) g i s0).2 i (R 17 g) = (sP R (evW M0 n wd) g i s0).2 i
      · simp only [ha, if_true]
        rw [ha] at hz
        simp only [hz, if_false]
        exact same (by rw [ha]; intro h; exact h.2.1 rfl)
      · simp only [hz, ha, if_false]
        cases hh : sHo R (evW M0 n wd) (sP R (evW M0 n wd) g i s0).2 g i with
        | false =>
          simp (disch := omega) only [Bool.false_eq_true, ↓nM_lit, iN_lit, iN_add, iN_mul, iN_lt, iN_le, iN_eq, iN_c, gd_iN, iN_nM, nM_iN, iN_ltM, nM_lt, nM_le, iN_leM, iN_0M, nM_p1, iN_0s1, decide_true, decide_eq_true_eq, Nat.not_lt_zero, if_true, if_false]
          exact same (by rw [hh]; intro h; cases h.2.2)
        | true =>
          simp (disch := omega) only [↓nM_lit, iN_lit, iN_add, iN_mul, iN_lt, iN_le, iN_eq, iN_c, gd_iN, iN_nM, nM_iN, iN_ltM, nM_lt, nM_le, iN_leM, iN_0M, nM_p1, iN_0s1, decide_true, decide_eq_true_eq, Nat.not_lt_zero, if_true, if_false, show ¬ (1 = 0) by decide]
          have e : lf (evW M0 n wd) (sP R (evW M0 n wd) g i s0).2 i (R 17 g) = lo ((sP R (evW M0 n wd) g i s0).2 i) (fun k => decide (eT (evW M0 n wd) i k = R 17 g)) := by rw [lf, if_pos hi2]
          have hle : lf (evW M0 n wd) (sP R (evW M0 n wd) g i s0).2 i (R 17 g) ≤ (sP R (evW M0 n wd) g i s0).2 i := by rw [e]; exact lo_le h16 _
          rw [iN_sub hle]
          refine hk (upo y.1 11 (6 * s + i) (iN ((sP R (evW M0 n wd) g i s0).2 i - lf (evW M0 n wd) (sP R (evW M0 n wd) g i s0).2 i (R 17 g))), iN 1) hi' ?_
          rw [sP, s1, if_pos ⟨hz, ha, hh⟩]
          refine ⟨?_, LB_u hL (Nat.sub_le _ _), rfl, ?_, ?_⟩
          · obtain ⟨m1, m2, m3, m4, m5, m6, m7⟩ := hM
            refine ⟨m1, m2, m3, m4, m5, ?_, ?_⟩
            · intro k h1 h2 h3 h4; simp only [upo_ne h1]; exact m6 k h1 h2 h3 h4
            · intro p hp
              by_cases e : p = i
              · subst e; simp only [upo_ap, uN, and_self, if_true]
              · simp only [upo_ap, uN, e, show ¬ (6 * s + p = 6 * s + i) by omega, and_false, if_false]; exact m7 p hp
          · intro j hj
            simp only [upo_ap, show ¬ (j = 6 * s + i) by omega, and_false, if_false]; exact ho j hj
          · intro k h1; simp only [upo_ne h1]; exact hfr k h1
theorem X11_rules {M0 R : Ob} {s n : Nat} {wd : Nat → Nat} (hR : RSt M0 R) (s0 : Sk) (y0 : Ob × Int32) (h0 : SM M0 s n wd s0 y0) :
    wp (f_X11_strikeAll_L58 200 y0.1 (iN s) y0.2 (iN 0)) (fun r => SM M0 s n wd (sR R (evW M0 n wd) (R 15 0).toNatClampNeg s0) (r.2.2, r.1)) := by
  obtain ⟨⟨a, ha, ea⟩, hq, -⟩ := id hR
  rw [ea, iN_c (by omega)]
  refine lp_up (F := fun f (y : Ob × Int32) i => f_X11_strikeAll_L58 f y.1 (iN s) y.2 i) (V := fun i y => SM M0 s n wd (sR R (evW M0 n wd) i s0) y) (hi := a) ?_ 200 0 y0 (by omega) (by omega) h0
  intro f y i hi hv hk
  have e15 : y.1 15 0 = iN a := by rw [hv.1.2.2.2.2.2.1 15 (by decide) (by decide) (by decide) (by decide), hq 15 (by decide) (by decide), ea]
  by_cases he : i = a
  · subst he
    simp (disch := omega) only [f_X11_strikeAll_L58, e15, ↓nM_lit, iN_lit, iN_add, iN_mul, iN_lt, iN_le, iN_eq, iN_c, gd_iN, iN_nM, nM_iN, iN_ltM, nM_lt, nM_le, iN_leM, iN_0M, nM_p1, iN_0s1, decide_true, decide_eq_true_eq, Nat.not_lt_zero, if_true, if_false, wp_some, wp_grd, wp_lb, wp_ite, wp_b1, wp_b2, wp_b3, wp_b4, wp_b5, Nat.le_refl]
    exact hv
  · simp (disch := omega) only [f_X11_strikeAll_L58, e15, ↓nM_lit, iN_lit, iN_add, iN_mul, iN_lt, iN_le, iN_eq, iN_c, gd_iN, iN_nM, nM_iN, iN_ltM, nM_lt, nM_le, iN_leM, iN_0M, nM_p1, iN_0s1, decide_true, decide_eq_true_eq, Nat.not_lt_zero, if_true, if_false, wp_some, wp_grd, wp_lb, wp_ite, wp_b1, wp_b2, wp_b3, wp_b4, wp_b5, show ¬ (a ≤ i) by omega]
    refine wp_mono (X11_places hR (show i < nn (R 15 0) by rw [ea, nn, iN_c (by omega)]; omega) _ y hv) ?_
    intro r hr
    exact hk (r.2.2, r.1) (by omega) hr
theorem X11_rounds {M0 R : Ob} {s n : Nat} {wd : Nat → Nat} (hR : RSt M0 R) (d : Nat) : ∀ (f : Nat) (L : Nat → Nat) (M : Ob), pcs n L < d → d < f → SM M0 s n wd (true, L) (M, iN 1) →
    wp (f_X11_strikeAll_L50 f M (iN s) (iN 1)) (fun r => SM M0 s n wd (true, sI R (evW M0 n wd) d L) (r.2, iN 1)) := by
  induction d with
  | zero => intro f L M h; omega
  | succ d ih =>
    intro f L M hp hf hs
    obtain ⟨f, rfl⟩ : ∃ m, f = m + 1 := ⟨f - 1, by omega⟩
    simp (disch := omega) only [f_X11_strikeAll_L50, ↓nM_lit, iN_lit, iN_add, iN_mul, iN_lt, iN_le, iN_eq, iN_c, gd_iN, iN_nM, nM_iN, iN_ltM, nM_lt, nM_le, iN_leM, iN_0M, nM_p1, iN_0s1, decide_true, decide_eq_true_eq, Nat.not_lt_zero, if_true, if_false, wp_some, wp_grd, wp_lb, wp_ite, wp_b1, wp_b2, wp_b3, wp_b4, wp_b5, show ¬ (1 = 0) by decide]
    refine wp_mono (X11_rules hR (false, L) (M, iN 0) ⟨hs.1, hs.2.1, rfl, hs.2.2.2⟩) ?_
    intro r hr
    change SM M0 s n wd (rnd R (evW M0 n wd) L) (r.2.2, r.1) at hr
    have hLB : LB (evW M0 n wd) L := hs.2.1
    have hpc := rnd_pc (R := R) (RM_E hs.1) hLB
    rw [evW_L] at hpc
    obtain ⟨h1, h2, h3, h4⟩ := hr
    rw [sI]
    cases hg : (rnd R (evW M0 n wd) L).1 with
    | true =>
      rw [hg] at h3
      have h3' : r.1 = iN 1 := h3
      rw [h3']
      have := hpc.1 hg
      exact ih f _ _ (by omega) (by omega) ⟨h1, h2, rfl, h4⟩
    | false =>
      rw [hg] at h3
      have h3' : r.1 = iN 0 := h3
      rw [h3']
      obtain ⟨f, rfl⟩ : ∃ m, f = m + 1 := ⟨f - 1, by omega⟩
      simp (disch := omega) only [f_X11_strikeAll_L50, ↓nM_lit, iN_lit, iN_add, iN_mul, iN_lt, iN_le, iN_eq, iN_c, gd_iN, iN_nM, nM_iN, iN_ltM, nM_lt, nM_le, iN_leM, iN_0M, nM_p1, iN_0s1, decide_true, decide_eq_true_eq, Nat.not_lt_zero, if_true, if_false, wp_some, wp_grd, wp_lb, wp_ite, wp_b1, wp_b2, wp_b3, wp_b4, wp_b5, Bool.false_eq_true]
      exact ⟨h1, h2, rfl, h4⟩
theorem pcs_le (n : Nat) (L : Nat → Nat) (h : ∀ p, p < n → L p < 16) : pcs n L ≤ 4 * n := by
  induction n with
  | zero => exact Nat.le_refl _
  | succ n ih =>
    have h1 := ih (fun p hp => h p (by omega))
    have h2 : pc4 (L n) ≤ 4 := by unfold pc4; omega
    rw [pcs]; omega
theorem l0_LB (E : Ev) : LB E (l0 E) := by
  intro p hp
  have : 0 < 2 ^ eC E p := Nat.two_pow_pos _
  rw [l0]; omega
/-- the whole of striking, by the reference -/
theorem X11_strikeAll {M R : Ob} {s n : Nat} {wd : Nat → Nat} (hl : WLex M) (hs : s < 4) (hn : n ≤ 6) (e9 : M 9 s = iN n) (hw : ∀ p, p < n → wd p < nn (M 0 0) ∧ M 10 (6 * s + p) = iN (wd p)) (hR : RSt M R) :
    wp (f_X11_strikeAll M (iN s)) (fun y => (∀ k, k ≠ 11 → y k = M k) ∧ (∀ p, p < n → y 11 (6 * s + p) = iN (stk R (evW M n wd) p)) ∧ LB (evW M n wd) (stk R (evW M n wd)) ∧ ∀ i, (i < 6 * s ∨ 6 * s + n ≤ i) → y 11 i = M 11 i) := by
  rw [f_X11_strikeAll]
  simp only [wp_some, wp_grd, wp_lb, wp_ite, wp_b1, wp_b2, wp_b3, wp_b4, wp_b5]
  have key : wp (f_X11_strikeAll_L2 200 M (iN s) (iN 0)) (fun r => (∀ k, k ≠ 11 → r.2 k = M k) ∧ (∀ p, p < n → r.2 11 (6 * s + p) = iN (l0 (evW M n wd) p)) ∧ ∀ i, (i < 6 * s ∨ 6 * s + n ≤ i) → r.2 11 i = M 11 i) := by
    refine lp_up (F := fun f (y : Ob) i => f_X11_strikeAll_L2 f y (iN s) i) (V := fun q y => (∀ k, k ≠ 11 → y k = M k) ∧ (∀ p, p < q → y 11 (6 * s + p) = iN (l0 (evW M n wd) p)) ∧ ∀ i, (i < 6 * s ∨ 6 * s + n ≤ i) → y 11 i = M 11 i) (hi := n) ?_ 200 0 M (by omega) (by omega) ⟨fun _ _ => rfl, fun j hj => absurd hj (Nat.not_lt_zero j), fun _ _ => rfl⟩
    intro f y i hi hv hk
    have y9 : y 9 s = iN n := by rw [hv.1 9 (by decide)]; exact e9
    by_cases he : i = n
    · subst he
      simp (disch := omega) only [f_X11_strikeAll_L2, y9, ↓nM_lit, iN_lit, iN_add, iN_mul, iN_lt, iN_le, iN_eq, iN_c, gd_iN, iN_nM, nM_iN, iN_ltM, nM_lt, nM_le, iN_leM, iN_0M, nM_p1, iN_0s1, decide_true, decide_eq_true_eq, Nat.not_lt_zero, if_true, if_false, wp_some, wp_grd, wp_lb, wp_ite, wp_b1, wp_b2, wp_b3, wp_b4, wp_b5, Nat.le_refl, hs, true_and]
      exact hv
    · have hi' : i < n := by omega
      have hw40 := Nat.lt_of_lt_of_le (hw i hi').1 (WLex_nw hl)
      have y10 : y 10 (6 * s + i) = iN (wd i) := by rw [hv.1 10 (by decide)]; exact (hw i hi').2
      have yl := WLex_cg (fun k hk => hv.1 k (by omega)) hl
      have hc := X11_count yl hw40
      rw [cnM_cg (fun k hk => hv.1 k (by omega))] at hc
      have h4 := cnM_le hl hw40
      simp (disch := omega) only [f_X11_strikeAll_L2, y9, y10, hc, show ¬ (n ≤ i) by omega, hs, show 6 * s + i < 24 by omega, ↓nM_lit, iN_lit, iN_add, iN_mul, iN_lt, iN_le, iN_eq, iN_c, gd_iN, iN_nM, nM_iN, iN_ltM, nM_lt, nM_le, iN_leM, iN_0M, nM_p1, iN_0s1, decide_true, decide_eq_true_eq, Nat.not_lt_zero, if_true, if_false, wp_some, wp_grd, wp_lb, wp_ite, wp_b1, wp_b2, wp_b3, wp_b4, wp_b5, eq_grd, eq_lb, eq_b1, eq_b2, eq_b3, eq_b4, eq_b5, true_and, bit_full h4]
      refine hk _ hi' ⟨?_, ?_, ?_⟩
      · intro k h1; rw [upo_ne h1]; exact hv.1 k h1
      · intro p hp
        by_cases e : p = i
        · subst e; rw [upo_ap, if_pos ⟨rfl, rfl⟩, l0, evW_C hi']
        · rw [upo_ap, if_neg (by omega)]; exact hv.2.1 p (by omega)
      · intro j hj; rw [upo_ap, if_neg (by omega)]; exact hv.2.2 j hj
  refine wp_mono key ?_
  intro r hr
  obtain ⟨f1, f2, f3⟩ := hr
  have hRM : RM M r.2 s n wd (l0 (evW M n wd)) := ⟨hl, hs, hn, e9, hw, fun k h1 _ _ _ => f1 k h1, f2⟩
  have hE := RM_E hRM
  have hp : pcs n (l0 (evW M n wd)) < 25 := by
    have := pcs_le n (l0 (evW M n wd)) (fun p hp => LB16 hE (l0_LB _) (by rw [evW_L]; exact hp))
    omega
  refine wp_mono (X11_rounds hR 25 200 (l0 (evW M n wd)) r.2 hp (by omega) ⟨hRM, l0_LB _, rfl, f3, f1⟩) ?_
  intro q hq
  exact ⟨hq.2.2.2.2, hq.1.2.2.2.2.2.2, hq.2.1, hq.2.2.2.1⟩
