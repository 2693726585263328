theorem abF_ne {G : Ob} {s : Nat} {s' : Nat} (h : s' ≠ s) (gs : List Nat) : ∀ ch : Ch, abF G s gs ch s' = ch s' := by
  unfold abF
  induction gs with
  | nil => intro ch; rfl
  | cons g gs ih => intro ch; rw [List.foldl_cons, ih, uls_ne h]
theorem cutF_ne {G : Ob} {b m k : Nat} {s' : Nat} (h : s' ≠ 6 * b + m - 1) (ch : Ch) : cutF G b m k ch s' = ch s' := by
  induction k with
  | zero => rfl
  | succ k ih => rw [cutF, rlF_ne h, ih]
theorem wdF_ne {G : Ob} {E : Ev} {L gv : Nat → Nat} {p k : Nat} {s' : Nat} (h : s' ≠ 6 * p) (ch : Ch) : wdF G E L gv p k ch s' = ch s' := by
  induction k with
  | zero => rfl
  | succ k ih =>
    rw [wdF]
    split
    · rw [addE_ne h, ih]
    · exact ih
theorem celF_ne {G : Ob} {E : Ev} {L gv : Nat → Nat} {m b : Nat} {s' : Nat} (h : s' ≠ 6 * b + m - 1) (ch : Ch) : celF G E L gv m b ch s' = ch s' := by
  rw [celF, abF_ne h]
  split
  · rename_i hm; subst hm; exact wdF_ne (by omega) ch
  · exact cutF_ne h ch
def GI (G : Ob) (ch : Ch) (m b : Nat) : Prop := (∀ s, ∀ t, t ∈ ch s → WT G t ∧ sp t = s ∧ tB t + tW t ≤ 6) ∧ (∀ s, (ch s).length ≤ 8) ∧ (∀ s, m ≤ s % 6 → ch s = []) ∧ ∀ b', b ≤ b' → b' + m ≤ 6 → ch (6 * b' + m - 1) = []
theorem GI_Iv {G : Ob} {ch : Ch} {m b : Nat} (hm : 1 ≤ m) (hb : b + m ≤ 6) (h : GI G ch m b) : Iv G ch b m 0 := by
  obtain ⟨h1, h2, h3, h4⟩ := h
  refine ⟨hm, hb, h1, h3, h2, ?_⟩
  intro t ht
  rw [h4 b (Nat.le_refl b) hb] at ht
  exact absurd ht List.not_mem_nil
theorem Iv_GI {G : Ob} {E : Ev} {L gv : Nat → Nat} {ch : Ch} {m b P : Nat} (h : GI G ch m b) (hI : Iv G (celF G E L gv m b ch) b m P) : GI G (celF G E L gv m b ch) m (b + 1) := by
  obtain ⟨h1, h2, h3, h4, h5, h6⟩ := hI
  refine ⟨h3, h5, h4, ?_⟩
  intro b' hb hm
  rw [celF_ne (by omega)]
  exact h.2.2.2 b' (by omega) hm
theorem GI_next {G : Ob} {ch : Ch} {m b : Nat} (h : GI G ch m b) : GI G ch (m + 1) 0 := by
  obtain ⟨h1, h2, h3, h4⟩ := h
  refine ⟨h1, h2, fun s hs => h3 s (by omega), ?_⟩
  intro b' _ hb
  exact h3 _ (by omega)
theorem GI_0 (G : Ob) : GI G (fun _ => []) 1 0 := ⟨fun s t h => absurd h List.not_mem_nil, fun _ => Nat.zero_le _, fun _ _ => rfl, fun _ _ _ => rfl⟩
/-- the state between cells -/
def SG (x2 : Ob) (n0 : Int32) (G : Ob) (ch : Ch) (m b : Nat) (y2 y0 : Ob) : Prop := (∀ k, k ≠ 12 → k ≠ 13 → k ≠ 14 → y2 k = x2 k) ∧ RCh y0 G ch ∧ GI G ch m b ∧ y0 0 0 = n0
theorem X4_J61 {x2 G q2 : Ob} {n0 : Int32} {ch : Ch} {b m : Nat} {y2 y0 : Ob} (hG : WGr G) (hx : QX2 x2 G) (hs : RSg x2 G) (hS : SX x2 n0 G ch b m 0 y2 y0) :
    wp (f_X4_read_J61 y2 q2 y0 (iN m) (iN b) (iN (6 * b + m - 1))) (fun q => q.1 = 0 ∧ q.2.1 = iN (b + 1) ∧ ∃ P, SX x2 n0 G (abF G (6 * b + m - 1) (sing G) (cutF G b m (m - 1) ch)) b m P q.2.2.1 q.2.2.2) := by
  rw [f_X4_read_J61]
  simp only [wp_some, wp_grd, wp_lb, wp_ite, wp_b1, wp_b2, wp_b3, wp_b4, wp_b5]
  refine wp_mono (X4_cuts (q2 := q2) hG hx hS) ?_
  rintro ⟨a1, a2, a3⟩ ha
  refine wp_mono (X4_above q2 (iN m) (iN b) hG hx hs ha) ?_
  rintro ⟨c1, c2, c3⟩ hc
  exact ⟨trivial, by show iN b + iN 1 = _; rw [iN_add], hc⟩
theorem X4_cells {x2 G x6 : Ob} {n0 : Int32} {E : Ev} {L gv : Nat → Nat} (hG : WGr G) (hx : QX2 x2 G) (hs : RSg x2 G) (h6 : RG6 x6 E L gv) {ch : Ch} {m : Nat} (hm : 1 ≤ m) (hmn : m ≤ eL E) {y2 y0 : Ob} (hS : SG x2 n0 G ch m 0 y2 y0) :
    wp (f_X4_read_L28 200 y2 x6 y0 (iN m) (iN 0)) (fun q => SG x2 n0 G (froF G E L gv m (eL E + 1 - m) ch) m (eL E + 1 - m) q.2.1 q.2.2) := by
  have hE6 := h6.2.1.1
  refine lp_up (F := fun n (y : Ob × Ob) j => f_X4_read_L28 n y.1 x6 y.2 (iN m) j) (V := fun b y => SG x2 n0 G (froF G E L gv m b ch) m b y.1 y.2) (hi := eL E + 1 - m) ?_ 200 0 (y2, y0) (by omega) (by omega) hS
  rintro n ⟨z2, z0⟩ b hb hv hk
  simp only at hv hk ⊢
  by_cases he : b = eL E + 1 - m
  · rw [he] at hv ⊢
    simp (disch := omega) only [f_X4_read_L28, h6.1.1, ↓nM_lit, iN_lit, iN_add, iN_mul, iN_lt, iN_le, iN_eq, iN_c, gd_iN, iN_nM, nM_iN, iN_ltM, nM_lt, nM_le, iN_leM, iN_0M, nM_p1, iN_0s1, decide_true, decide_eq_true_eq, Nat.not_lt_zero, if_true, if_false, wp_some, wp_grd, wp_lb, wp_ite, wp_b1, wp_b2, wp_b3, wp_b4, wp_b5, show eL E < eL E + 1 - m + m by omega]
    exact hv
  · obtain ⟨v1, v2, v3, v4⟩ := hv
    have hI := GI_Iv hm (show b + m ≤ 6 by omega) v3
    simp (disch := omega) only [f_X4_read_L28, h6.1.1, ↓nM_lit, iN_lit, iN_add, iN_mul, iN_lt, iN_le, iN_eq, iN_c, gd_iN, iN_nM, nM_iN, iN_ltM, nM_lt, nM_le, iN_leM, iN_0M, nM_p1, iN_0s1, decide_true, decide_eq_true_eq, Nat.not_lt_zero, if_true, if_false, wp_some, wp_grd, wp_lb, wp_ite, wp_b1, wp_b2, wp_b3, wp_b4, wp_b5, eq_grd, eq_lb, eq_b1, eq_b2, eq_b3, eq_b4, eq_b5, show ¬ (eL E < b + m) by omega, spanN hm]
    have fin : ∀ (chw : Ch) (w : Ob), SX x2 n0 G chw b m 0 z2 w → celF G E L gv m b (froF G E L gv m b ch) = abF G (6 * b + m - 1) (sing G) (cutF G b m (m - 1) chw) → wp (f_X4_read_J61 z2 x6 w (iN m) (iN b) (iN (6 * b + m - 1))) (fun a => if a.1 = 0 then wp (f_X4_read_L28 n a.2.2.1 x6 a.2.2.2 (iN m) a.2.1) (fun q => SG x2 n0 G (froF G E L gv m (eL E + 1 - m) ch) m (eL E + 1 - m) q.2.1 q.2.2) else SG x2 n0 G (froF G E L gv m (eL E + 1 - m) ch) m (eL E + 1 - m) a.2.2.1 a.2.2.2) := by
      intro chw w hw hcel
      refine wp_mono (X4_J61 (q2 := x6) hG hx hs hw) ?_
      rintro ⟨q1, q2, q3, q4⟩ ⟨e1, e2, P, e3⟩
      simp only at e1 e2 e3 ⊢
      rw [if_pos e1, e2]
      rw [← hcel] at e3
      refine hk (q3, q4) (by omega) ⟨e3.1, e3.2.1, ?_, e3.2.2.2⟩
      rw [froF]
      exact Iv_GI v3 e3.2.2.1
    by_cases hm1 : m = 1
    · subst hm1
      rw [if_pos rfl]
      refine wp_mono (X4_word hG h6 (show b < eL E by omega) (y := z0) ⟨v2, hI, v4⟩) ?_
      intro w hw
      exact fin _ w ⟨v1, hw.1, hw.2.1, hw.2.2⟩ (by rw [celF, if_pos rfl]; rfl)
    · rw [if_neg hm1]
      exact fin _ z0 ⟨v1, v2, hI, v4⟩ (by rw [celF, if_neg hm1])
theorem X0_clear {x : Ob} (n : Int32) (G : Ob) : wp (f_X0_clear x n) (fun y => RCh y G (fun _ => []) ∧ y 0 0 = n) := by
  rw [f_X0_clear]
  simp only [wp_some, wp_grd, wp_lb, wp_ite, wp_b1, wp_b2, wp_b3, wp_b4, wp_b5]
  refine wp_mono (P := fun r => (∀ s, s < 36 → r.2 1 s = iN 0) ∧ r.2 0 0 = n) ?_ ?_
  · refine lp_up (F := fun f (y : Ob) i => f_X0_clear_L7 f y i) (V := fun i y => (∀ s, s < i → y 1 s = iN 0) ∧ y 0 0 = n) (hi := 36) ?_ 200 0 (upo x 0 0 n) (by omega) (by omega) ⟨fun s hs => absurd hs (Nat.not_lt_zero s), by rw [upo_ap, if_pos ⟨rfl, rfl⟩]⟩
    intro f y i hi hv hk
    by_cases he : i = 36
    · subst he
      simp (disch := omega) only [f_X0_clear_L7, ↓nM_lit, iN_lit, iN_add, iN_mul, iN_lt, iN_le, iN_eq, iN_c, gd_iN, iN_nM, nM_iN, iN_ltM, nM_lt, nM_le, iN_leM, iN_0M, nM_p1, iN_0s1, decide_true, decide_eq_true_eq, Nat.not_lt_zero, if_true, if_false, wp_some, wp_grd, wp_lb, wp_ite, wp_b1, wp_b2, wp_b3, wp_b4, wp_b5, Nat.le_refl]
      exact hv
    · simp (disch := omega) only [f_X0_clear_L7, ↓nM_lit, iN_lit, iN_add, iN_mul, iN_lt, iN_le, iN_eq, iN_c, gd_iN, iN_nM, nM_iN, iN_ltM, nM_lt, nM_le, iN_leM, iN_0M, nM_p1, iN_0s1, decide_true, decide_eq_true_eq, Nat.not_lt_zero, if_true, if_false, wp_some, wp_grd, wp_lb, wp_ite, wp_b1, wp_b2, wp_b3, wp_b4, wp_b5, show ¬ (36 ≤ i) by omega, show i < 36 by omega, true_and]
      refine hk _ (by omega) ⟨?_, ?_⟩
      · intro s hs
        rw [upo_ap]
        by_cases e : s = i
        · subst e; rw [if_pos ⟨rfl, rfl⟩]
        · rw [if_neg (by omega)]; exact hv.1 s (by omega)
      · rw [upo_ap, if_neg (by omega)]; exact hv.2
  · intro r hr
    exact ⟨fun s hs => ⟨hr.1 s hs, fun i hi => absurd hi (Nat.not_lt_zero i)⟩, hr.2⟩
/-- a chart that stands -/
def WCh (G : Ob) (ch : Ch) : Prop := (∀ s, ∀ t, t ∈ ch s → WT G t ∧ sp t = s ∧ tB t + tW t ≤ 6) ∧ ∀ s, (ch s).length ≤ 8
theorem X4_read {x2 G x6 x0 : Ob} {E : Ev} {L gv : Nat → Nat} (hG : WGr G) (hx : QX2 x2 G) (hs : RSg x2 G) (h6 : RG6 x6 E L gv) :
    wp (f_X4_read x2 x6 x0) (fun r => (∀ k, k ≠ 12 → k ≠ 13 → k ≠ 14 → r.1 k = x2 k) ∧ r.2.1 = upo x6 8 0 (iN 0) ∧ RCh r.2.2 G (cht G E L gv) ∧ WCh G (cht G E L gv) ∧ r.2.2 0 0 = iN (eL E)) := by
  have hE6 := h6.2.1.1
  rw [f_X4_read]
  simp only [wp_some, wp_grd, wp_lb, wp_ite, wp_b1, wp_b2, wp_b3, wp_b4, wp_b5, h6.1.1]
  refine wp_mono (X0_clear (iN (eL E)) G) ?_
  intro y hy
  refine wp_mono (P := fun r => SG x2 (iN (eL E)) G (manF G E L gv (eL E) (fun _ => [])) (eL E + 1) 0 r.2.1 r.2.2) ?_ ?_
  · refine lp_up (F := fun n (y : Ob × Ob) j => f_X4_read_L16 n y.1 x6 y.2 j) (V := fun m y => 1 ≤ m ∧ SG x2 (iN (eL E)) G (manF G E L gv (m - 1) (fun _ => [])) m 0 y.1 y.2) (hi := eL E + 1) ?_ 200 1 (x2, y) (by omega) (by omega) ⟨Nat.le_refl _, fun _ _ _ _ => rfl, hy.1, GI_0 G, hy.2⟩
    rintro n ⟨z2, z0⟩ m hm ⟨hm1, hv⟩ hk
    simp only at hv hk ⊢
    by_cases he : m = eL E + 1
    · subst he
      simp (disch := omega) only [f_X4_read_L16, h6.1.1, ↓nM_lit, iN_lit, iN_add, iN_mul, iN_lt, iN_le, iN_eq, iN_c, gd_iN, iN_nM, nM_iN, iN_ltM, nM_lt, nM_le, iN_leM, iN_0M, nM_p1, iN_0s1, decide_true, decide_eq_true_eq, Nat.not_lt_zero, if_true, if_false, wp_some, wp_grd, wp_lb, wp_ite, wp_b1, wp_b2, wp_b3, wp_b4, wp_b5, show eL E < eL E + 1 by omega]
      exact hv
    · simp (disch := omega) only [f_X4_read_L16, h6.1.1, ↓nM_lit, iN_lit, iN_add, iN_mul, iN_lt, iN_le, iN_eq, iN_c, gd_iN, iN_nM, nM_iN, iN_ltM, nM_lt, nM_le, iN_leM, iN_0M, nM_p1, iN_0s1, decide_true, decide_eq_true_eq, Nat.not_lt_zero, if_true, if_false, wp_some, wp_grd, wp_lb, wp_ite, wp_b1, wp_b2, wp_b3, wp_b4, wp_b5, show ¬ (eL E < m) by omega]
      refine wp_mono (X4_cells hG hx hs h6 hm1 (by omega) hv) ?_
      rintro ⟨q0, q1, q3⟩ hq
      refine hk (q1, q3) (by omega) ⟨by omega, hq.1, ?_, ?_, hq.2.2.2⟩
      · obtain ⟨m', rfl⟩ : ∃ m', m = m' + 1 := ⟨m - 1, by omega⟩
        rw [show m' + 1 + 1 - 1 = m' + 1 by omega, manF, show eL E - m' = eL E + 1 - (m' + 1) by omega]
        exact hq.2.1
      · obtain ⟨m', rfl⟩ : ∃ m', m = m' + 1 := ⟨m - 1, by omega⟩
        rw [show m' + 1 + 1 - 1 = m' + 1 by omega, manF, show eL E - m' = eL E + 1 - (m' + 1) by omega]
        exact GI_next hq.2.2.1
  · rintro ⟨r0, r1, r2⟩ ⟨a1, a2, a3, a4⟩
    exact ⟨a1, rfl, a2, ⟨a3.1, a3.2.1⟩, a4⟩
