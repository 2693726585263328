/-! The reference's chart, whole. -/
def cw (m : Nat) : Nat := 1024 * (m - 1) + 132
def bd : Nat → Nat
  | 0 => 0
  | m + 1 => bd m + (7 - m) * cw m
theorem bd_le (m : Nat) (h : m ≤ 7) : bd m ≤ 39536 := by
  have : ∀ m, m < 8 → bd m ≤ 39536 := by decide
  exact this m (by omega)
theorem cw_le (m : Nat) (h : m ≤ 6) : cw m ≤ 5252 := by unfold cw; omega
/-- between cells -/
def SN (M1 G : Ob) (ch : Ch) (m b n : Nat) (y : Ob) : Prop := (∀ k, (k < 31 ∨ 42 < k) → y k = M1 k) ∧ MCh y G ch n ∧ GI G ch m b
theorem X11_cell {M0 M1 G : Ob} {s : Nat} {L gv : Nat → Nat} {ch : Ch} {b m n : Nat} {y0 : Ob} (hG : WGr G) (hM : ∀ k, 21 ≤ k → k ≤ 30 → M1 k = G k) (hW : MW M0 M1 s L gv) (hm : 1 ≤ m) (hb : b + m ≤ evn M0 s) (hS : SN M1 G ch m b n y0) (hn : n + 1024 * (m - 1) + 276 < 40000) :
    wp (if m = 1 then bnd1 (f_X11_readWord y0 (iN s) (iN b)) (fun x => f_X11_readAbove x (iN (6 * b + m - 1))) else bnd1 (f_X11_readLonger y0 (iN b) (iN m)) (fun x => f_X11_readAbove x (iN (6 * b + m - 1)))) (fun z => ∃ n', n ≤ n' ∧ n' ≤ n + cw m ∧ SN M1 G (celF G (evS M0 s) L gv m b ch) m (b + 1) n' z) := by
  have hE := evS_B hW.2.1 hW.2.2.1 hW.1
  have h6 : evn M0 s ≤ 6 := hE.1
  have hI := GI_Iv hm (show b + m ≤ 6 by omega) hS.2.2
  have fin : ∀ (x : Ob) (chw : Ch) (n1 : Nat), n ≤ n1 → n1 ≤ n + 1024 * (m - 1) + 4 → SMx M1 G chw b m 0 n1 x → celF G (evS M0 s) L gv m b ch = abF G (6 * b + m - 1) (sing G) chw → wp (f_X11_readAbove x (iN (6 * b + m - 1))) (fun z => ∃ n', n ≤ n' ∧ n' ≤ n + cw m ∧ SN M1 G (celF G (evS M0 s) L gv m b ch) m (b + 1) n' z) := by
    intro x chw n1 h1 h2 hx hcel
    refine wp_mono (X11_above hG hM hx (by omega)) ?_
    rintro z ⟨n', P, a1, a2, a3⟩
    rw [← hcel] at a3
    exact ⟨n', by omega, by unfold cw; omega, a3.1, a3.2.1, Iv_GI hS.2.2 a3.2.2⟩
  by_cases h1 : m = 1
  · subst h1
    rw [if_pos rfl]
    simp only [wp_some, wp_grd, wp_lb, wp_ite, wp_b1, wp_b2, wp_b3, wp_b4, wp_b5]
    refine wp_mono (X11_word hG hW (show b < evn M0 s by omega) ⟨hS.1, hS.2.1, hI⟩ (by omega)) ?_
    rintro x ⟨n1, a1, a2, a3⟩
    exact fin x _ n1 a1 (by omega) a3 (by rw [celF, if_pos rfl])
  · rw [if_neg h1]
    simp only [wp_some, wp_grd, wp_lb, wp_ite, wp_b1, wp_b2, wp_b3, wp_b4, wp_b5]
    refine wp_mono (X11_longer hG hM ⟨hS.1, hS.2.1, hI⟩ (by omega)) ?_
    rintro x ⟨n1, a1, a2, a3⟩
    exact fin x _ n1 a1 (by omega) a3 (by rw [celF, if_neg h1])
theorem X11_row {M0 M1 G : Ob} {s : Nat} {L gv : Nat → Nat} {ch : Ch} {m n : Nat} {y0 : Ob} (hG : WGr G) (hM : ∀ k, 21 ≤ k → k ≤ 30 → M1 k = G k) (hW : MW M0 M1 s L gv) (hm : 1 ≤ m) (hmn : m ≤ evn M0 s) (hS : SN M1 G ch m 0 n y0) (hn : n ≤ bd m) :
    wp (f_X11_chart_L45 200 y0 (iN s) (iN m) (iN 0)) (fun q => ∃ n', n' ≤ bd (m + 1) ∧ SN M1 G (froF G (evS M0 s) L gv m (evn M0 s + 1 - m) ch) m (evn M0 s + 1 - m) n' q.2) := by
  have hs := hW.1
  have hE := evS_B hW.2.1 hW.2.2.1 hW.1
  have h6 : evn M0 s ≤ 6 := hE.1
  have hbd := bd_le (m + 1) (by omega)
  have hbe : bd (m + 1) = bd m + (7 - m) * cw m := rfl
  have h9 : M1 9 s = iN (evn M0 s) := by rw [hW.2.2.2.2.1 9 (by decide)]; exact (WTxt_at hW.2.2.1 hs).2.1
  refine lp_up (F := fun f (y : Ob) j => f_X11_chart_L45 f y (iN s) (iN m) j) (V := fun b y => ∃ n', n' ≤ bd m + b * cw m ∧ SN M1 G (froF G (evS M0 s) L gv m b ch) m b n' y) (hi := evn M0 s + 1 - m) ?_ 200 0 y0 (by omega) (by omega) ⟨n, by omega, hS⟩
  rintro f y b hb ⟨n', hn1, hv⟩ hk
  have e9 : y 9 s = iN (evn M0 s) := by rw [hv.1 9 (by omega)]; exact h9
  have hle : b * cw m ≤ (7 - m) * cw m := Nat.mul_le_mul_right _ (by omega)
  by_cases he : b = evn M0 s + 1 - m
  · subst he
    simp (disch := omega) only [f_X11_chart_L45, ↓nM_lit, iN_lit, iN_add, iN_mul, iN_lt, iN_le, iN_eq, iN_c, gd_iN, iN_nM, nM_iN, iN_ltM, nM_lt, nM_le, iN_leM, iN_0M, nM_p1, iN_0s1, decide_true, decide_eq_true_eq, Nat.not_lt_zero, if_true, if_false, wp_some, wp_grd, wp_lb, wp_ite, wp_b1, wp_b2, wp_b3, wp_b4, wp_b5, eq_grd, eq_lb, eq_b1, eq_b2, eq_b3, eq_b4, eq_b5, hs, e9, show evn M0 s < evn M0 s + 1 - m + m by omega, true_and]
    exact ⟨n', by omega, hv⟩
  · have hle2 : (b + 1) * cw m ≤ (7 - m) * cw m := Nat.mul_le_mul_right _ (by omega)
    have hsu : (b + 1) * cw m = b * cw m + cw m := Nat.succ_mul b (cw m)
    have hcell := X11_cell (y0 := y) hG hM hW hm (show b + m ≤ evn M0 s by omega) hv (by unfold cw at hle2 hsu hn1 hbe; omega)
    have hcont : ∀ z, (∃ n2, n' ≤ n2 ∧ n2 ≤ n' + cw m ∧ SN M1 G (celF G (evS M0 s) L gv m b (froF G (evS M0 s) L gv m b ch)) m (b + 1) n2 z) → wp (f_X11_chart_L45 f z (iN s) (iN m) (iN (b + 1))) (fun q => ∃ n', n' ≤ bd (m + 1) ∧ SN M1 G (froF G (evS M0 s) L gv m (evn M0 s + 1 - m) ch) m (evn M0 s + 1 - m) n' q.2) := by
      rintro z ⟨n2, a1, a2, a3⟩
      refine hk z (by omega) ⟨n2, by rw [hsu]; omega, ?_⟩
      rw [froF]; exact a3
    by_cases h1 : m = 1
    · subst h1
      rw [if_pos rfl] at hcell
      simp (disch := omega) only [f_X11_chart_L45, ↓nM_lit, iN_lit, iN_add, iN_mul, iN_lt, iN_le, iN_eq, iN_c, gd_iN, iN_nM, nM_iN, iN_ltM, nM_lt, nM_le, iN_leM, iN_0M, nM_p1, iN_0s1, decide_true, decide_eq_true_eq, Nat.not_lt_zero, if_true, if_false, wp_some, wp_grd, wp_lb, wp_ite, wp_b1, wp_b2, wp_b3, wp_b4, wp_b5, eq_grd, eq_lb, eq_b1, eq_b2, eq_b3, eq_b4, eq_b5, hs, e9, show ¬ (evn M0 s < b + 1) by omega, if_false, iN_s1 (show 0 < 6 * b + 1 by omega), true_and] at hcell ⊢
      refine wp_mono hcell ?_
      intro x hx
      refine wp_mono hx ?_
      intro z hz
      exact hcont z hz
    · rw [if_neg h1] at hcell
      simp (disch := omega) only [f_X11_chart_L45, ↓nM_lit, iN_lit, iN_add, iN_mul, iN_lt, iN_le, iN_eq, iN_c, gd_iN, iN_nM, nM_iN, iN_ltM, nM_lt, nM_le, iN_leM, iN_0M, nM_p1, iN_0s1, decide_true, decide_eq_true_eq, Nat.not_lt_zero, if_true, if_false, wp_some, wp_grd, wp_lb, wp_ite, wp_b1, wp_b2, wp_b3, wp_b4, wp_b5, eq_grd, eq_lb, eq_b1, eq_b2, eq_b3, eq_b4, eq_b5, hs, e9, show ¬ (evn M0 s < b + m) by omega, h1, if_false, iN_s1 (show 0 < 6 * b + m by omega), true_and] at hcell ⊢
      refine wp_mono hcell ?_
      intro x hx
      refine wp_mono hx ?_
      intro z hz
      exact hcont z hz
theorem X11_mans {M0 M1 G : Ob} {s : Nat} {L gv : Nat → Nat} {y0 : Ob} (hG : WGr G) (hM : ∀ k, 21 ≤ k → k ≤ 30 → M1 k = G k) (hW : MW M0 M1 s L gv) (hS : SN M1 G (fun _ => []) 1 0 0 y0) :
    wp (f_X11_chart_L33 200 y0 (iN s) (iN 1)) (fun q => ∃ n', n' < 40000 ∧ (∀ k, (k < 31 ∨ 42 < k) → q.2 k = M1 k) ∧ MCh q.2 G (cht G (evS M0 s) L gv) n' ∧ WCh G (cht G (evS M0 s) L gv)) := by
  have hs := hW.1
  have hE := evS_B hW.2.1 hW.2.2.1 hW.1
  have h6 : evn M0 s ≤ 6 := hE.1
  have h9 : M1 9 s = iN (evn M0 s) := by rw [hW.2.2.2.2.1 9 (by decide)]; exact (WTxt_at hW.2.2.1 hs).2.1
  refine lp_up (F := fun f (y : Ob) j => f_X11_chart_L33 f y (iN s) j) (V := fun m y => 1 ≤ m ∧ ∃ n', n' ≤ bd m ∧ SN M1 G (manF G (evS M0 s) L gv (m - 1) (fun _ => [])) m 0 n' y) (hi := evn M0 s + 1) ?_ 200 1 y0 (by omega) (by omega) ⟨Nat.le_refl _, 0, Nat.zero_le _, hS⟩
  rintro f y m hm ⟨hm1, n', hn1, hv⟩ hk
  have e9 : y 9 s = iN (evn M0 s) := by rw [hv.1 9 (by omega)]; exact h9
  by_cases he : m = evn M0 s + 1
  · subst he
    have hbd := bd_le (evn M0 s + 1) (by omega)
    simp (disch := omega) only [f_X11_chart_L33, ↓nM_lit, iN_lit, iN_add, iN_mul, iN_lt, iN_le, iN_eq, iN_c, gd_iN, iN_nM, nM_iN, iN_ltM, nM_lt, nM_le, iN_leM, iN_0M, nM_p1, iN_0s1, decide_true, decide_eq_true_eq, Nat.not_lt_zero, if_true, if_false, wp_some, wp_grd, wp_lb, wp_ite, wp_b1, wp_b2, wp_b3, wp_b4, wp_b5, eq_grd, eq_lb, eq_b1, eq_b2, eq_b3, eq_b4, eq_b5, hs, e9, show evn M0 s < evn M0 s + 1 by omega, true_and]
    exact ⟨n', by omega, hv.1, hv.2.1, hv.2.2.1, hv.2.2.2.1⟩
  · simp (disch := omega) only [f_X11_chart_L33, ↓nM_lit, iN_lit, iN_add, iN_mul, iN_lt, iN_le, iN_eq, iN_c, gd_iN, iN_nM, nM_iN, iN_ltM, nM_lt, nM_le, iN_leM, iN_0M, nM_p1, iN_0s1, decide_true, decide_eq_true_eq, Nat.not_lt_zero, if_true, if_false, wp_some, wp_grd, wp_lb, wp_ite, wp_b1, wp_b2, wp_b3, wp_b4, wp_b5, eq_grd, eq_lb, eq_b1, eq_b2, eq_b3, eq_b4, eq_b5, hs, e9, show ¬ (evn M0 s < m) by omega, true_and]
    refine wp_mono (X11_row hG hM hW hm1 (by omega) hv hn1) ?_
    rintro ⟨q1, q2⟩ ⟨n2, a1, a2⟩
    refine hk q2 (by omega) ⟨by omega, n2, a1, a2.1, ?_, ?_⟩
    · obtain ⟨m', rfl⟩ : ∃ m', m = m' + 1 := ⟨m - 1, by omega⟩
      rw [show m' + 1 + 1 - 1 = m' + 1 by omega, manF, show eL (evS M0 s) - m' = evn M0 s + 1 - (m' + 1) by rw [evS_L]; omega]
      exact a2.2.1
    · obtain ⟨m', rfl⟩ : ∃ m', m = m' + 1 := ⟨m - 1, by omega⟩
      rw [show m' + 1 + 1 - 1 = m' + 1 by omega, manF, show eL (evS M0 s) - m' = evn M0 s + 1 - (m' + 1) by rw [evS_L]; omega]
      exact GI_next a2.2.2
def gvM (R M : Ob) (s p : Nat) : Nat := gO (rfM R M s p)
theorem gvM_e (R M : Ob) (s p : Nat) : gvM R M s p = gvO (evS M) (Lk R M) (evS M s) (Lk R M s) s p := by
  unfold gvM gO rfM gvO
  cases rfO (evS M) (Lk R M) (evS M s) (Lk R M s) s p <;> rfl
theorem gvM_lt (R M : Ob) (s p : Nat) : gvM R M s p < 16 := by rw [gvM_e]; exact gv_lt16
/-- the chart of a sentence as the reference has it -/
def chM (G R M : Ob) (s : Nat) : Ch := cht G (evS M s) (Lk R M s) (gvM R M s)
theorem X11_chart {M R G : Ob} {s : Nat} (hl : WLex M) (ht : WTxt M) (hR : RSt M R) (hG : WGr G) (hMG : ∀ k, 21 ≤ k → k ≤ 30 → M k = G k) (hs : s < 4) :
    wp (f_X11_chart M (iN s)) (fun y => (∀ k, (k < 11 ∨ (14 < k ∧ k < 31) ∨ 42 < k) → y k = M k) ∧ (∃ n, n < 40000 ∧ MCh y G (chM G R M s) n) ∧ WCh G (chM G R M s)) := by
  rw [f_X11_chart]
  simp only [wp_some, wp_grd, wp_lb, wp_ite, wp_b1, wp_b2, wp_b3, wp_b4, wp_b5]
  refine wp_mono (X11_look hl ht hR hs) ?_
  rintro y1 ⟨a1, a2, a3⟩
  have key : wp (f_X11_chart_L12 200 (upo y1 31 0 (iN 0)) (iN s) (iN 0)) (fun r => (∀ k, k ≠ 31 → k ≠ 39 → r.2 k = y1 k) ∧ r.2 31 0 = iN 0 ∧ ∀ t, t < 36 → r.2 39 t = iN 0) := by
    refine lp_up (F := fun f (y : Ob) i => f_X11_chart_L12 f y (iN s) i) (V := fun i y => (∀ k, k ≠ 31 → k ≠ 39 → y k = y1 k) ∧ y 31 0 = iN 0 ∧ ∀ t, t < i → y 39 t = iN 0) (hi := 36) ?_ 200 0 (upo y1 31 0 (iN 0)) (by omega) (by omega) ⟨fun k h1 h2 => by rw [upo_ne h1], by rw [upo_ap, if_pos ⟨rfl, rfl⟩], fun t h => absurd h (Nat.not_lt_zero t)⟩
    rintro f y i hi ⟨v1, v2, v3⟩ hk
    by_cases he : i = 36
    · subst he
      simp (disch := omega) only [f_X11_chart_L12, ↓nM_lit, iN_lit, iN_add, iN_mul, iN_lt, iN_le, iN_eq, iN_c, gd_iN, iN_nM, nM_iN, iN_ltM, nM_lt, nM_le, iN_leM, iN_0M, nM_p1, iN_0s1, decide_true, decide_eq_true_eq, Nat.not_lt_zero, if_true, if_false, wp_some, wp_grd, wp_lb, wp_ite, wp_b1, wp_b2, wp_b3, wp_b4, wp_b5, Nat.le_refl]
      exact ⟨v1, v2, v3⟩
    · simp (disch := omega) only [f_X11_chart_L12, ↓nM_lit, iN_lit, iN_add, iN_mul, iN_lt, iN_le, iN_eq, iN_c, gd_iN, iN_nM, nM_iN, iN_ltM, nM_lt, nM_le, iN_leM, iN_0M, nM_p1, iN_0s1, decide_true, decide_eq_true_eq, Nat.not_lt_zero, if_true, if_false, wp_some, wp_grd, wp_lb, wp_ite, wp_b1, wp_b2, wp_b3, wp_b4, wp_b5, show ¬ (36 ≤ i) by omega, show i < 36 by omega, true_and]
      refine hk _ (by omega) ⟨fun k h1 h2 => by rw [upo_ne h2]; exact v1 k h1 h2, by rw [upo_ne (by decide)]; exact v2, ?_⟩
      intro t ht
      rw [upo_ap]
      by_cases e : t = i
      · subst e; rw [if_pos ⟨rfl, rfl⟩]
      · rw [if_neg (fun h => e h.2)]; exact v3 t (by omega)
  have e0 : (0 : Int32) = iN 0 := rfl
  have e1 : (1 : Int32) = iN 1 := rfl
  rw [e0, e1]
  refine wp_mono key ?_
  rintro ⟨z1, z2⟩ ⟨b1, b2, b3⟩
  simp only at b1 b2 b3 ⊢
  have hW : MW M z2 s (Lk R M s) (gvM R M s) := by
    refine ⟨hs, hl, ht, (a2 s (Nat.le_refl s)).2, fun k hk => by rw [b1 k (by omega) (by omega)]; exact a1 k (by omega) (by omega) (by omega) (by omega), ?_⟩
    intro p hp
    obtain ⟨c1, c2, c3⟩ := a3 p hp
    have c0 := (a2 s (Nat.le_refl s)).1.2.2.2.2.2.2 p hp
    rw [b1 11 (by decide) (by decide), b1 13 (by decide) (by decide), b1 14 (by decide) (by decide)]
    exact ⟨c0, c2, c3, gvM_lt R M s p⟩
  have hM2 : ∀ k, 21 ≤ k → k ≤ 30 → z2 k = G k := fun k h1 h2 => by rw [b1 k (by omega) (by omega), a1 k (by omega) (by omega) (by omega) (by omega)]; exact hMG k h1 h2
  refine wp_mono (X11_mans hG hM2 hW ⟨fun _ _ => rfl, ⟨b2, fun t ht => ⟨b3 t ht, fun i hi => absurd hi (Nat.not_lt_zero i)⟩⟩, GI_0 G⟩) ?_
  rintro ⟨q1, q2⟩ ⟨n, d1, d2, d3, d4⟩
  simp only at d2
  refine ⟨?_, ⟨n, d1, d3⟩, d4⟩
  intro k hk
  show q2 k = M k
  rw [d2 k (by omega), b1 k (by omega) (by omega), a1 k (by omega) (by omega) (by omega) (by omega)]
