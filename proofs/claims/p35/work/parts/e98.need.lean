/-! Reading as needed, on both sides. -/
theorem RS_L {x c M : Ob} {s : Nat} (hr : RSen x c M s) (h7 : x 7 0 = iN 1) : RL6 x (evS M s) (Lk (sr M) M s) := by
  rcases hr.2.1 with h | h
  · rw [h7] at h; exact absurd h (by decide)
  · exact h.2
theorem X6_stk {K : Nat → Ob} {x c M : Ob} {s : Nat} (hM : WM M) (hk : RK K M) (hs : s < 4) (hr : RSen x c M s) :
    wp (f_X7_strike (K 2) (K 1) x) (fun y => RSen y c M s ∧ y 7 0 = iN 1 ∧ ∀ k, k ≠ 2 → k ≠ 4 → k ≠ 5 → k ≠ 7 → y k = x k) := by
  obtain ⟨h6, h9, hw⟩ := WTxt_at hM.2.1 hs
  refine wp_mono (X7_strike hk.2.1 hk.1 hM.1 hr.1 (fun p hp => (hw p hp).1)) ?_
  rintro y ⟨a1, a2, a3, a4⟩
  refine ⟨⟨?_, Or.inr ⟨a3, a1⟩, ?_⟩, a3, a4⟩
  · unfold RW6
    rw [a4 0 (by decide) (by decide) (by decide) (by decide), a4 1 (by decide) (by decide) (by decide) (by decide)]
    exact hr.1
  · rw [a4 8 (by decide) (by decide) (by decide) (by decide), a4 3 (by decide) (by decide) (by decide) (by decide)]
    exact hr.2.2
theorem s_2 {s : Nat} (hs : s < 4) : (if iN 0 < iN s - iN 2 then iN s - iN 2 else iN 0) = iN (s - 2) := by
  match s, hs with
  | 0, _ => decide
  | 1, _ => decide
  | 2, _ => decide
  | 3, _ => decide
theorem X10_upTo {K : Nat → Ob} {M : Ob} {s : Nat} (hM : WM M) (hk : RK K M) (hS : ∀ t, t < 4 → RSen (K (9 + t)) (K (14 + t)) M t) (hs : s < 4) :
    wp (f_X10_strikeUpTo K (iN s)) (fun K' => (∀ i, (i < 9 ∨ 12 < i) → K' i = K i) ∧ (∀ t, t < 4 → RSen (K' (9 + t)) (K (14 + t)) M t) ∧ ∀ t, s - 2 ≤ t → t ≤ s → K' (9 + t) 7 0 = iN 1) := by
  rw [f_X10_strikeUpTo, show (if (0 : Int32) < iN s - 2 then iN s - 2 else 0) = iN (s - 2) from s_2 hs]
  simp only [wp_some, wp_grd, wp_lb, wp_ite, wp_b1, wp_b2, wp_b3, wp_b4, wp_b5]
  refine lp_up (F := fun f (K' : Nat → Ob) j => f_X10_strikeUpTo_L8 f K' (iN s) j) (V := fun t K' => s - 2 ≤ t ∧ (∀ i, (i < 9 ∨ 12 < i) → K' i = K i) ∧ (∀ t, t < 4 → RSen (K' (9 + t)) (K (14 + t)) M t) ∧ ∀ u, s - 2 ≤ u → u < t → K' (9 + u) 7 0 = iN 1) (hi := s + 1) ?_ 200 (s - 2) K (by omega) (by omega) ⟨Nat.le_refl _, fun _ _ => rfl, hS, fun u h1 h2 => by omega⟩
  rintro f K' t ht ⟨v1, v2, v3, v4⟩ hkk
  by_cases he : t = s + 1
  · subst he
    simp (disch := omega) only [f_X10_strikeUpTo_L8, ↓nM_lit, iN_lit, iN_add, iN_mul, iN_lt, iN_le, iN_eq, iN_c, gd_iN, iN_nM, nM_iN, iN_ltM, nM_lt, nM_le, iN_leM, iN_0M, nM_p1, iN_0s1, decide_true, decide_eq_true_eq, Nat.not_lt_zero, if_true, if_false, wp_some, wp_grd, wp_lb, wp_ite, wp_b1, wp_b2, wp_b3, wp_b4, wp_b5, show s < s + 1 by omega]
    exact ⟨v2, v3, fun u h1 h2 => v4 u h1 (by omega)⟩
  · have ht4 : t < 4 := by omega
    simp (disch := omega) only [f_X10_strikeUpTo_L8, ↓nM_lit, iN_lit, iN_add, iN_mul, iN_lt, iN_le, iN_eq, iN_c, gd_iN, iN_nM, nM_iN, iN_ltM, nM_lt, nM_le, iN_leM, iN_0M, nM_p1, iN_0s1, decide_true, decide_eq_true_eq, Nat.not_lt_zero, if_true, if_false, wp_some, wp_grd, wp_lb, wp_ite, wp_b1, wp_b2, wp_b3, wp_b4, wp_b5, eq_grd, eq_lb, eq_b1, eq_b2, eq_b3, eq_b4, eq_b5, show ¬ (s < t) by omega, show ¬ (4 ≤ t) by omega, ht4, true_and]
    rcases (v3 t ht4).2.1 with h7 | ⟨h7, -⟩
    · simp (disch := omega) only [h7, if_true]
      rw [v2 2 (by omega), v2 1 (by omega)]
      refine wp_mono (X6_stk hM hk ht4 (v3 t ht4)) ?_
      rintro y ⟨a1, a2, a3⟩
      refine hkk _ (by omega) ⟨by omega, ?_, ?_, ?_⟩
      · intro i hi; rw [vu_ap, if_neg (by omega)]; exact v2 i hi
      · intro u hu
        rw [vu_ap]
        by_cases e : u = t
        · subst e; rw [if_pos rfl]; exact a1
        · rw [if_neg (by omega)]; exact v3 u hu
      · intro u h1 h2
        rw [vu_ap]
        by_cases e : u = t
        · subst e; rw [if_pos rfl]; exact a2
        · rw [if_neg (by omega)]; exact v4 u h1 (by omega)
    · simp (disch := omega) only [h7, ↓nM_lit, iN_lit, iN_add, iN_mul, iN_lt, iN_le, iN_eq, iN_c, gd_iN, iN_nM, nM_iN, iN_ltM, nM_lt, nM_le, iN_leM, iN_0M, nM_p1, iN_0s1, decide_true, decide_eq_true_eq, Nat.not_lt_zero, if_true, if_false, show ¬ (1 = 0) by decide, if_false]
      refine hkk K' (by omega) ⟨by omega, v2, v3, ?_⟩
      intro u h1 h2
      by_cases e : u = t
      · subst e; exact h7
      · exact v4 u h1 (by omega)
theorem X6_isGiven (x r : Ob) : wp (f_X6_isGiven x r) (fun q => (q = iN 1 ∧ ∀ p, p < 6 → x 3 p = r 0 p) ∨ (q = iN 0 ∧ ∃ p, p < 6 ∧ x 3 p ≠ r 0 p)) := by
  rw [f_X6_isGiven]
  simp only [wp_some, wp_grd, wp_lb, wp_ite, wp_b1, wp_b2, wp_b3, wp_b4, wp_b5]
  have key : wp (f_X6_isGiven_L2 200 x r (iN 0)) (fun q => (q.1 = 1 ∧ ∀ p, p < 6 → x 3 p = r 0 p) ∨ (q.1 = 2 ∧ ∃ p, p < 6 ∧ x 3 p ≠ r 0 p)) := by
    refine lp_up (F := fun f (_ : Unit) j => f_X6_isGiven_L2 f x r j) (V := fun i _ => ∀ p, p < i → x 3 p = r 0 p) (hi := 6) ?_ 200 0 () (by omega) (by omega) (fun p hp => absurd hp (Nat.not_lt_zero p))
    rintro f - i hi hv hk
    by_cases he : i = 6
    · subst he
      simp (disch := omega) only [f_X6_isGiven_L2, ↓nM_lit, iN_lit, iN_add, iN_mul, iN_lt, iN_le, iN_eq, iN_c, gd_iN, iN_nM, nM_iN, iN_ltM, nM_lt, nM_le, iN_leM, iN_0M, nM_p1, iN_0s1, decide_true, decide_eq_true_eq, Nat.not_lt_zero, if_true, if_false, wp_some, wp_grd, wp_lb, wp_ite, wp_b1, wp_b2, wp_b3, wp_b4, wp_b5, Nat.le_refl]
      exact Or.inl ⟨trivial, hv⟩
    · simp (disch := omega) only [f_X6_isGiven_L2, ↓nM_lit, iN_lit, iN_add, iN_mul, iN_lt, iN_le, iN_eq, iN_c, gd_iN, iN_nM, nM_iN, iN_ltM, nM_lt, nM_le, iN_leM, iN_0M, nM_p1, iN_0s1, decide_true, decide_eq_true_eq, Nat.not_lt_zero, if_true, if_false, wp_some, wp_grd, wp_lb, wp_ite, wp_b1, wp_b2, wp_b3, wp_b4, wp_b5, show ¬ (6 ≤ i) by omega, show i < 6 by omega, true_and]
      by_cases h : x 3 i = r 0 i
      · rw [if_pos h]
        refine hk () (by omega) ?_
        intro p hp
        by_cases e : p = i
        · subst e; exact h
        · exact hv p (by omega)
      · rw [if_neg h]
        exact Or.inr ⟨i, by omega, h⟩
  refine wp_mono key ?_
  rintro ⟨q1, q2⟩ (⟨h1, h2⟩ | ⟨h1, h2⟩)
  · simp only at h1 ⊢
    rw [if_pos h1]; exact Or.inl ⟨rfl, h2⟩
  · simp only at h1 ⊢
    rw [if_neg (by rw [h1]; decide)]; exact Or.inr ⟨rfl, h2⟩
theorem X6_giveAll (x r : Ob) : wp (f_X6_giveAll x r) (fun y => (∀ k, k ≠ 3 → y k = x k) ∧ ∀ p, p < 6 → y 3 p = r 0 p) := by
  rw [f_X6_giveAll]
  simp only [wp_some, wp_grd, wp_lb, wp_ite, wp_b1, wp_b2, wp_b3, wp_b4, wp_b5]
  refine lp_up (F := fun f (y : Ob) j => f_X6_giveAll_L2 f y r j) (V := fun i y => (∀ k, k ≠ 3 → y k = x k) ∧ ∀ p, p < i → y 3 p = r 0 p) (hi := 6) ?_ 200 0 x (by omega) (by omega) ⟨fun _ _ => rfl, fun p hp => absurd hp (Nat.not_lt_zero p)⟩
  rintro f y i hi ⟨v1, v2⟩ hk
  by_cases he : i = 6
  · subst he
    simp (disch := omega) only [f_X6_giveAll_L2, ↓nM_lit, iN_lit, iN_add, iN_mul, iN_lt, iN_le, iN_eq, iN_c, gd_iN, iN_nM, nM_iN, iN_ltM, nM_lt, nM_le, iN_leM, iN_0M, nM_p1, iN_0s1, decide_true, decide_eq_true_eq, Nat.not_lt_zero, if_true, if_false, wp_some, wp_grd, wp_lb, wp_ite, wp_b1, wp_b2, wp_b3, wp_b4, wp_b5, Nat.le_refl]
    exact ⟨v1, v2⟩
  · simp (disch := omega) only [f_X6_giveAll_L2, ↓nM_lit, iN_lit, iN_add, iN_mul, iN_lt, iN_le, iN_eq, iN_c, gd_iN, iN_nM, nM_iN, iN_ltM, nM_lt, nM_le, iN_leM, iN_0M, nM_p1, iN_0s1, decide_true, decide_eq_true_eq, Nat.not_lt_zero, if_true, if_false, wp_some, wp_grd, wp_lb, wp_ite, wp_b1, wp_b2, wp_b3, wp_b4, wp_b5, show ¬ (6 ≤ i) by omega, show i < 6 by omega, true_and]
    refine hk _ (by omega) ⟨fun k hk => by rw [upo_ne hk]; exact v1 k hk, ?_⟩
    intro p hp
    rw [upo_ap]
    by_cases e : p = i
    · subst e; rw [if_pos ⟨rfl, rfl⟩]
    · rw [if_neg (fun h => e h.2)]; exact v2 p (by omega)
theorem gvM_out {R M : Ob} {s p : Nat} (h : evn M s ≤ p) : gvM R M s p = 0 := by
  unfold gvM rfM rfO
  have : lf (evS M s) (Lk R M s) p (iN 1) = 0 := by rw [lf, if_neg (by rw [evS_L]; omega)]
  rw [this, fb_zero]; rfl
def due (M : Ob) (s : Nat) : Prop := M 54 s ≠ M 52 0 ∨ M 56 s ≠ M 55 s ∨ ∃ p, p < evn M s ∧ ¬ (M 57 (6 * s + p) = iN (gvM (sr M) M s p % 4) ∧ M 58 (6 * s + p) = iN (gvM (sr M) M s p / 4))
theorem KS_of {K K' : Nat → Ob} {M : Ob} {s : Nat} (hM : WM M) (hs : s < 4) (h1 : ∀ t, t < 4 → RSen (K' (9 + t)) (K (14 + t)) M t) (h2 : ∀ t, s - 2 ≤ t → t ≤ s → K' (9 + t) 7 0 = iN 1) : KS K' (evS M) (Lk (sr M) M) (s - 2) s := by
  intro t ha hb
  exact ⟨RS_L (h1 t (by omega)) (h2 t ha (by omega)), (WM_E hM (by omega)).1, (WM_E hM (by omega)).2⟩
/-- a sentence that has been read -/
def RRd (x c M : Ob) (s : Nat) : Prop := RW6 x (evn M s) (evw M s) ∧ x 7 0 = iN 1 ∧ RL6 x (evS M s) (Lk (sr M) M s) ∧ x 8 0 = iN 0 ∧ c 0 0 = iN (evn M s) ∧ (∀ p, p < 6 → x 3 p = iN (gvM (sr M) M s p)) ∧ RCh c (gr M) (chM (gr M) (sr M) M s)
def PN (K K' : Nat → Ob) (M : Ob) (s : Nat) : Prop := (∀ i, (i = 1 ∨ i = 2 ∨ i = 5 ∨ i = 6 ∨ i = 7) → K' i = K i) ∧ (∀ k, k ≠ 12 → k ≠ 13 → k ≠ 14 → K' 3 k = K 3 k) ∧ (∀ k, k ≠ 10 → k ≠ 12 → K' 0 k = K 0 k) ∧ (∀ t, t < 4 → t ≠ s → RSen (K' (9 + t)) (K' (14 + t)) M t) ∧ ((due M s ∧ K' 0 12 0 = K 0 12 0 + iN 1) ∨ (¬ due M s ∧ K' 0 12 0 = K 0 12 0)) ∧ RRd (K' (9 + s)) (K' (14 + s)) M s
theorem X10_need {j : Nat} {K : Nat → Ob} {M : Ob} {s : Nat} (hR : RI j K M) (hs : s < 4) :
    wp (f_X10_readAsNeeded K (iN s)) (fun r => r.1 = 0 ∧ r.2.1 = s ∧ PN K r.2.2 M s) := by
  obtain ⟨hM, hk, hS, -, -⟩ := hR
  have hE := (WM_E hM hs).1
  have hL := (WM_E hM hs).2
  rw [f_X10_readAsNeeded, X10_sAt K hs]
  simp only [wp_some, wp_grd, wp_lb, wp_ite, wp_b1, wp_b2, wp_b3, wp_b4, wp_b5, eq_grd, eq_lb, eq_b1, eq_b2, eq_b3, eq_b4, eq_b5, if_true, hs, decide_true, true_and]
  refine wp_mono (X10_upTo hM hk hS hs) ?_
  rintro K1 ⟨a1, a2, a3⟩
  have hx := RS_L (a2 s hs) (a3 s (by omega) (Nat.le_refl s))
  refine wp_mono (X10_given hs (KS_of hM hs a2 a3) hx hE hL) ?_
  rintro ⟨b0, K2⟩ ⟨b1, b2, b3, b4⟩
  simp only at b1 b2 b3 b4 ⊢
  rw [if_pos b1]
  have b4' : ∀ p, p < 6 → K2 0 10 p = iN (gvM (sr M) M s p) := fun p hp => by rw [b4 p hp, gvM_e]
  have hsen : RSen (K2 (9 + s)) (K (14 + s)) M s := by rw [b2 (9 + s) (by omega) (by omega)]; exact a2 s hs
  have h7 : K2 (9 + s) 7 0 = iN 1 := by rw [b2 (9 + s) (by omega) (by omega)]; exact a3 s (by omega) (Nat.le_refl s)
  have hx2 := RS_L hsen h7
  have h14 : ∀ t, t < 4 → K2 (14 + t) = K (14 + t) := fun t ht => by rw [b2 (14 + t) (by omega) (by omega), a1 (14 + t) (by omega)]
  have k3 : K2 3 = K 3 := by rw [b2 3 (by omega) (by omega), a1 3 (by omega)]
  have k0 : ∀ k, k ≠ 10 → K2 0 k = K 0 k := fun k hk => by rw [b3 k hk, a1 0 (by omega)]
  have kS : ∀ t, t < 4 → RSen (K2 (9 + t)) (K2 (14 + t)) M t := fun t ht => by rw [h14 t ht, b2 (9 + t) (by omega) (by omega)]; exact a2 t ht
  have again : due M s → wp (f_X10_readAsNeeded_J35 K2 s) (fun r => r.1 = 0 ∧ r.2.1 = s ∧ PN K r.2.2 M s) := by
    intro hdue
    rw [f_X10_readAsNeeded_J35]
    simp only [wp_some, wp_grd, wp_lb, wp_ite, wp_b1, wp_b2, wp_b3, wp_b4, wp_b5]
    refine wp_mono (X6_giveAll _ _) ?_
    rintro y ⟨c1, c2⟩
    have e3 : va_up K2 (9 + s) y 3 = K 3 := by rw [vu_ap, if_neg (by omega), k3]
    have e9 : va_up K2 (9 + s) y (9 + s) = y := vu_eq _ _ _
    have e14 : va_up K2 (9 + s) y (14 + s) = K2 (14 + s) := by rw [vu_ap, if_neg (by omega)]
    rw [e3, e9, e14]
    have hy : RL6 y (evS M s) (Lk (sr M) M s) := by
      unfold RL6 RA6
      rw [c1 0 (by decide), c1 2 (by decide), c1 4 (by decide), c1 5 (by decide)]
      exact hx2
    have h6 : RG6 y (evS M s) (Lk (sr M) M s) (gvM (sr M) M s) := by
      refine ⟨hy, hE, hL, ?_⟩
      intro p hp
      have h6 := hE.1
      exact ⟨by rw [c2 p (by omega)]; exact b4' p (by omega), gvM_lt _ _ _ _⟩
    refine wp_mono (X4_read (x0 := K2 (14 + s)) hM.2.2.2 hk.2.2.1 hk.2.2.2.1 h6) ?_
    rintro ⟨r1, r2, r3⟩ ⟨d1, d2, d3, d4, d5⟩
    simp only at d1 d2 d3 d4 d5 ⊢
    refine ⟨trivial, trivial, ?_⟩
    have q0 : va_up (va_up (va_up (va_up K2 (9 + s) y) 3 r1) (9 + s) r2) (14 + s) r3 0 = K2 0 := by
      rw [vu_ap, if_neg (by omega), vu_ap, if_neg (by omega), vu_ap, if_neg (by omega), vu_ap, if_neg (by omega)]
    refine ⟨?_, ?_, ?_, ?_, Or.inl ⟨hdue, ?_⟩, ?_⟩
    · intro i hi
      rw [vu_ap, if_neg (by omega), vu_ap, if_neg (by omega), vu_ap, if_neg (by omega), vu_ap, if_neg (by omega), vu_ap, if_neg (by omega), b2 i (by omega) (by omega), a1 i (by omega)]
    · intro k k1 k2 k3
      rw [vu_ap, if_neg (by omega), vu_ap, if_neg (by omega), vu_ap, if_neg (by omega), vu_ap, if_pos rfl]
      exact d1 k k1 k2 k3
    · intro k k1 k2
      rw [vu_ap, if_pos rfl, upo_ne k2, q0]
      exact k0 k k1
    · intro t ht hne
      rw [vu_ap, if_neg (by omega), vu_ap, if_neg (by omega), vu_ap, if_neg (by omega), vu_ap, if_neg (by omega), vu_ap, if_neg (by omega), vu_ap, if_neg (by omega), vu_ap, if_neg (by omega), vu_ap, if_neg (by omega), vu_ap, if_neg (by omega), vu_ap, if_neg (by omega)]
      exact kS t ht
    · rw [vu_ap, if_pos rfl, upo_ap, if_pos ⟨rfl, rfl⟩, q0, k0 12 (by decide)]; rfl
    · have g9 : ∀ z, va_up (va_up (va_up (va_up (va_up K2 (9 + s) y) 3 r1) (9 + s) r2) (14 + s) r3) 0 z (9 + s) = r2 := fun z => by rw [vu_ap, if_neg (by omega), vu_ap, if_neg (by omega), vu_ap, if_pos rfl]
      have g14 : ∀ z, va_up (va_up (va_up (va_up (va_up K2 (9 + s) y) 3 r1) (9 + s) r2) (14 + s) r3) 0 z (14 + s) = r3 := fun z => by rw [vu_ap, if_neg (by omega), vu_ap, if_pos rfl]
      rw [g9, g14, d2]
      refine ⟨?_, ?_, ?_, ?_, d5, ?_, d3⟩
      · unfold RW6
        rw [upo_ne (by decide), upo_ne (by decide), c1 0 (by decide), c1 1 (by decide)]
        exact hsen.1
      · rw [upo_ne (by decide), c1 7 (by decide)]; exact h7
      · unfold RL6 RA6
        rw [upo_ne (by decide), upo_ne (by decide), upo_ne (by decide), upo_ne (by decide)]
        exact hy
      · rw [upo_ap, if_pos ⟨rfl, rfl⟩]
      · intro p hp
        rw [upo_ne (by decide), c2 p hp]; exact b4' p hp
  rcases hsen.2.2 with ⟨h8, hmis⟩ | ⟨h8, e1, e2, e3, e4, g, e5, e6⟩
  · simp (disch := omega) only [h8, ↓nM_lit, iN_lit, iN_add, iN_mul, iN_lt, iN_le, iN_eq, iN_c, gd_iN, iN_nM, nM_iN, iN_ltM, nM_lt, nM_le, iN_leM, iN_0M, nM_p1, iN_0s1, decide_true, decide_eq_true_eq, Nat.not_lt_zero, if_true, if_false, show ¬ (1 = 0) by decide, if_false]
    exact again (by rcases hmis with h | h; exact Or.inl h; exact Or.inr (Or.inl h))
  · simp (disch := omega) only [h8, ↓nM_lit, iN_lit, iN_add, iN_mul, iN_lt, iN_le, iN_eq, iN_c, gd_iN, iN_nM, nM_iN, iN_ltM, nM_lt, nM_le, iN_leM, iN_0M, nM_p1, iN_0s1, decide_true, decide_eq_true_eq, Nat.not_lt_zero, if_true, if_false, if_true, wp_some, wp_grd, wp_lb, wp_ite, wp_b1, wp_b2, wp_b3, wp_b4, wp_b5]
    refine wp_mono (X6_isGiven _ _) ?_
    rintro q (⟨f1, f2⟩ | ⟨f1, p, hp, f2⟩)
    · have hgg : ∀ p, p < evn M s → g p = gvM (sr M) M s p := by
        intro p hp
        obtain ⟨u1, u2, -⟩ := e5 p hp
        have h6 := hE.1
        rw [evS_L] at h6
        have := f2 p (by omega)
        rw [u1, b4' p (by omega)] at this
        have h16 := gvM_lt (sr M) M s p
        exact (iN_eq (by omega) (by omega)).mp this
      have hnd : ¬ due M s := by
        rintro (h | h | ⟨p, hp, h⟩)
        · exact h e1
        · exact h e2
        · obtain ⟨-, -, u3, u4⟩ := e5 p hp
          rw [hgg p hp] at u3 u4
          exact h ⟨u3, u4⟩
      simp (disch := omega) only [f1, ↓nM_lit, iN_lit, iN_add, iN_mul, iN_lt, iN_le, iN_eq, iN_c, gd_iN, iN_nM, nM_iN, iN_ltM, nM_lt, nM_le, iN_leM, iN_0M, nM_p1, iN_0s1, decide_true, decide_eq_true_eq, Nat.not_lt_zero, if_true, if_false, show ¬ (1 = 0) by decide, if_false, wp_some, wp_grd, wp_lb, wp_ite, wp_b1, wp_b2, wp_b3, wp_b4, wp_b5]
      refine ⟨?_, ?_, ?_, fun t ht _ => kS t ht, Or.inr ⟨hnd, by rw [k0 12 (by decide)]⟩, hsen.1, h7, hx2, h8, by rw [h14 s hs]; exact e3, fun p hp => by rw [f2 p hp]; exact b4' p hp, ?_⟩
      · intro i hi; rw [b2 i (by omega) (by omega), a1 i (by omega)]
      · intro k _ _ _; rw [k3]
      · intro k k1 _; exact k0 k k1
      · rw [h14 s hs]
        have := cht_gv (G := gr M) (E := evS M s) (L := Lk (sr M) M s) hgg
        show RCh _ _ (cht (gr M) (evS M s) (Lk (sr M) M s) (gvM (sr M) M s))
        rw [← this]; exact e6
    · simp (disch := omega) only [f1, ↓nM_lit, iN_lit, iN_add, iN_mul, iN_lt, iN_le, iN_eq, iN_c, gd_iN, iN_nM, nM_iN, iN_ltM, nM_lt, nM_le, iN_leM, iN_0M, nM_p1, iN_0s1, decide_true, decide_eq_true_eq, Nat.not_lt_zero, if_true, if_false, if_true]
      refine again (Or.inr (Or.inr ?_))
      have h16 := gvM_lt (sr M) M s p
      rw [b4' p hp] at f2
      by_cases hpn : p < evn M s
      · refine ⟨p, hpn, ?_⟩
        obtain ⟨u1, u2, u3, u4⟩ := e5 p hpn
        rintro ⟨h1, h2⟩
        rw [u3] at h1
        rw [u4] at h2
        have h1' := (iN_eq (by omega) (by omega)).mp h1
        have h2' := (iN_eq (by omega) (by omega)).mp h2
        exact f2 (by rw [u1]; congr 1; omega)
      · exact absurd (by rw [e4 p (by omega) hp, gvM_out (by omega)]) f2
