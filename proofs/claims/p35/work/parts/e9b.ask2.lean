/-! Calls that strike or read. -/
theorem RI_upTo {j : Nat} {K K1 : Nat → Ob} {M : Ob} (h : RI j K M) (a1 : ∀ i, (i < 9 ∨ 12 < i) → K1 i = K i) (a2 : ∀ t, t < 4 → RSen (K1 (9 + t)) (K (14 + t)) M t) : RI j K1 M := by
  obtain ⟨h1, h2, h3, h4, h5⟩ := h
  refine ⟨h1, RK_K ⟨fun i hi => a1 i (by omega), fun k _ _ _ => by rw [a1 3 (by omega)]⟩ h2, ?_, h4, by rw [a1 0 (by omega)]; exact h5.1, h5.2⟩
  intro t ht
  rw [a1 (14 + t) (by omega)]
  exact a2 t ht
theorem X10_asN {j : Nat} {K : Nat → Ob} {M : Ob} (h : RI j K M) {s : Nat} (hs : s < 4) :
    wp (f_X10_strikeAsNeeded K s) (fun K' => RI j K' M ∧ RL6 (K' (9 + s)) (evS M s) (Lk (sr M) M s) ∧ K' (9 + s) 1 = K (9 + s) 1 ∧ ∀ i, i ≠ 9 + s → K' i = K i) := by
  have hx := h.2.2.1 s hs
  rw [f_X10_strikeAsNeeded]
  rcases hx.2.1 with h7 | ⟨h7, hL⟩
  · simp (disch := omega) only [h7, ↓nM_lit, iN_lit, iN_add, iN_mul, iN_lt, iN_le, iN_eq, iN_c, gd_iN, iN_nM, nM_iN, iN_ltM, nM_lt, nM_le, iN_leM, iN_0M, nM_p1, iN_0s1, decide_true, decide_eq_true_eq, Nat.not_lt_zero, if_true, if_false, if_true, wp_some, wp_grd, wp_lb, wp_ite, wp_b1, wp_b2, wp_b3, wp_b4, wp_b5]
    refine wp_mono (X6_stk h.1 h.2.1 hs hx) ?_
    rintro y ⟨a1, a2, a3⟩
    refine ⟨RI_upTo h (fun i hi => by rw [vu_ap, if_neg (by omega)]) ?_, ?_, ?_, fun i hi => by rw [vu_ap, if_neg hi]⟩
    · intro t ht
      rw [vu_ap]
      by_cases e : t = s
      · subst e; rw [if_pos rfl]; exact a1
      · rw [if_neg (by omega)]; exact h.2.2.1 t ht
    · rw [vu_ap, if_pos rfl]; exact RS_L a1 a2
    · rw [vu_ap, if_pos rfl]; exact a3 1 (by decide) (by decide) (by decide) (by decide)
  · simp (disch := omega) only [h7, ↓nM_lit, iN_lit, iN_add, iN_mul, iN_lt, iN_le, iN_eq, iN_c, gd_iN, iN_nM, nM_iN, iN_ltM, nM_lt, nM_le, iN_leM, iN_0M, nM_p1, iN_0s1, decide_true, decide_eq_true_eq, Nat.not_lt_zero, if_true, if_false, show ¬ (1 = 0) by decide, if_false, wp_some, wp_grd, wp_lb, wp_ite, wp_b1, wp_b2, wp_b3, wp_b4, wp_b5]
    exact ⟨h, hL, trivial, fun _ _ => trivial⟩
theorem look_RI {j : Nat} {K : Nat → Ob} {M y : Ob} (h : RI j K M) (hy : ∀ k, k ≠ 11 → k ≠ 12 → k ≠ 13 → k ≠ 14 → y k = M k) : RI j K y := RI_cg (fun k hk => hy k (by omega) (by omega) (by omega) (by omega)) h
theorem op_left {j : Nat} {K : Nat → Ob} {M : Ob} (h : RI j K M) (p1 p2 : Int32) : Op_left RI j K M p1 p2 := by
  rcases in_or p1 (show 4 < 2147483648 by decide) with ⟨s, hs, e⟩ | hn
  · subst e
    obtain ⟨a1, a2, a3⟩ := RI_len h hs
    rcases in_or p2 (show evn M s < 2147483648 by omega) with ⟨p, hp, e⟩ | hn
    · subst e
      obtain ⟨K', e1, c1, c2, c3, c4⟩ := X10_asN h hs
      have h4 := RI_67 (iN 0) h
      obtain ⟨y, e2, d1, d2, d3⟩ := X11_look h4.1.1 h4.1.2.1 h4.1.2.2.1 hs
      have e11 := (d2 s (Nat.le_refl s)).1.2.2.2.2.2.2 p hp
      refine ⟨0, iN (Lk (sr M) M s p), K', iN (Lk (sr M) M s p), y, iN 0, ?_, ?_, ?_, Or.inl ⟨rfl, rfl, rfl⟩, RI_j (look_RI (RI_67 (iN 0) c1) d1)⟩
      · have e3 := (c1.2.2.1 s hs).1.1
        simp (disch := omega) only [f_X10_left, X10_sAt K hs, eq_grd, eq_lb, eq_b1, eq_b2, eq_b3, eq_b4, eq_b5, if_true, hs, decide_true, f_X10_requirePlace, a1, isB_y hp (show evn M s < 2147483648 by omega), ↓nM_lit, iN_lit, iN_add, iN_mul, iN_lt, iN_le, iN_eq, iN_c, gd_iN, iN_nM, nM_iN, iN_ltM, nM_lt, nM_le, iN_leM, iN_0M, nM_p1, iN_0s1, decide_true, decide_eq_true_eq, Nat.not_lt_zero, if_true, if_false, show ¬ (1 = 0) by decide, if_false, e1, f_X6_leftIn, e3, show ¬ (evn M s ≤ p) by omega, show p < 6 by omega, c2.2.1 p hp]
      · simp (disch := omega) only [f_X11_left, isP_y hs a2 a3 hp, may_1, eq_grd, eq_lb, eq_b1, eq_b2, eq_b3, eq_b4, eq_b5, ↓nM_lit, iN_lit, iN_add, iN_mul, iN_lt, iN_le, iN_eq, iN_c, gd_iN, iN_nM, nM_iN, iN_ltM, nM_lt, nM_le, iN_leM, iN_0M, nM_p1, iN_0s1, decide_true, decide_eq_true_eq, Nat.not_lt_zero, if_true, if_false, show ¬ (1 = 0) by decide, if_false, show 6 * s + p < 24 by omega, e2, e11]
        rw [Lk_cg (M := M) (M' := upo M 67 0 (iN 0)) (fun k hk => upo_ne (by omega)), sr_cg (M := M) (M' := upo M 67 0 (iN 0)) (fun k hk => upo_ne (by omega))]
      · rw [f_X11_thrown, d1 67 (by decide) (by decide) (by decide) (by decide), u67]
    · refine ⟨1, 0, K, 0, upo M 67 0 (iN 1), iN 1, ?_, ?_, congrArg some (u67 _ _), Or.inr ⟨rfl, rfl⟩, RI_j (RI_67 _ h)⟩
      · simp (disch := omega) only [f_X10_left, X10_sAt K hs, eq_grd, eq_lb, eq_b1, eq_b2, eq_b3, eq_b4, eq_b5, if_true, hs, decide_true, f_X10_requirePlace, a1, isB_n hn, ↓nM_lit, iN_lit, iN_add, iN_mul, iN_lt, iN_le, iN_eq, iN_c, gd_iN, iN_nM, nM_iN, iN_ltM, nM_lt, nM_le, iN_leM, iN_0M, nM_p1, iN_0s1, decide_true, decide_eq_true_eq, Nat.not_lt_zero, if_true, if_false, show ¬ (1 = 0) by decide, if_false]
      · simp (disch := omega) only [f_X11_left, isP_n hs a2 a3 hn, may_0, eq_grd, eq_lb, eq_b1, eq_b2, eq_b3, eq_b4, eq_b5, ↓nM_lit, iN_lit, iN_add, iN_mul, iN_lt, iN_le, iN_eq, iN_c, gd_iN, iN_nM, nM_iN, iN_ltM, nM_lt, nM_le, iN_leM, iN_0M, nM_p1, iN_0s1, decide_true, decide_eq_true_eq, Nat.not_lt_zero, if_true, if_false, if_true]
  · refine ⟨1, 0, K, 0, upo M 67 0 (iN 1), iN 1, ?_, ?_, congrArg some (u67 _ _), Or.inr ⟨rfl, rfl⟩, RI_j (RI_67 _ h)⟩
    · simp only [f_X10_left, sAt_n hn K, eq_grd, eq_lb, eq_b1, eq_b2, eq_b3, eq_b4, eq_b5]; rfl
    · simp (disch := omega) only [f_X11_left, isP_s hn, may_0, eq_grd, eq_lb, eq_b1, eq_b2, eq_b3, eq_b4, eq_b5, ↓nM_lit, iN_lit, iN_add, iN_mul, iN_lt, iN_le, iN_eq, iN_c, gd_iN, iN_nM, nM_iN, iN_ltM, nM_lt, nM_le, iN_leM, iN_0M, nM_p1, iN_0s1, decide_true, decide_eq_true_eq, Nat.not_lt_zero, if_true, if_false, if_true]
theorem op_referent {j : Nat} {K : Nat → Ob} {M : Ob} (h : RI j K M) (p1 p2 : Int32) : Op_referent RI j K M p1 p2 := by
  rcases in_or p1 (show 4 < 2147483648 by decide) with ⟨s, hs, e⟩ | hn
  · subst e
    obtain ⟨a1, a2, a3⟩ := RI_len h hs
    rcases in_or p2 (show evn M s < 2147483648 by omega) with ⟨p, hp, e⟩ | hn
    · subst e
      obtain ⟨K1, e1, c1, c2, c3⟩ := X10_upTo h.1 h.2.1 h.2.2.1 hs
      have hx := RS_L (c2 s hs) (c3 s (by omega) (Nat.le_refl s))
      obtain ⟨⟨r0, r1, K2⟩, e2, b1, b2, b3⟩ := X10_refers hs (KS_of h.1 hs c2 c3) hx (WM_E h.1 hs).1 (WM_E h.1 hs).2 (show p < eL (evS M s) from hp)
      have h4 := RI_67 (iN 0) h
      obtain ⟨y, e3, d1, d2, d3⟩ := X11_look h4.1.1 h4.1.2.1 h4.1.2.2.1 hs
      obtain ⟨e12, -, -⟩ := d3 p hp
      have hcr : cor M (upo M 67 0 (iN 0)) := fun k hk => upo_ne (by omega)
      have erf : rfM (sr (upo M 67 0 (iN 0))) (upo M 67 0 (iN 0)) s p = rfO (evS M) (Lk (sr M) M) (evS M s) (Lk (sr M) M s) s p := by
        unfold rfM
        rw [evS_cg hcr, sr_cg hcr, Lk_cg hcr]
      rw [erf] at e12
      simp only at b1 b2 b3
      have hRI : RI j K2 M := by
        have h1 := RI_upTo h c1 c2
        refine RI_K ⟨fun i hi => b2 i (by omega), fun k _ _ _ => by rw [b2 3 (by omega)], by rw [b2 0 (by omega)]⟩ h1
      refine ⟨0, rnO (rfO (evS M) (Lk (sr M) M) (evS M s) (Lk (sr M) M s) s p), K2, rnO (rfO (evS M) (Lk (sr M) M) (evS M s) (Lk (sr M) M s) s p), y, iN 0, ?_, ?_, ?_, Or.inl ⟨rfl, rfl, rfl⟩, RI_j (look_RI (RI_67 (iN 0) hRI) d1)⟩
      · simp (disch := omega) only [f_X10_referent, X10_sAt K hs, eq_grd, eq_lb, eq_b1, eq_b2, eq_b3, eq_b4, eq_b5, if_true, hs, decide_true, f_X10_requirePlace, a1, isB_y hp (show evn M s < 2147483648 by omega), ↓nM_lit, iN_lit, iN_add, iN_mul, iN_lt, iN_le, iN_eq, iN_c, gd_iN, iN_nM, nM_iN, iN_ltM, nM_lt, nM_le, iN_leM, iN_0M, nM_p1, iN_0s1, decide_true, decide_eq_true_eq, Nat.not_lt_zero, if_true, if_false, show ¬ (1 = 0) by decide, if_false, e1, e2, b1]
        cases hr : rfO (evS M) (Lk (sr M) M) (evS M s) (Lk (sr M) M s) s p with
        | none =>
          rw [hr] at b3
          simp only at b3
          simp only [b3, if_true, rnO]
        | some t =>
          rw [hr] at b3
          obtain ⟨f1, f2, f3, -⟩ := b3
          simp (disch := omega) only [f1, f2, f3, ↓nM_lit, iN_lit, iN_add, iN_mul, iN_lt, iN_le, iN_eq, iN_c, gd_iN, iN_nM, nM_iN, iN_ltM, nM_lt, nM_le, iN_leM, iN_0M, nM_p1, iN_0s1, decide_true, decide_eq_true_eq, Nat.not_lt_zero, if_true, if_false, show ¬ (1 = 0) by decide, if_false, rnO]
      · simp (disch := omega) only [f_X11_referent, isP_y hs a2 a3 hp, may_1, eq_grd, eq_lb, eq_b1, eq_b2, eq_b3, eq_b4, eq_b5, ↓nM_lit, iN_lit, iN_add, iN_mul, iN_lt, iN_le, iN_eq, iN_c, gd_iN, iN_nM, nM_iN, iN_ltM, nM_lt, nM_le, iN_leM, iN_0M, nM_p1, iN_0s1, decide_true, decide_eq_true_eq, Nat.not_lt_zero, if_true, if_false, show ¬ (1 = 0) by decide, if_false, show 6 * s + p < 24 by omega, e3, e12]
      · rw [f_X11_thrown, d1 67 (by decide) (by decide) (by decide) (by decide), u67]
    · refine ⟨1, 0, K, 0, upo M 67 0 (iN 1), iN 1, ?_, ?_, congrArg some (u67 _ _), Or.inr ⟨rfl, rfl⟩, RI_j (RI_67 _ h)⟩
      · simp (disch := omega) only [f_X10_referent, X10_sAt K hs, eq_grd, eq_lb, eq_b1, eq_b2, eq_b3, eq_b4, eq_b5, if_true, hs, decide_true, f_X10_requirePlace, a1, isB_n hn, ↓nM_lit, iN_lit, iN_add, iN_mul, iN_lt, iN_le, iN_eq, iN_c, gd_iN, iN_nM, nM_iN, iN_ltM, nM_lt, nM_le, iN_leM, iN_0M, nM_p1, iN_0s1, decide_true, decide_eq_true_eq, Nat.not_lt_zero, if_true, if_false, show ¬ (1 = 0) by decide, if_false]
      · simp (disch := omega) only [f_X11_referent, isP_n hs a2 a3 hn, may_0, eq_grd, eq_lb, eq_b1, eq_b2, eq_b3, eq_b4, eq_b5, ↓nM_lit, iN_lit, iN_add, iN_mul, iN_lt, iN_le, iN_eq, iN_c, gd_iN, iN_nM, nM_iN, iN_ltM, nM_lt, nM_le, iN_leM, iN_0M, nM_p1, iN_0s1, decide_true, decide_eq_true_eq, Nat.not_lt_zero, if_true, if_false, if_true]
  · refine ⟨1, 0, K, 0, upo M 67 0 (iN 1), iN 1, ?_, ?_, congrArg some (u67 _ _), Or.inr ⟨rfl, rfl⟩, RI_j (RI_67 _ h)⟩
    · simp only [f_X10_referent, sAt_n hn K, eq_grd, eq_lb, eq_b1, eq_b2, eq_b3, eq_b4, eq_b5]; rfl
    · simp (disch := omega) only [f_X11_referent, isP_s hn, may_0, eq_grd, eq_lb, eq_b1, eq_b2, eq_b3, eq_b4, eq_b5, ↓nM_lit, iN_lit, iN_add, iN_mul, iN_lt, iN_le, iN_eq, iN_c, gd_iN, iN_nM, nM_iN, iN_ltM, nM_lt, nM_le, iN_leM, iN_0M, nM_p1, iN_0s1, decide_true, decide_eq_true_eq, Nat.not_lt_zero, if_true, if_false, if_true]
/-- both have read the sentence -/
def RD (j : Nat) (K : Nat → Ob) (M : Ob) (s : Nat) : Prop := RI j K M ∧ RRd (K (9 + s)) (K (14 + s)) M s ∧ ST M M s ∧ WCh (gr M) (cM M s)
theorem RRd_cg {x c M M' : Ob} {s : Nat} (h : cor M M') (hr : RRd x c M s) : RRd x c M' s := by
  obtain ⟨a1, a2, a3, a4, a5, a6, a7⟩ := hr
  have ec : chM (gr M') (sr M') M' s = chM (gr M) (sr M) M s := cM_cg h s
  unfold RRd
  rw [ec, evn_cg h, evw_cg h, evS_cg h, sr_cg h, Lk_cg h, gvM_cg h, gr_cg h]
  exact ⟨a1, a2, a3, a4, a5, a6, a7⟩
theorem both_need {j : Nat} {K : Nat → Ob} {M : Ob} (h : RI j K M) {s : Nat} (hs : s < 4) : ∃ K' y, f_X10_readAsNeeded K (iN s) = some (0, s, K') ∧ f_X11_need M (iN s) = some y ∧ RD j K' y s ∧ y 67 = M 67 ∧ y 9 = M 9 ∧ cor M y ∧ (∀ i, (i = 5 ∨ i = 6) → K' i = K i) := by
  obtain ⟨⟨r0, r1, K'⟩, e1, b1, b2, b3⟩ := X10_need h hs
  obtain ⟨y, e2, c1, c2, c3⟩ := X11_need h.1 hs
  simp only at b1 b2 b3
  subst b1
  subst b2
  obtain ⟨k1, k2, k3, k4, k5, k6⟩ := b3
  obtain ⟨m1, m2, m3, m4, m5, m6, m7, m8, m9, m10⟩ := c1
  refine ⟨K', y, e1, e2, ⟨⟨WM_cg m1 h.1, ?_, ?_, ?_, ?_⟩, RRd_cg m1 k6, ?_, ?_⟩, m2 67 (by omega), m1 9 (by omega), m1, fun i hi => k1 i (by omega)⟩
  · exact RK_cg m1 (fun k a b => m2 k a) (RK_K ⟨fun i hi => k1 i (by omega), k2⟩ h.2.1)
  · intro t ht
    by_cases e : t = r1
    · subst e
      obtain ⟨a1, a2, a3, a4, a5, a6, a7⟩ := RRd_cg m1 k6
      refine ⟨a1, Or.inr ⟨a2, a3⟩, Or.inr ⟨a4, by rw [m7, m3], by rw [m8, m4], a5, fun p h1 h2 => by rw [a6 p h2, gvM_out h1], gvM (sr y) y t, ?_, a7⟩⟩
      intro p hp
      have h6 := a1.2.1
      rw [evn_cg m1] at hp
      obtain ⟨u1, u2⟩ := m9 p hp
      refine ⟨a6 p (by rw [evn_cg m1] at h6; omega), gvM_lt _ _ _ _, ?_, ?_⟩
      · rw [sr_cg m1, gvM_cg m1]; exact u1
      · rw [sr_cg m1, gvM_cg m1]; exact u2
    · refine RSen_cg m1 ⟨by rw [m3], (m6 t e).1, by rw [m4], (m6 t e).2⟩ ?_ (k4 t ht e)
      intro p hp
      have h6 := (WTxt_at h.1.2.1 ht).1
      exact m10 (6 * t + p) (by omega)
  · obtain ⟨v, v1, v2, v3⟩ := h.2.2.2.1
    refine ⟨v, v1, by rw [m3]; exact v2, ?_⟩
    intro t ht
    obtain ⟨w1, c, d, w2, w3, w4, w5⟩ := v3 t ht
    by_cases e : t = r1
    · subst e
      exact ⟨Or.inr ⟨v, Nat.le_refl v, by rw [m7]; exact v2⟩, c, c, Nat.le_refl c, w3, by rw [m4]; exact w4, by rw [m8]; exact w4⟩
    · rw [(m6 t e).1, (m6 t e).2, m4]
      exact ⟨w1, c, d, w2, w3, w4, w5⟩
  · refine ⟨?_, ZE_cg (m1 21 (by omega)) (m1 26 (by omega)) h.2.2.2.2.2⟩
    have h5 := h.2.2.2.2.1
    rcases m5 with ⟨d1, d2⟩ | ⟨d1, d2⟩
    · rcases k5 with ⟨-, k5⟩ | ⟨k5, -⟩
      · rw [k5, d2, h5]
      · exact absurd d1 k5
    · rcases k5 with ⟨k5, -⟩ | ⟨-, k5⟩
      · exact absurd k5 d1
      · rw [k5, d2, h5]
  · obtain ⟨n, n1, n2⟩ := c2
    refine ⟨n, n1, ?_⟩
    have ec : chM (gr y) (sr y) y r1 = chM (gr M) (sr M) M r1 := cM_cg m1 r1
    rw [ec, gr_cg m1]; exact n2
  · have ec : chM (gr y) (sr y) y r1 = chM (gr M) (sr M) M r1 := cM_cg m1 r1
    show WCh (gr y) (chM (gr y) (sr y) y r1)
    rw [ec, gr_cg m1]; exact c3
theorem RD_cg {j : Nat} {K : Nat → Ob} {M M' : Ob} {s : Nat} (hc : ∀ k, (k < 11 ∨ (15 ≤ k ∧ k ≤ 40) ∨ (52 ≤ k ∧ k ≤ 65)) → M' k = M k) (h : RD j K M s) : RD j K M' s := by
  obtain ⟨h1, h2, ⟨n, n1, n2⟩, h4⟩ := h
  have hcr : cor M M' := fun k hk => hc k (by omega)
  have ec : chM (gr M') (sr M') M' s = chM (gr M) (sr M) M s := cM_cg hcr s
  refine ⟨RI_cg (fun k hk => hc k (by omega)) h1, RRd_cg hcr h2, ⟨n, n1, ?_⟩, ?_⟩
  · rw [ec, gr_cg hcr]
    exact MCh_cg (fun k a b => hc k (by omega)) n2
  · show WCh (gr M') (chM (gr M') (sr M') M' s)
    rw [ec, gr_cg hcr]; exact h4
theorem RD_K {j : Nat} {K K' : Nat → Ob} {M : Ob} {s : Nat} (hs : s < 4) (hc : corK K K') (h : RD j K M s) : RD j K' M s := by
  obtain ⟨h1, h2, h3, h4⟩ := h
  refine ⟨RI_K hc h1, ?_, h3, h4⟩
  rw [hc.1 (9 + s) (by omega), hc.1 (14 + s) (by omega)]
  exact h2
