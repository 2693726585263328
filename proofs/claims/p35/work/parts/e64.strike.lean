/-! The class strikes: X7 over a sentence. -/
def bI (b : Bool) : Int32 := if b = true then iN 1 else iN 0
/-- a sentence in the middle of striking -/
def St6 (E : Ev) (x0 : Ob) (s : Sk) (y : Ob × Int32) : Prop := RL6 y.1 E s.2 ∧ LB E s.2 ∧ y.2 = bI s.1 ∧ ∀ k, k ≠ 2 → y.1 k = x0 k
theorem LB_u {E : Ev} {L : Nat → Nat} (hL : LB E L) {p v : Nat} (hv : v ≤ L p) : LB E (uN L p v) := by
  intro q hq
  unfold uN
  by_cases h : q = p
  · subst h; rw [if_pos rfl]; exact Nat.lt_of_le_of_lt hv (hL q hq)
  · rw [if_neg h]; exact hL q hq
theorem X6_out {x : Ob} {E : Ev} {L : Nat → Nat} (hx : RL6 x E L) (hE : EvB E) (hL : LB E L) {p : Nat} (hp : p < eL E) (b : Nat → Bool) : f_X6_strikeOut x (iN p) (iN (lo (L p) b)) = some (upo x 2 p (iN (L p - lo (L p) b))) ∧ RL6 (upo x 2 p (iN (L p - lo (L p) b))) E (uN L p (L p - lo (L p) b)) := by
  have h6 := hE.1
  have h16 := LB16 hE hL hp
  have e2 := hx.2.1 p hp
  constructor
  · simp (disch := omega) only [f_X6_strikeOut, hx.1, ↓nM_lit, iN_lit, iN_add, iN_mul, iN_lt, iN_le, iN_eq, iN_c, gd_iN, iN_nM, nM_iN, iN_ltM, nM_lt, nM_le, iN_leM, iN_0M, nM_p1, iN_0s1, decide_true, decide_eq_true_eq, Nat.not_lt_zero, if_true, if_false, eq_grd, eq_lb, eq_b1, eq_b2, eq_b3, eq_b4, eq_b5, show ¬ (eL E ≤ p) by omega, show p < 6 by omega, e2, lo_out h16]
  · obtain ⟨x0, x2, xa⟩ := hx
    refine ⟨?_, ?_, ?_⟩
    · simp (disch := omega) only [upo_ap, x0]; rfl
    · intro q hq
      by_cases h : q = p
      · subst h; simp only [upo_ap, uN, and_self, if_true]
      · simp only [upo_ap, uN, h, and_false, if_false]; exact x2 q hq
    · intro q hq k hk
      have := xa q hq k hk
      simp only [upo_ap, show ¬ (4 = 2) by decide, show ¬ (5 = 2) by decide, false_and, if_false]
      exact this
theorem X7_places {x7 R xl x0 : Ob} {E : Ev} (h7 : QX7 x7 R) (hE : EvB E) {g : Nat} (hg : g < 8) (hgn : g < nn (R 15 0)) (v4 : Int32) (s0 : Sk) (y0 : Ob × Int32) (h0 : St6 E x0 s0 y0) :
    wp (f_X7_strike_L38 200 x7 xl y0.1 y0.2 v4 (iN g) (iN 0)) (fun r => St6 E x0 (sP R E g (eL E) s0) (r.2.2, r.1)) := by
  have h6 := hE.1
  obtain ⟨r1, r2, r3, r4, r5⟩ := h7.2.2 g hgn
  refine lp_up (F := fun n (y : Ob × Int32) i => f_X7_strike_L38 n x7 xl y.1 y.2 v4 (iN g) i) (V := fun i y => St6 E x0 (sP R E g i s0) y) (hi := eL E) ?_ 200 0 y0 (by omega) (by omega) h0
  intro n y i hi hv hk
  obtain ⟨hR, hL, hb, hf⟩ := hv
  by_cases he : i = eL E
  · subst he
    simp (disch := omega) only [f_X7_strike_L38, hR.1, ↓nM_lit, iN_lit, iN_add, iN_mul, iN_lt, iN_le, iN_eq, iN_c, gd_iN, iN_nM, nM_iN, iN_ltM, nM_lt, nM_le, iN_leM, iN_0M, nM_p1, iN_0s1, decide_true, decide_eq_true_eq, Nat.not_lt_zero, if_true, if_false, wp_some, wp_grd, wp_lb, wp_ite, wp_b1, wp_b2, wp_b3, wp_b4, wp_b5, Nat.le_refl]
    exact ⟨hR, hL, hb, hf⟩
  · have hi' : i < eL E := by omega
    have hl := lf_lt hE hL hi' (R 17 g)
    have h16 := LB16 hE hL hi'
    simp (disch := omega) only [f_X7_strike_L38, hR.1, ↓nM_lit, iN_lit, iN_add, iN_mul, iN_lt, iN_le, iN_eq, iN_c, gd_iN, iN_nM, nM_iN, iN_ltM, nM_lt, nM_le, iN_leM, iN_0M, nM_p1, iN_0s1, decide_true, decide_eq_true_eq, Nat.not_lt_zero, if_true, if_false, wp_some, wp_grd, wp_lb, wp_ite, wp_b1, wp_b2, wp_b3, wp_b4, wp_b5, eq_grd, eq_lb, eq_b1, eq_b2, eq_b3, eq_b4, eq_b5, show ¬ (eL E ≤ i) by omega, hg, r2, X6_left hR hE hL hi', X6_in hR hE hi']
    have same : (¬ (lf E (sP R E g i s0).2 i (R 17 g) ≠ 0 ∧ lf E (sP R E g i s0).2 i (R 17 g) ≠ (sP R E g i s0).2 i ∧ sHo R E (sP R E g i s0).2 g i = true)) → wp (f_X7_strike_L38 n x7 xl y.1 y.2 v4 (iN g) (iN (i + 1))) (fun r => St6 E x0 (sP R E g (eL E) s0) (r.2.2, r.1)) := by
      intro hn
      refine hk y hi' ?_
      rw [sP, s1, if_neg hn]
      exact ⟨hR, hL, hb, hf⟩
    by_cases ha : lf E (sP R E g i s0).2 i (R 17 g) = (sP R E g i s0).2 i
    · simp only [ha, if_true]
      by_cases hz : (sP R E g i s0).2 i = 0
      · simp only [f_X7_strike_J78, hz, iN_lit, if_true, eq_b4, eq_grd, eq_lb, eq_b1, eq_b2, eq_b3, eq_b4, eq_b5, iN_add, wp_some, wp_grd, wp_lb, wp_ite, wp_b1, wp_b2, wp_b3, wp_b4, wp_b5]
        exact same (by rw [ha]; intro h; exact h.2.1 rfl)
      · simp (disch := omega) only [f_X7_strike_J78, ↓nM_lit, iN_lit, iN_add, iN_mul, iN_lt, iN_le, iN_eq, iN_c, gd_iN, iN_nM, nM_iN, iN_ltM, nM_lt, nM_le, iN_leM, iN_0M, nM_p1, iN_0s1, decide_true, decide_eq_true_eq, Nat.not_lt_zero, if_true, if_false, hz, eq_grd, eq_lb, eq_b1, eq_b2, eq_b3, eq_b4, eq_b5, wp_some, wp_grd, wp_lb, wp_ite, wp_b1, wp_b2, wp_b3, wp_b4, wp_b5]
        exact same (by rw [ha]; intro h; exact h.2.1 rfl)
    · simp only [ha, if_false]
      by_cases hz : lf E (sP R E g i s0).2 i (R 17 g) = 0
      · simp only [f_X7_strike_J78, hz, iN_lit, if_true, eq_b4, eq_grd, eq_lb, eq_b1, eq_b2, eq_b3, eq_b4, eq_b5, iN_add, wp_some, wp_grd, wp_lb, wp_ite, wp_b1, wp_b2, wp_b3, wp_b4, wp_b5]
        exact same (by rw [hz]; intro h; exact h.1 rfl)
      · have st : sHo R E (sP R E g i s0).2 g i = true → wp (f_X7_strike_L38 n x7 xl (upo y.1 2 i (iN ((sP R E g i s0).2 i - lf E (sP R E g i s0).2 i (R 17 g)))) (iN 1) v4 (iN g) (iN (i + 1))) (fun r => St6 E x0 (sP R E g (eL E) s0) (r.2.2, r.1)) := by
          intro hh
          refine hk (upo y.1 2 i (iN ((sP R E g i s0).2 i - lf E (sP R E g i s0).2 i (R 17 g))), iN 1) hi' ?_
          rw [sP, s1, if_pos ⟨hz, ha, hh⟩]
          have e : lf E (sP R E g i s0).2 i (R 17 g) = lo ((sP R E g i s0).2 i) (fun k => decide (eT E i k = R 17 g)) := by rw [lf, if_pos hi']
          refine ⟨?_, ?_, rfl, ?_⟩
          · simp only [e]; exact (X6_out hR hE hL hi' _).2
          · exact LB_u hL (Nat.sub_le _ _)
          · intro k hk2; simp only [upo_ne hk2]; exact hf k hk2
        have so : f_X6_strikeOut y.1 (iN i) (iN (lf E (sP R E g i s0).2 i (R 17 g))) = some (upo y.1 2 i (iN ((sP R E g i s0).2 i - lf E (sP R E g i s0).2 i (R 17 g)))) := by
          have e : lf E (sP R E g i s0).2 i (R 17 g) = lo ((sP R E g i s0).2 i) (fun k => decide (eT E i k = R 17 g)) := by rw [lf, if_pos hi']
          rw [e]; exact (X6_out hR hE hL hi' _).1
        rcases r1 with ⟨ra, rb⟩ | ⟨ra, rb⟩
        · have hs : sHo R E (sP R E g i s0).2 g i = sSu R E (sP R E g i s0).2 g (iN i + R 18 g) := by rw [sHo, if_pos ra]
          rw [hs] at st same
          simp (disch := omega) only [f_X7_strike_J78, hz, if_false, rb, ↓nM_lit, iN_lit, iN_add, iN_mul, iN_lt, iN_le, iN_eq, iN_c, gd_iN, iN_nM, nM_iN, iN_ltM, nM_lt, nM_le, iN_leM, iN_0M, nM_p1, iN_0s1, decide_true, decide_eq_true_eq, Nat.not_lt_zero, if_true, if_false, eq_grd, eq_lb, eq_b1, eq_b2, eq_b3, eq_b4, eq_b5, wp_some, wp_grd, wp_lb, wp_ite, wp_b1, wp_b2, wp_b3, wp_b4, wp_b5, show ¬ (1 = 0) by decide, hg, X7_sure h7 hR hE hL hg hgn]
          cases hsu : sSu R E (sP R E g i s0).2 g (iN i + R 18 g) with
          | false =>
            simp (disch := omega) only [Bool.false_eq_true, if_false, ↓nM_lit, iN_lit, iN_add, iN_mul, iN_lt, iN_le, iN_eq, iN_c, gd_iN, iN_nM, nM_iN, iN_ltM, nM_lt, nM_le, iN_leM, iN_0M, nM_p1, iN_0s1, decide_true, decide_eq_true_eq, Nat.not_lt_zero, if_true, if_false, eq_grd, eq_lb, eq_b1, eq_b2, eq_b3, eq_b4, eq_b5, wp_some, wp_grd, wp_lb, wp_ite, wp_b1, wp_b2, wp_b3, wp_b4, wp_b5]
            exact same (by rw [hsu]; intro h; cases h.2.2)
          | true =>
            simp (disch := omega) only [if_true, ↓nM_lit, iN_lit, iN_add, iN_mul, iN_lt, iN_le, iN_eq, iN_c, gd_iN, iN_nM, nM_iN, iN_ltM, nM_lt, nM_le, iN_leM, iN_0M, nM_p1, iN_0s1, decide_true, decide_eq_true_eq, Nat.not_lt_zero, if_true, if_false, eq_grd, eq_lb, eq_b1, eq_b2, eq_b3, eq_b4, eq_b5, wp_some, wp_grd, wp_lb, wp_ite, wp_b1, wp_b2, wp_b3, wp_b4, wp_b5, so, show ¬ (1 = 0) by decide]
            exact st hsu
        · have hs : sHo R E (sP R E g i s0).2 g i = sGo R E (sP R E g i s0).2 g 6 (iN i + R 18 g) := by
            rw [sHo, if_neg]; rw [ra, iN_eq (by decide) (by decide)]; decide
          rw [hs] at st same
          simp (disch := omega) only [f_X7_strike_J78, hz, if_false, rb, ↓nM_lit, iN_lit, iN_add, iN_mul, iN_lt, iN_le, iN_eq, iN_c, gd_iN, iN_nM, nM_iN, iN_ltM, nM_lt, nM_le, iN_leM, iN_0M, nM_p1, iN_0s1, decide_true, decide_eq_true_eq, Nat.not_lt_zero, if_true, if_false, eq_grd, eq_lb, eq_b1, eq_b2, eq_b3, eq_b4, eq_b5, wp_some, wp_grd, wp_lb, wp_ite, wp_b1, wp_b2, wp_b3, wp_b4, wp_b5, show ¬ (1 = 0) by decide, hg, X7_holds h7 hR hE hL hg hgn]
          cases hsu : sGo R E (sP R E g i s0).2 g 6 (iN i + R 18 g) with
          | false =>
            simp (disch := omega) only [Bool.false_eq_true, if_false, ↓nM_lit, iN_lit, iN_add, iN_mul, iN_lt, iN_le, iN_eq, iN_c, gd_iN, iN_nM, nM_iN, iN_ltM, nM_lt, nM_le, iN_leM, iN_0M, nM_p1, iN_0s1, decide_true, decide_eq_true_eq, Nat.not_lt_zero, if_true, if_false, eq_grd, eq_lb, eq_b1, eq_b2, eq_b3, eq_b4, eq_b5, wp_some, wp_grd, wp_lb, wp_ite, wp_b1, wp_b2, wp_b3, wp_b4, wp_b5]
            exact same (by rw [hsu]; intro h; cases h.2.2)
          | true =>
            simp (disch := omega) only [if_true, ↓nM_lit, iN_lit, iN_add, iN_mul, iN_lt, iN_le, iN_eq, iN_c, gd_iN, iN_nM, nM_iN, iN_ltM, nM_lt, nM_le, iN_leM, iN_0M, nM_p1, iN_0s1, decide_true, decide_eq_true_eq, Nat.not_lt_zero, if_true, if_false, eq_grd, eq_lb, eq_b1, eq_b2, eq_b3, eq_b4, eq_b5, wp_some, wp_grd, wp_lb, wp_ite, wp_b1, wp_b2, wp_b3, wp_b4, wp_b5, so, show ¬ (1 = 0) by decide]
            exact st hsu
theorem X7_rules {x7 R xl x0 : Ob} {E : Ev} (h7 : QX7 x7 R) (hE : EvB E) (v4 : Int32) (s0 : Sk) (y0 : Ob × Int32) (h0 : St6 E x0 s0 y0) :
    wp (f_X7_strike_L26 200 x7 xl y0.1 y0.2 v4 (iN 0)) (fun r => St6 E x0 (sR R E (R 15 0).toNatClampNeg s0) (r.2.2, r.1)) := by
  obtain ⟨⟨a, ha, ea⟩, e0, -⟩ := id h7
  rw [ea, iN_c (by omega)]
  refine lp_up (F := fun n (y : Ob × Int32) i => f_X7_strike_L26 n x7 xl y.1 y.2 v4 i) (V := fun i y => St6 E x0 (sR R E i s0) y) (hi := a) ?_ 200 0 y0 (by omega) (by omega) h0
  intro n y i hi hv hk
  by_cases he : i = a
  · subst he
    simp (disch := omega) only [f_X7_strike_L26, e0, ea, ↓nM_lit, iN_lit, iN_add, iN_mul, iN_lt, iN_le, iN_eq, iN_c, gd_iN, iN_nM, nM_iN, iN_ltM, nM_lt, nM_le, iN_leM, iN_0M, nM_p1, iN_0s1, decide_true, decide_eq_true_eq, Nat.not_lt_zero, if_true, if_false, wp_some, wp_grd, wp_lb, wp_ite, wp_b1, wp_b2, wp_b3, wp_b4, wp_b5, Nat.le_refl]
    exact hv
  · simp (disch := omega) only [f_X7_strike_L26, e0, ea, ↓nM_lit, iN_lit, iN_add, iN_mul, iN_lt, iN_le, iN_eq, iN_c, gd_iN, iN_nM, nM_iN, iN_ltM, nM_lt, nM_le, iN_leM, iN_0M, nM_p1, iN_0s1, decide_true, decide_eq_true_eq, Nat.not_lt_zero, if_true, if_false, wp_some, wp_grd, wp_lb, wp_ite, wp_b1, wp_b2, wp_b3, wp_b4, wp_b5, show ¬ (a ≤ i) by omega]
    refine wp_mono (X7_places (xl := xl) h7 hE (show i < 8 by omega) (show i < nn (R 15 0) by rw [ea, nn, iN_c (by omega)]; omega) v4 _ y hv) ?_
    intro r hr
    exact hk (r.2.2, r.1) (by omega) hr
theorem X7_rounds {x7 R xl x0 : Ob} {E : Ev} (h7 : QX7 x7 R) (hE : EvB E) (d : Nat) : ∀ (n k : Nat) (L : Nat → Nat) (x : Ob), d + k = 25 → d < n → St6 E x0 (true, L) (x, iN 1) →
    wp (f_X7_strike_L10 n x7 xl x (iN 1) (iN k)) (fun r => RL6 r.2.2 E (sI R E d L) ∧ LB E (sI R E d L) ∧ ∀ k, k ≠ 2 → r.2.2 k = x0 k) := by
  induction d with
  | zero =>
    intro n k L x hd hn hs
    obtain ⟨n, rfl⟩ : ∃ m, n = m + 1 := ⟨n - 1, by omega⟩
    simp (disch := omega) only [f_X7_strike_L10, ↓nM_lit, iN_lit, iN_add, iN_mul, iN_lt, iN_le, iN_eq, iN_c, gd_iN, iN_nM, nM_iN, iN_ltM, nM_lt, nM_le, iN_leM, iN_0M, nM_p1, iN_0s1, decide_true, decide_eq_true_eq, Nat.not_lt_zero, if_true, if_false, wp_some, wp_grd, wp_lb, wp_ite, wp_b1, wp_b2, wp_b3, wp_b4, wp_b5, show ¬ (1 = 0) by decide, show 25 ≤ k by omega, sI]
    exact ⟨hs.1, hs.2.1, hs.2.2.2⟩
  | succ d ih =>
    intro n k L x hd hn hs
    obtain ⟨n, rfl⟩ : ∃ m, n = m + 1 := ⟨n - 1, by omega⟩
    simp (disch := omega) only [f_X7_strike_L10, ↓nM_lit, iN_lit, iN_add, iN_mul, iN_lt, iN_le, iN_eq, iN_c, gd_iN, iN_nM, nM_iN, iN_ltM, nM_lt, nM_le, iN_leM, iN_0M, nM_p1, iN_0s1, decide_true, decide_eq_true_eq, Nat.not_lt_zero, if_true, if_false, wp_some, wp_grd, wp_lb, wp_ite, wp_b1, wp_b2, wp_b3, wp_b4, wp_b5, show ¬ (1 = 0) by decide, show ¬ (25 ≤ k) by omega]
    refine wp_mono (X7_rules (xl := xl) h7 hE (iN k) (false, L) (x, iN 0) ⟨hs.1, hs.2.1, rfl, hs.2.2.2⟩) ?_
    intro r hr
    change St6 E x0 (rnd R E L) (r.2.2, r.1) at hr
    rw [sI]
    cases hg : (rnd R E L).1 with
    | true =>
      obtain ⟨h1, h2, h3, h4⟩ := hr
      rw [hg] at h3
      have h3' : r.1 = iN 1 := h3
      rw [h3']
      exact ih n (k + 1) _ _ (by omega) (by omega) ⟨h1, h2, rfl, h4⟩
    | false =>
      obtain ⟨h1, h2, h3, h4⟩ := hr
      rw [hg] at h3
      have h3' : r.1 = iN 0 := h3
      rw [h3']
      obtain ⟨n, rfl⟩ : ∃ m, n = m + 1 := ⟨n - 1, by omega⟩
      simp (disch := omega) only [f_X7_strike_L10, ↓nM_lit, iN_lit, iN_add, iN_mul, iN_lt, iN_le, iN_eq, iN_c, gd_iN, iN_nM, nM_iN, iN_ltM, nM_lt, nM_le, iN_leM, iN_0M, nM_p1, iN_0s1, decide_true, decide_eq_true_eq, Nat.not_lt_zero, if_true, if_false, wp_some, wp_grd, wp_lb, wp_ite, wp_b1, wp_b2, wp_b3, wp_b4, wp_b5, Bool.false_eq_true]
      exact ⟨h1, h2, h4⟩
