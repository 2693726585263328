/-! The law strikes. -/
/-- a sentence in the middle of striking: the row l -/
def SL (M : Ob) (s : Nat) (l0 : Rw) (st : Sk) (y : Rw × Int32) : Prop := RLl y.1 M s st.2 ∧ LB (evS M s) st.2 ∧ y.2 = bI st.1 ∧ ∀ i, (i < 3 * s ∨ 3 * s + evn M s ≤ i) → y.1 i = l0 i
theorem lo_xor {l : Nat} (hl : l < 16) (b : Nat → Bool) : iN l ^^^ iN (lo l b) = iN (l - lo l b) :=
  of_decide_eq_true (lo_all (P := fun l s => decide (iN l ^^^ iN s = iN (l - s))) (by decide) hl b)
theorem upd_same (f : Rw) (i : Nat) : upd f i (f i) = f := by
  funext j; rw [upd_ap]; by_cases h : j = i <;> simp [h]
theorem bI_1 (b : Bool) : (bI b = iN 0) ↔ b = false := by cases b <;> simp [bI] <;> decide
theorem L_places {c w u x l0 t : Rw} {M R : Ob} {s : Nat} (hT : TSr c t R) (h : LW0 c w u x M) (hs : s < 2) {g : Nat} (hg : g < nn (R 15 0)) (s0 : Sk) (y0 : Rw × Int32) (h0 : SL M s l0 s0 y0) :
    wp (f_L_strikes_L74 400 c w u x y0.1 t (iN s) y0.2 (iN g) (iN 0)) (fun r => SL M s l0 (sP R (evS M s) g (evn M s) s0) (r.2.2, r.1)) := by
  obtain ⟨-, h4, hT'⟩ := id hT
  obtain ⟨-, t1, -, -, -, -⟩ := hT' g hg
  have hE := LW_E h hs
  obtain ⟨n3, c8, -, -⟩ := LX_t h.2.2.2 hs
  refine lp_up (F := fun f (y : Rw × Int32) i => f_L_strikes_L74 f c w u x y.1 t (iN s) y.2 (iN g) i) (V := fun i y => SL M s l0 (sP R (evS M s) g i s0) y) (hi := evn M s) ?_ 400 0 y0 (by omega) (by omega) h0
  intro f y i hi hv hk
  obtain ⟨hl, hL, hb, ho⟩ := id hv
  by_cases he : i = evn M s
  · subst he
    simp (disch := omega) only [f_L_strikes_L74, c8, show 8 + s < 12 by omega, ↓nM_lit, iN_lit, iN_add, iN_mul, iN_lt, iN_le, iN_eq, iN_c, gd_iN, iN_nM, nM_iN, iN_ltM, nM_lt, nM_le, iN_leM, iN_0M, nM_p1, iN_0s1, decide_true, decide_eq_true_eq, Nat.not_lt_zero, if_true, if_false, wp_some, wp_grd, wp_lb, wp_ite, wp_b1, wp_b2, wp_b3, wp_b4, wp_b5, Nat.le_refl, true_and]
    exact hv
  · have hi' : i < evn M s := by omega
    have hi2 : i < eL (evS M s) := by rw [evS_L]; exact hi'
    have hlt := lf_lt hE hL hi2 (R 17 g)
    have h16 := LB16 hE hL hi2
    have el := hl i hi'
    have e : lf (evS M s) (sP R (evS M s) g i s0).2 i (R 17 g) = lo ((sP R (evS M s) g i s0).2 i) (fun k => decide (eT (evS M s) i k = R 17 g)) := by rw [lf, if_pos hi2]
    have hle : lf (evS M s) (sP R (evS M s) g i s0).2 i (R 17 g) ≤ (sP R (evS M s) g i s0).2 i := by rw [e]; exact lo_le h16 _
    have same : (¬ (lf (evS M s) (sP R (evS M s) g i s0).2 i (R 17 g) ≠ 0 ∧ lf (evS M s) (sP R (evS M s) g i s0).2 i (R 17 g) ≠ (sP R (evS M s) g i s0).2 i ∧ sHo R (evS M s) (sP R (evS M s) g i s0).2 g i = true)) → wp (f_L_strikes_L74 f c w u x y.1 t (iN s) y.2 (iN g) (iN (i + 1))) (fun r => SL M s l0 (sP R (evS M s) g (evn M s) s0) (r.2.2, r.1)) := by
      intro hh
      refine hk y hi' ?_
      rw [sP, s1, if_neg hh]
      exact hv
    have J0 : ∀ v11 : Int32, f_L_strikes_J156 c w u x y.1 t (iN s) y.2 (iN g) (iN i) (iN (3 * s + i)) v11 (iN 0) = some (0, y.2, iN (i + 1), y.1) := by
      intro v11
      have ex : y.1 (3 * s + i) ^^^ iN 0 = y.1 (3 * s + i) := Int32.xor_zero
      have hb01 : y.2 = iN 0 ∨ y.2 = iN 1 := by rw [hb]; unfold bI; split <;> simp
      rcases hb01 with hb0 | hb0
      · simp (disch := omega) only [f_L_strikes_J156, ↓nM_lit, iN_lit, iN_add, iN_mul, iN_lt, iN_le, iN_eq, iN_c, gd_iN, iN_nM, nM_iN, iN_ltM, nM_lt, nM_le, iN_leM, iN_0M, nM_p1, iN_0s1, decide_true, decide_eq_true_eq, Nat.not_lt_zero, if_true, if_false, eq_grd, eq_lb, eq_b1, eq_b2, eq_b3, eq_b4, eq_b5, show 3 * s + i < 6 by omega, ex, upd_same, hb0]
      · simp (disch := omega) only [f_L_strikes_J156, ↓nM_lit, iN_lit, iN_add, iN_mul, iN_lt, iN_le, iN_eq, iN_c, gd_iN, iN_nM, nM_iN, iN_ltM, nM_lt, nM_le, iN_leM, iN_0M, nM_p1, iN_0s1, decide_true, decide_eq_true_eq, Nat.not_lt_zero, if_true, if_false, eq_grd, eq_lb, eq_b1, eq_b2, eq_b3, eq_b4, eq_b5, show 3 * s + i < 6 by omega, ex, upd_same, hb0, show ¬ (1 = 0) by decide]
    simp (disch := omega) only [f_L_strikes_L74, c8, ↓nM_lit, iN_lit, iN_add, iN_mul, iN_lt, iN_le, iN_eq, iN_c, gd_iN, iN_nM, nM_iN, iN_ltM, nM_lt, nM_le, iN_leM, iN_0M, nM_p1, iN_0s1, decide_true, decide_eq_true_eq, Nat.not_lt_zero, if_true, if_false, wp_some, wp_grd, wp_lb, wp_ite, wp_b1, wp_b2, wp_b3, wp_b4, wp_b5, eq_grd, eq_lb, eq_b1, eq_b2, eq_b3, eq_b4, eq_b5, show 8 + s < 12 by omega, show ¬ (evn M s ≤ i) by omega, show 5 * g + 1 < 20 by omega, t1, L_left h hs hl hL hi', show 3 * s + i < 6 by omega, el, L_holds hT h hs hl hL hg hi', true_and, Nat.le_zero, f_L_strikes_J155, J0]
    by_cases hz : lf (evS M s) (sP R (evS M s) g i s0).2 i (R 17 g) = 0
    · simp only [hz, if_true]
      exact same (by rw [hz]; intro h; exact h.1 rfl)
    · simp only [hz, if_false]
      by_cases ha : (sP R (evS M s) g i s0).2 i ≤ lf (evS M s) (sP R (evS M s) g i s0).2 i (R 17 g)
      · simp only [ha, if_true]
        exact same (by intro h; exact h.2.1 (by omega))
      · simp only [ha, if_false]
        cases hh : sHo R (evS M s) (sP R (evS M s) g i s0).2 g i with
        | false =>
          simp (disch := omega) only [Bool.false_eq_true, ↓nM_lit, iN_lit, iN_add, iN_mul, iN_lt, iN_le, iN_eq, iN_c, gd_iN, iN_nM, nM_iN, iN_ltM, nM_lt, nM_le, iN_leM, iN_0M, nM_p1, iN_0s1, decide_true, decide_eq_true_eq, Nat.not_lt_zero, if_true, if_false]
          exact same (by rw [hh]; intro h; cases h.2.2)
        | true =>
          have ex : iN ((sP R (evS M s) g i s0).2 i) ^^^ iN (lf (evS M s) (sP R (evS M s) g i s0).2 i (R 17 g)) = iN ((sP R (evS M s) g i s0).2 i - lf (evS M s) (sP R (evS M s) g i s0).2 i (R 17 g)) := by rw [e]; exact lo_xor h16 _
          have hb01 : y.2 = iN 0 ∨ y.2 = iN 1 := by rw [hb]; unfold bI; split <;> simp
          have J1 : f_L_strikes_J156 c w u x y.1 t (iN s) y.2 (iN g) (iN i) (iN (3 * s + i)) (iN (lf (evS M s) (sP R (evS M s) g i s0).2 i (R 17 g))) (iN 1) = some (0, iN 1, iN (i + 1), upd y.1 (3 * s + i) (iN ((sP R (evS M s) g i s0).2 i - lf (evS M s) (sP R (evS M s) g i s0).2 i (R 17 g)))) := by
            rcases hb01 with hb0 | hb0
            · simp (disch := omega) only [f_L_strikes_J156, ↓nM_lit, iN_lit, iN_add, iN_mul, iN_lt, iN_le, iN_eq, iN_c, gd_iN, iN_nM, nM_iN, iN_ltM, nM_lt, nM_le, iN_leM, iN_0M, nM_p1, iN_0s1, decide_true, decide_eq_true_eq, Nat.not_lt_zero, if_true, if_false, eq_grd, eq_lb, eq_b1, eq_b2, eq_b3, eq_b4, eq_b5, show 3 * s + i < 6 by omega, el, ex, hb0, show ¬ (1 = 0) by decide]
            · simp (disch := omega) only [f_L_strikes_J156, ↓nM_lit, iN_lit, iN_add, iN_mul, iN_lt, iN_le, iN_eq, iN_c, gd_iN, iN_nM, nM_iN, iN_ltM, nM_lt, nM_le, iN_leM, iN_0M, nM_p1, iN_0s1, decide_true, decide_eq_true_eq, Nat.not_lt_zero, if_true, if_false, eq_grd, eq_lb, eq_b1, eq_b2, eq_b3, eq_b4, eq_b5, show 3 * s + i < 6 by omega, el, ex, hb0, show ¬ (1 = 0) by decide]
          simp (disch := omega) only [↓nM_lit, iN_lit, iN_add, iN_mul, iN_lt, iN_le, iN_eq, iN_c, gd_iN, iN_nM, nM_iN, iN_ltM, nM_lt, nM_le, iN_leM, iN_0M, nM_p1, iN_0s1, decide_true, decide_eq_true_eq, Nat.not_lt_zero, if_true, if_false, show ¬ (1 = 0) by decide, J1, eq_grd, eq_lb, eq_b1, eq_b2, eq_b3, eq_b4, eq_b5, wp_some, wp_grd, wp_lb, wp_ite, wp_b1, wp_b2, wp_b3, wp_b4, wp_b5]
          refine hk (upd y.1 (3 * s + i) (iN ((sP R (evS M s) g i s0).2 i - lf (evS M s) (sP R (evS M s) g i s0).2 i (R 17 g))), iN 1) hi' ?_
          rw [sP, s1, if_pos ⟨hz, by omega, hh⟩]
          refine ⟨?_, LB_u hL (Nat.sub_le _ _), rfl, ?_⟩
          · intro p hp
            by_cases e : p = i
            · subst e; simp only [upd_ap, uN, if_true]
            · simp only [upd_ap, uN, e, show ¬ (3 * s + p = 3 * s + i) by omega, if_false]; exact hl p hp
          · intro j hj
            simp only [upd_ap, show ¬ (j = 3 * s + i) by omega, if_false]; exact ho j hj
theorem L_rules {c w u x l0 t : Rw} {M R : Ob} {s : Nat} (hT : TSr c t R) (h : LW0 c w u x M) (hs : s < 2) (s0 : Sk) (y0 : Rw × Int32) (h0 : SL M s l0 s0 y0) :
    wp (f_L_strikes_L63 400 c w u x y0.1 t (iN s) y0.2 (iN 0)) (fun r => SL M s l0 (sR R (evS M s) (R 15 0).toNatClampNeg s0) (r.2.2, r.1)) := by
  obtain ⟨c1, h4, -⟩ := id hT
  change wp _ (fun (r : Int32 × Int32 × Rw) => SL M s l0 (sR R (evS M s) (nn (R 15 0)) s0) (r.2.2, r.1))
  generalize hN : nn (R 15 0) = a at *
  refine lp_up (F := fun f (y : Rw × Int32) i => f_L_strikes_L63 f c w u x y.1 t (iN s) y.2 i) (V := fun i y => SL M s l0 (sR R (evS M s) i s0) y) (hi := a) ?_ 400 0 y0 (by omega) (by omega) h0
  intro f y i hi hv hk
  by_cases he : i = a
  · subst he
    simp (disch := omega) only [f_L_strikes_L63, c1, ↓nM_lit, iN_lit, iN_add, iN_mul, iN_lt, iN_le, iN_eq, iN_c, gd_iN, iN_nM, nM_iN, iN_ltM, nM_lt, nM_le, iN_leM, iN_0M, nM_p1, iN_0s1, decide_true, decide_eq_true_eq, Nat.not_lt_zero, if_true, if_false, wp_some, wp_grd, wp_lb, wp_ite, wp_b1, wp_b2, wp_b3, wp_b4, wp_b5, Nat.le_refl]
    exact hv
  · simp (disch := omega) only [f_L_strikes_L63, c1, ↓nM_lit, iN_lit, iN_add, iN_mul, iN_lt, iN_le, iN_eq, iN_c, gd_iN, iN_nM, nM_iN, iN_ltM, nM_lt, nM_le, iN_leM, iN_0M, nM_p1, iN_0s1, decide_true, decide_eq_true_eq, Nat.not_lt_zero, if_true, if_false, wp_some, wp_grd, wp_lb, wp_ite, wp_b1, wp_b2, wp_b3, wp_b4, wp_b5, show ¬ (a ≤ i) by omega]
    refine wp_mono (L_places hT h hs (show i < nn (R 15 0) by omega) _ y hv) ?_
    intro r hr
    exact hk (r.2.2, r.1) (by omega) hr
theorem L_rounds {c w u x l0 t : Rw} {M R : Ob} {s : Nat} (hT : TSr c t R) (h : LW0 c w u x M) (hs : s < 2) (d : Nat) : ∀ (f : Nat) (L : Nat → Nat) (l : Rw), pcs (evn M s) L < d → d < f → SL M s l0 (true, L) (l, iN 1) →
    wp (f_L_strikes_L52 f c w u x l t (iN s) (iN 1)) (fun r => SL M s l0 (true, sI R (evS M s) d L) (r.2, iN 1)) := by
  have hE := LW_E h hs
  induction d with
  | zero => intro f L l h; omega
  | succ d ih =>
    intro f L l hp hf hS
    obtain ⟨f, rfl⟩ : ∃ m, f = m + 1 := ⟨f - 1, by omega⟩
    simp (disch := omega) only [f_L_strikes_L52, ↓nM_lit, iN_lit, iN_add, iN_mul, iN_lt, iN_le, iN_eq, iN_c, gd_iN, iN_nM, nM_iN, iN_ltM, nM_lt, nM_le, iN_leM, iN_0M, nM_p1, iN_0s1, decide_true, decide_eq_true_eq, Nat.not_lt_zero, if_true, if_false, wp_some, wp_grd, wp_lb, wp_ite, wp_b1, wp_b2, wp_b3, wp_b4, wp_b5, show ¬ (1 = 0) by decide]
    refine wp_mono (L_rules hT h hs (false, L) (l, iN 0) ⟨hS.1, hS.2.1, rfl, hS.2.2.2⟩) ?_
    intro r hr
    change SL M s l0 (rnd R (evS M s) L) (r.2.2, r.1) at hr
    have hpc := rnd_pc (R := R) (L := L) hE hS.2.1
    rw [evS_L] at hpc
    obtain ⟨h1, h2, h3, h4⟩ := hr
    rw [sI]
    cases hg : (rnd R (evS M s) L).1 with
    | true =>
      rw [hg] at h3
      have h3' : r.1 = iN 1 := h3
      rw [h3']
      have := hpc.1 hg
      exact ih f _ _ (by omega) (by omega) ⟨h1, h2, rfl, h4⟩
    | false =>
      rw [hg] at h3
      have h3' : r.1 = iN 0 := h3
      rw [h3']
      obtain ⟨f, rfl⟩ : ∃ m, f = m + 1 := ⟨f - 1, by omega⟩
      simp (disch := omega) only [f_L_strikes_L52, ↓nM_lit, iN_lit, iN_add, iN_mul, iN_lt, iN_le, iN_eq, iN_c, gd_iN, iN_nM, nM_iN, iN_ltM, nM_lt, nM_le, iN_leM, iN_0M, nM_p1, iN_0s1, decide_true, decide_eq_true_eq, Nat.not_lt_zero, if_true, if_false, wp_some, wp_grd, wp_lb, wp_ite, wp_b1, wp_b2, wp_b3, wp_b4, wp_b5, Bool.false_eq_true]
      exact ⟨h1, h2, rfl, h4⟩
theorem L_strikes {c w u x l t : Rw} {M R : Ob} {s : Nat} (hT : TSr c t R) (h : LW0 c w u x M) (hs : s < 2) :
    wp (f_L_strikes c w u x l t (iN s)) (fun y => RLl y M s (stk R (evS M s)) ∧ ∀ i, (i < 3 * s ∨ 3 * s + evn M s ≤ i) → y i = l i) := by
  have hE := LW_E h hs
  obtain ⟨n3, c8, -, -⟩ := LX_t h.2.2.2 hs
  rw [f_L_strikes]
  simp (disch := omega) only [wp_some, wp_grd, wp_lb, wp_ite, wp_b1, wp_b2, wp_b3, wp_b4, wp_b5, ↓nM_lit, iN_lit, iN_add, iN_mul, iN_lt, iN_le, iN_eq, iN_c, gd_iN, iN_nM, nM_iN, iN_ltM, nM_lt, nM_le, iN_leM, iN_0M, nM_p1, iN_0s1, decide_true, decide_eq_true_eq, Nat.not_lt_zero, if_true, if_false]
  have key : wp (f_L_strikes_L3 400 c w u x l t (iN s) (iN 0)) (fun r => (∀ p, p < evn M s → r.2 (3 * s + p) = iN (l0 (evS M s) p)) ∧ ∀ i, (i < 3 * s ∨ 3 * s + evn M s ≤ i) → r.2 i = l i) := by
    refine lp_up (F := fun f (y : Rw) i => f_L_strikes_L3 f c w u x y t (iN s) i) (V := fun q y => (∀ p, p < q → y (3 * s + p) = iN (l0 (evS M s) p)) ∧ ∀ i, (i < 3 * s ∨ 3 * s + evn M s ≤ i) → y i = l i) (hi := evn M s) ?_ 400 0 l (by omega) (by omega) ⟨fun j hj => absurd hj (Nat.not_lt_zero j), fun _ _ => rfl⟩
    intro f y i hi hv hk
    by_cases he : i = evn M s
    · subst he
      simp (disch := omega) only [f_L_strikes_L3, c8, ↓nM_lit, iN_lit, iN_add, iN_mul, iN_lt, iN_le, iN_eq, iN_c, gd_iN, iN_nM, nM_iN, iN_ltM, nM_lt, nM_le, iN_leM, iN_0M, nM_p1, iN_0s1, decide_true, decide_eq_true_eq, Nat.not_lt_zero, if_true, if_false, wp_some, wp_grd, wp_lb, wp_ite, wp_b1, wp_b2, wp_b3, wp_b4, wp_b5, Nat.le_refl, show 8 + s < 12 by omega, true_and]
      exact hv
    · have hi' : i < evn M s := by omega
      obtain ⟨ex, -, ec, c2, -⟩ := LW_at h hs hi'
      simp (disch := omega) only [f_L_strikes_L3, c8, ex, ec, show ¬ (evn M s ≤ i) by omega, show 8 + s < 12 by omega, show 3 * s + i < 6 by omega, ↓nM_lit, iN_lit, iN_add, iN_mul, iN_lt, iN_le, iN_eq, iN_c, gd_iN, iN_nM, nM_iN, iN_ltM, nM_lt, nM_le, iN_leM, iN_0M, nM_p1, iN_0s1, decide_true, decide_eq_true_eq, Nat.not_lt_zero, if_true, if_false, wp_some, wp_grd, wp_lb, wp_ite, wp_b1, wp_b2, wp_b3, wp_b4, wp_b5, eq_grd, eq_lb, eq_b1, eq_b2, eq_b3, eq_b4, eq_b5, true_and, bit_full (show eC (evS M s) i ≤ 4 by omega)]
      refine hk _ hi' ⟨?_, ?_⟩
      · intro p hp
        by_cases e : p = i
        · subst e; rw [upd_eq, l0]
        · rw [upd_ne (by omega)]; exact hv.1 p (by omega)
      · intro j hj; rw [upd_ne (by omega)]; exact hv.2 j hj
  refine wp_mono key ?_
  intro r hr
  obtain ⟨f2, f3⟩ := hr
  have hp : pcs (evn M s) (l0 (evS M s)) < 25 := by
    have := pcs_le (evn M s) (l0 (evS M s)) (fun p hp => LB16 hE (l0_LB _) (by rw [evS_L]; exact hp))
    omega
  refine wp_mono (L_rounds (R := R) (l0 := l) hT h hs 25 400 (l0 (evS M s)) r.2 hp (by omega) ⟨f2, l0_LB _, rfl, f3⟩) ?_
  intro q hq
  exact ⟨hq.1, hq.2.2.2⟩
