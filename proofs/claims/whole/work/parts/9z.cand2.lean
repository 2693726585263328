/-! The word that could mend: by the class. -/
theorem X3_low {x M : Ob} (hx : QX3 x M) (hm : WLex M) (lem cat : Int32) {P : Nat} (hP : P < 64) : f_X3_lowestTold x lem cat (iN P) = some (match fw (hitW M lem cat P) (nn (M 0 0)) with | none => nM | some w => iN w) := by
  obtain ⟨x0, x1, -, x3, -⟩ := hx
  have hm' := hm
  obtain ⟨⟨nw, hnw, enw⟩, -, h2, -, h5, -⟩ := hm
  have en : nn (M 0 0) = nw := by rw [enw, nn, iN_c (by omega)]
  rw [en]
  have k0 : x 0 0 = iN nw := by rw [x0, enw]
  refine wp_eq ?_
  rw [f_X3_lowestTold]
  simp only [wp_some, wp_grd, wp_lb, wp_ite, wp_b1, wp_b2, wp_b3, wp_b4, wp_b5]
  have key : wp (f_X3_lowestTold_L3 200 x lem cat (iN P) (iN 0)) (fun q => (q.1 = 1 ∧ fw (hitW M lem cat P) nw = none) ∨ (q.1 = 2 ∧ ∃ w, q.2 = iN w ∧ fw (hitW M lem cat P) nw = some w)) := by
    refine lp_up (F := fun f (_ : Unit) j => f_X3_lowestTold_L3 f x lem cat (iN P) j) (V := fun w _ => fw (hitW M lem cat P) w = none) (hi := nw) ?_ 200 0 () (by omega) (by omega) rfl
    rintro f - w hw hv hk
    by_cases he : w = nw
    · subst he
      simp (disch := omega) only [f_X3_lowestTold_L3, k0, ↓nM_lit, iN_lit, iN_add, iN_mul, iN_lt, iN_le, iN_eq, iN_c, gd_iN, iN_nM, nM_iN, iN_ltM, nM_lt, nM_le, iN_leM, iN_0M, nM_p1, iN_0s1, decide_true, decide_eq_true_eq, Nat.not_lt_zero, if_true, if_false, wp_some, wp_grd, wp_lb, wp_ite, wp_b1, wp_b2, wp_b3, wp_b4, wp_b5, Nat.le_refl]
      exact Or.inl ⟨trivial, hv⟩
    · have hw' : w < nw := by omega
      obtain ⟨b, hb, eb⟩ := h2 w (by omega)
      have eb' : x 2 w = iN b := by rw [(x1 w (by omega)).2, eb]
      have ebn : nn (M 2 w) = b := by rw [eb, nn, iN_c (by omega)]
      simp (disch := omega) only [f_X3_lowestTold_L3, k0, ↓nM_lit, iN_lit, iN_add, iN_mul, iN_lt, iN_le, iN_eq, iN_c, gd_iN, iN_nM, nM_iN, iN_ltM, nM_lt, nM_le, iN_leM, iN_0M, nM_p1, iN_0s1, decide_true, decide_eq_true_eq, Nat.not_lt_zero, if_true, if_false, wp_some, wp_grd, wp_lb, wp_ite, wp_b1, wp_b2, wp_b3, wp_b4, wp_b5, show ¬ (nw ≤ w) by omega]
      have inner : wp (f_X3_lowestTold_L15 200 x lem cat (iN P) (iN w) (iN 0)) (fun q => (q.1 = 1 ∧ hitW M lem cat P w = false) ∨ (q.1 = 2 ∧ hitW M lem cat P w = true)) := by
        refine lp_up (F := fun f (_ : Unit) j => f_X3_lowestTold_L15 f x lem cat (iN P) (iN w) j) (V := fun r _ => hitL M lem cat P w r = false) (hi := b) ?_ 200 0 () (by omega) (by omega) rfl
        rintro f - r hr hv hk
        by_cases he : r = b
        · subst he
          simp (disch := omega) only [f_X3_lowestTold_L15, eb', ↓nM_lit, iN_lit, iN_add, iN_mul, iN_lt, iN_le, iN_eq, iN_c, gd_iN, iN_nM, nM_iN, iN_ltM, nM_lt, nM_le, iN_leM, iN_0M, nM_p1, iN_0s1, decide_true, decide_eq_true_eq, Nat.not_lt_zero, if_true, if_false, wp_some, wp_grd, wp_lb, wp_ite, wp_b1, wp_b2, wp_b3, wp_b4, wp_b5, show w < 50 by omega, Nat.le_refl]
          exact ⟨trivial, Or.inl ⟨trivial, by rw [hitW, ebn]; exact hv⟩⟩
        · have hr' : r < b := by omega
          obtain ⟨e3, e4, e5⟩ := x3 (w * 4 + r) (by omega)
          rw [show w * 4 + r = 4 * w + r by omega] at e3 e4 e5
          rw [show 3 * (4 * w + r) = 12 * w + 3 * r by omega] at e5
          have hb' : ∀ i, i < 3 → nn (M 5 (12 * w + 3 * r + i)) ≤ 3 := by
            intro i hi
            obtain ⟨a, ha, ea⟩ := h5 (12 * w + 3 * r + i) (by omega)
            rw [ea, nn, iN_c (by omega)]; exact ha
          have hpk := pk3_lt (hb' 0 (by omega)) (hb' 1 (by omega)) (hb' 2 (by omega))
          rw [Nat.add_zero] at hpk
          have ew : w * 4 + r = 4 * w + r := by omega
          have nxt : hitR M lem cat P w r = false → wp (f_X3_lowestTold_L15 f x lem cat (iN P) (iN w) (iN (r + 1))) (fun q => (q.1 = 1 ∧ hitW M lem cat P w = false) ∨ (q.1 = 2 ∧ hitW M lem cat P w = true)) := fun h => hk () hr' (by rw [hitL, hv, h]; rfl)
          generalize hpe : pk3 (nn (M 5 (12 * w + 3 * r))) (nn (M 5 (12 * w + 3 * r + 1))) (nn (M 5 (12 * w + 3 * r + 2))) = pk at *
          simp (disch := omega) only [f_X3_lowestTold_L15, eb', ↓nM_lit, iN_lit, iN_add, iN_mul, iN_lt, iN_le, iN_eq, iN_c, gd_iN, iN_nM, nM_iN, iN_ltM, nM_lt, nM_le, iN_leM, iN_0M, nM_p1, iN_0s1, decide_true, decide_eq_true_eq, Nat.not_lt_zero, if_true, if_false, wp_some, wp_grd, wp_lb, wp_ite, wp_b1, wp_b2, wp_b3, wp_b4, wp_b5, eq_grd, eq_lb, eq_b1, eq_b2, eq_b3, eq_b4, eq_b5, show w < 50 by omega, show ¬ (b ≤ r) by omega, ew, show 4 * w + r < 200 by omega, e3, e4, e5, true_and]
          by_cases c1 : M 3 (4 * w + r) = lem
          · rw [if_pos c1]
            by_cases c2 : M 4 (4 * w + r) = cat
            · rw [if_pos c2]
              by_cases c3 : pk = P
              · rw [if_pos c3]
                have := hitL_up (M := M) (lem := lem) (cat := cat) (P := P) (w := w) (r := r) (by unfold hitR; rw [hpe, decide_eq_true c1, decide_eq_true c2, decide_eq_true c3]; rfl) (b - (r + 1))
                rw [show r + 1 + (b - (r + 1)) = b by omega] at this
                rw [hitW, ebn]; exact Or.inr this
              · rw [if_neg c3]
                exact nxt (by unfold hitR; rw [hpe, decide_eq_false c3, Bool.and_false])
            · rw [if_neg c2]
              exact nxt (by unfold hitR; rw [decide_eq_false c2, Bool.and_false, Bool.false_and])
          · rw [if_neg c1]
            exact nxt (by unfold hitR; rw [decide_eq_false c1, Bool.false_and, Bool.false_and])
      refine wp_mono inner ?_
      rintro ⟨q1, q2⟩ (⟨a1, a2⟩ | ⟨a1, a2⟩)
      · simp only at a1 ⊢
        rw [if_pos a1]
        exact hk () hw' (fw_no hv a2)
      · simp only at a1 ⊢
        rw [if_neg (by rw [a1]; decide)]
        exact Or.inr ⟨trivial, w, rfl, fw_hit hw' hv a2⟩
  refine wp_mono key ?_
  rintro ⟨q1, q2⟩ (⟨a1, a2⟩ | ⟨a1, w, a2, a3⟩)
  · simp only at a1 ⊢
    rw [if_pos a1, a2]; rfl
  · simp only at a1 a2 ⊢
    rw [if_neg (by rw [a1]; decide), a3]; exact a2
theorem X3_lem {x M : Ob} (hx : QX3 x M) (hm : WLex M) {w k : Nat} (hw : w < nn (M 0 0)) (hk : k < cnM M w) : f_X3_lemmaOf x (iN w) (iN k) = some (lmM M w k) := by
  obtain ⟨r1, r2⟩ := X3_row hx hm hw
  have h40 : w < 40 := Nat.lt_of_lt_of_le hw (WLex_nw hm)
  have h4 := cnM_le hm h40
  obtain ⟨-, -, -, x3, -⟩ := hx
  rw [f_X3_lemmaOf, r1]
  unfold rwM at r2 ⊢
  unfold lmM
  by_cases h0 : nn (M 2 w) = 0
  · rw [if_pos h0, if_pos h0]
    have : ¬ (iN (40 + nn (M 1 w)) = iN w) := by
      obtain ⟨a, ha, ea⟩ := hm.2.1 w h40
      rw [ea, nn, iN_c (by omega), iN_eq (by omega) (by omega)]; omega
    simp only [eq_grd, eq_lb, eq_b1, eq_b2, eq_b3, eq_b4, eq_b5, this, if_false, iN_lit, iN_add]
  · rw [if_neg h0] at r2 ⊢
    rw [if_neg h0]
    simp (disch := omega) only [eq_grd, eq_lb, eq_b1, eq_b2, eq_b3, eq_b4, eq_b5, ↓nM_lit, iN_lit, iN_add, iN_mul, iN_lt, iN_le, iN_eq, iN_c, gd_iN, iN_nM, nM_iN, iN_ltM, nM_lt, nM_le, iN_leM, iN_0M, nM_p1, iN_0s1, decide_true, decide_eq_true_eq, Nat.not_lt_zero, if_true, if_false, if_true, r2, show ¬ (cnM M w ≤ k) by omega, show w * 4 + k < 200 by omega, (x3 (w * 4 + k) (by omega)).1]
    rw [show w * 4 + k = 4 * w + k by omega]
theorem X2_eq {x G : Ob} (hx : QX2 x G) (hG : WGr G) {g e : Nat} (hg : g < nn (G 21 0)) (he : e < nn (G 26 g)) : f_X2_oneOf x (iN g) (iN e) = some (G 28 (3 * g + e)) ∧ f_X2_otherOf x (iN g) (iN e) = some (G 29 (3 * g + e)) ∧ f_X2_featureOf x (iN g) (iN e) = some (G 27 (3 * g + e)) := by
  have hn := ng_le hG
  have he0 := ng_e hG
  obtain ⟨x0, x1, x8⟩ := hx
  obtain ⟨-, -, -, -, x7⟩ := x1 g (by omega)
  obtain ⟨-, -, -, k, hk, ek, -⟩ := hG.2 g hg
  have ekn : nn (G 26 g) = k := by rw [ek, nn, iN_c (by omega)]
  rw [ekn] at he
  have k0 : x 0 0 = iN (nn (G 21 0)) := by rw [x0]; exact he0
  have k7 : x 7 g = iN k := by rw [x7, ek]
  obtain ⟨a8, a9, a10, -⟩ := x8 (g * 3 + e) (by omega)
  have es : f_X2_slotOf x (iN g) (iN e) = some (iN (g * 3 + e)) := by
    have hr : f_X2_hasRule x (iN g) = some (iN 1) := by
      simp (disch := omega) only [f_X2_hasRule, k0, ↓nM_lit, iN_lit, iN_add, iN_mul, iN_lt, iN_le, iN_eq, iN_c, gd_iN, iN_nM, nM_iN, iN_ltM, nM_lt, nM_le, iN_leM, iN_0M, nM_p1, iN_0s1, decide_true, decide_eq_true_eq, Nat.not_lt_zero, if_true, if_false, show ¬ (nn (G 21 0) ≤ g) by omega, if_false]
    simp (disch := omega) only [f_X2_slotOf, f_X2_slotOf_J26, hr, eq_grd, eq_lb, eq_b1, eq_b2, eq_b3, eq_b4, eq_b5, ↓nM_lit, iN_lit, iN_add, iN_mul, iN_lt, iN_le, iN_eq, iN_c, gd_iN, iN_nM, nM_iN, iN_ltM, nM_lt, nM_le, iN_leM, iN_0M, nM_p1, iN_0s1, decide_true, decide_eq_true_eq, Nat.not_lt_zero, if_true, if_false, show ¬ (1 = 0) by decide, if_false, show g < 16 by omega, k7, show ¬ (k ≤ e) by omega]
  have ec : g * 3 + e = 3 * g + e := by omega
  rw [ec] at es a8 a9 a10
  have ib := isB_y (show 3 * g + e < 48 by omega) (show 48 < 2147483648 by decide)
  refine ⟨?_, ?_, ?_⟩
  · simp (disch := omega) only [f_X2_oneOf, es, eq_grd, eq_lb, eq_b1, eq_b2, eq_b3, eq_b4, eq_b5, iN_lit, ib, ↓nM_lit, iN_lit, iN_add, iN_mul, iN_lt, iN_le, iN_eq, iN_c, gd_iN, iN_nM, nM_iN, iN_ltM, nM_lt, nM_le, iN_leM, iN_0M, nM_p1, iN_0s1, decide_true, decide_eq_true_eq, Nat.not_lt_zero, if_true, if_false, show ¬ (1 = 0) by decide, if_false, show 3 * g + e < 48 by omega, a9]
  · simp (disch := omega) only [f_X2_otherOf, es, eq_grd, eq_lb, eq_b1, eq_b2, eq_b3, eq_b4, eq_b5, iN_lit, ib, ↓nM_lit, iN_lit, iN_add, iN_mul, iN_lt, iN_le, iN_eq, iN_c, gd_iN, iN_nM, nM_iN, iN_ltM, nM_lt, nM_le, iN_leM, iN_0M, nM_p1, iN_0s1, decide_true, decide_eq_true_eq, Nat.not_lt_zero, if_true, if_false, show ¬ (1 = 0) by decide, if_false, show 3 * g + e < 48 by omega, a10]
  · simp (disch := omega) only [f_X2_featureOf, es, eq_grd, eq_lb, eq_b1, eq_b2, eq_b3, eq_b4, eq_b5, iN_lit, ib, ↓nM_lit, iN_lit, iN_add, iN_mul, iN_lt, iN_le, iN_eq, iN_c, gd_iN, iN_nM, nM_iN, iN_ltM, nM_lt, nM_le, iN_leM, iN_0M, nM_p1, iN_0s1, decide_true, decide_eq_true_eq, Nat.not_lt_zero, if_true, if_false, show ¬ (1 = 0) by decide, if_false, show 3 * g + e < 48 by omega, a8]
