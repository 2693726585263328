theorem rls_split {rel : Nat → Nat} {e : Nat} (h : rel e ≠ 0) (d : Nat) : ∃ tl, rls rel (e + 1 + d) = rls rel e ++ e :: tl := by
  induction d with
  | zero => exact ⟨[], by rw [Nat.add_zero, rls, if_neg h]⟩
  | succ d ih =>
    obtain ⟨tl, ih⟩ := ih
    exact ⟨tl ++ (if rel (e + 1 + d) = 0 then [] else [e + 1 + d]), by rw [← Nat.add_assoc, rls, ih, List.append_assoc, List.cons_append]⟩
theorem getD_mid {α : Type} (a b : List α) (x d : α) : (a ++ x :: b).getD a.length d = x := by
  rw [List.getD_eq_getElem?_getD, List.getElem?_append_right (Nat.le_refl _), Nat.sub_self]; rfl
theorem FL_at {G : Ob} {ns : List Tr} {k e : Nat} (hk : k < ns.length) (he : e < 3) (hz : tR G (ns.getD k dum) e ≠ 0) :
    (FL G (ns.take k)).length + (rls (tR G (ns.getD k dum)) e).length < (FL G ns).length ∧ (FL G ns).getD ((FL G (ns.take k)).length + (rls (tR G (ns.getD k dum)) e).length) (dum, 0) = (ns.getD k dum, e) := by
  obtain ⟨tl, htl⟩ := rls_split hz (2 - e)
  rw [show e + 1 + (2 - e) = 3 by omega] at htl
  have e1 : ns = ns.take k ++ ([ns.getD k dum] ++ ns.drop (k + 1)) := by
    rw [List.singleton_append, ← drop_getD hk, List.take_append_drop]
  have e2 : FL G ns = (FL G (ns.take k) ++ (rls (tR G (ns.getD k dum)) e).map (fun e => (ns.getD k dum, e))) ++ (ns.getD k dum, e) :: (tl.map (fun e => (ns.getD k dum, e)) ++ FL G (ns.drop (k + 1))) := by
    conv => lhs; rw [e1]
    rw [FL_app, FL_app, FL_one, fls, htl, List.map_append, List.map_cons]
    simp only [List.append_assoc, List.cons_append]
  have e3 : (FL G (ns.take k) ++ (rls (tR G (ns.getD k dum)) e).map (fun e => (ns.getD k dum, e))).length = (FL G (ns.take k)).length + (rls (tR G (ns.getD k dum)) e).length := by
    rw [List.length_append, List.length_map]
  rw [← e3, e2]
  refine ⟨?_, getD_mid _ _ _ _⟩
  simp only [List.length_append, List.length_cons]
  omega
/-- what the class finds of a fault by its number -/
def FF (x G : Ob) (fs : List Fa) (w r : Int32) : Prop := ((∀ i, i < fs.length → w ≠ iN i) ∧ r = nM) ∨ ∃ i σ, i < fs.length ∧ w = iN i ∧ σ < 288 ∧ (fs.getD i (dum, 0)).2 < 3 ∧ tR G (fs.getD i (dum, 0)).1 (fs.getD i (dum, 0)).2 ≠ 0 ∧ r = iN (3 * σ + (fs.getD i (dum, 0)).2) ∧ RC x G (fs.getD i (dum, 0)).1 σ ∧ WT G (fs.getD i (dum, 0)).1
theorem X9_find {x G y : Ob} {ns : List Tr} (hG : WGr G) (hN : NR x G y ns) (hW : NW G ns) (w : Int32) : wp (f_X9_findRelaxed y x w) (fun r => FF x G (FL G ns) w r) := by
  have hl := hW.1
  rw [f_X9_findRelaxed]
  simp only [wp_some, wp_grd, wp_lb, wp_ite, wp_b1, wp_b2, wp_b3, wp_b4, wp_b5]
  have key : wp (f_X9_findRelaxed_L5 200 y x w (iN 0) (iN 0)) (fun q => (q.1 = 1 ∧ ∀ i, i < (FL G ns).length → w ≠ iN i) ∨ (q.1 = 2 ∧ ∃ k e, k < ns.length ∧ e < 3 ∧ tR G (ns.getD k dum) e ≠ 0 ∧ q.2.2.1 = iN k ∧ q.2.2.2 = iN e ∧ w = iN ((FL G (ns.take k)).length + (rls (tR G (ns.getD k dum)) e).length))) := by
    refine lp_up (F := fun f (v : Int32) k => f_X9_findRelaxed_L5 f y x w v k) (V := fun k v => v = iN (FL G (ns.take k)).length ∧ ∀ i, i < (FL G (ns.take k)).length → w ≠ iN i) (hi := ns.length) ?_ 200 0 (iN 0) (by omega) (by omega) ⟨rfl, fun i hi => absurd hi (Nat.not_lt_zero i)⟩
    rintro f v k hk ⟨hv, hw⟩ hkk
    by_cases he : k = ns.length
    · subst he
      rw [List.take_length] at hw
      simp (disch := omega) only [f_X9_findRelaxed_L5, hN.1, ↓nM_lit, iN_lit, iN_add, iN_mul, iN_lt, iN_le, iN_eq, iN_c, gd_iN, iN_nM, nM_iN, iN_ltM, nM_lt, nM_le, iN_leM, iN_0M, nM_p1, iN_0s1, decide_true, decide_eq_true_eq, Nat.not_lt_zero, if_true, if_false, wp_some, wp_grd, wp_lb, wp_ite, wp_b1, wp_b2, wp_b3, wp_b4, wp_b5, Nat.le_refl]
      exact Or.inl ⟨trivial, hw⟩
    · have hlt : k < ns.length := by omega
      obtain ⟨σ, hσ, e1, hr⟩ := hN.2 k hlt
      have hwt := hW.2 _ (getD_mem hlt)
      simp (disch := omega) only [f_X9_findRelaxed_L5, hN.1, ↓nM_lit, iN_lit, iN_add, iN_mul, iN_lt, iN_le, iN_eq, iN_c, gd_iN, iN_nM, nM_iN, iN_ltM, nM_lt, nM_le, iN_leM, iN_0M, nM_p1, iN_0s1, decide_true, decide_eq_true_eq, Nat.not_lt_zero, if_true, if_false, wp_some, wp_grd, wp_lb, wp_ite, wp_b1, wp_b2, wp_b3, wp_b4, wp_b5, show ¬ (ns.length ≤ k) by omega]
      have inner : wp (f_X9_findRelaxed_L17 200 y x w v (iN k) (iN 0)) (fun q => (q.1 = 1 ∧ q.2.1 = iN ((FL G (ns.take k)).length + (rls (tR G (ns.getD k dum)) 3).length) ∧ ∀ i, i < (FL G (ns.take k)).length + (rls (tR G (ns.getD k dum)) 3).length → w ≠ iN i) ∨ (q.1 = 2 ∧ ∃ e, e < 3 ∧ tR G (ns.getD k dum) e ≠ 0 ∧ q.2.2 = iN e ∧ w = iN ((FL G (ns.take k)).length + (rls (tR G (ns.getD k dum)) e).length))) := by
        refine lp_up (F := fun f (v : Int32) e => f_X9_findRelaxed_L17 f y x w v (iN k) e) (V := fun e v => v = iN ((FL G (ns.take k)).length + (rls (tR G (ns.getD k dum)) e).length) ∧ ∀ i, i < (FL G (ns.take k)).length + (rls (tR G (ns.getD k dum)) e).length → w ≠ iN i) (hi := 3) ?_ 200 0 v (by omega) (by omega) ⟨hv, hw⟩
        rintro f v e he2 ⟨hv, hw⟩ hk2
        by_cases h3 : e = 3
        · subst h3
          simp (disch := omega) only [f_X9_findRelaxed_L17, ↓nM_lit, iN_lit, iN_add, iN_mul, iN_lt, iN_le, iN_eq, iN_c, gd_iN, iN_nM, nM_iN, iN_ltM, nM_lt, nM_le, iN_leM, iN_0M, nM_p1, iN_0s1, decide_true, decide_eq_true_eq, Nat.not_lt_zero, if_true, if_false, wp_some, wp_grd, wp_lb, wp_ite, wp_b1, wp_b2, wp_b3, wp_b4, wp_b5, Nat.le_refl]
          exact Or.inl ⟨trivial, hv, hw⟩
        · obtain ⟨-, hi⟩ := X0_rel hG hwt hr hσ (show e < 3 by omega)
          simp (disch := omega) only [f_X9_findRelaxed_L17, ↓nM_lit, iN_lit, iN_add, iN_mul, iN_lt, iN_le, iN_eq, iN_c, gd_iN, iN_nM, nM_iN, iN_ltM, nM_lt, nM_le, iN_leM, iN_0M, nM_p1, iN_0s1, decide_true, decide_eq_true_eq, Nat.not_lt_zero, if_true, if_false, wp_some, wp_grd, wp_lb, wp_ite, wp_b1, wp_b2, wp_b3, wp_b4, wp_b5, eq_grd, eq_lb, eq_b1, eq_b2, eq_b3, eq_b4, eq_b5, show ¬ (3 ≤ e) by omega, show k < 128 by omega, e1, hi, true_and]
          by_cases hz : tR G (ns.getD k dum) e = 0
          · simp (disch := omega) only [hz, if_true, ↓nM_lit, iN_lit, iN_add, iN_mul, iN_lt, iN_le, iN_eq, iN_c, gd_iN, iN_nM, nM_iN, iN_ltM, nM_lt, nM_le, iN_leM, iN_0M, nM_p1, iN_0s1, decide_true, decide_eq_true_eq, Nat.not_lt_zero, if_true, if_false, wp_some, wp_grd, wp_lb, wp_ite, wp_b1, wp_b2, wp_b3, wp_b4, wp_b5]
            refine hk2 _ (by omega) ?_
            rw [rls, if_pos hz, List.append_nil]
            exact ⟨hv, hw⟩
          · simp (disch := omega) only [hz, if_false, ↓nM_lit, iN_lit, iN_add, iN_mul, iN_lt, iN_le, iN_eq, iN_c, gd_iN, iN_nM, nM_iN, iN_ltM, nM_lt, nM_le, iN_leM, iN_0M, nM_p1, iN_0s1, decide_true, decide_eq_true_eq, Nat.not_lt_zero, if_true, if_false, wp_some, wp_grd, wp_lb, wp_ite, wp_b1, wp_b2, wp_b3, wp_b4, wp_b5, show ¬ (1 = 0) by decide]
            by_cases hm : v = w
            · rw [if_pos hm]
              exact Or.inr ⟨e, by omega, hz, rfl, by rw [← hm]; exact hv⟩
            · rw [if_neg hm]
              refine hk2 _ (by omega) ?_
              rw [rls, if_neg hz, List.length_append, List.length_singleton, ← Nat.add_assoc]
              refine ⟨by rw [hv, iN_add], ?_⟩
              intro i hi
              by_cases hie : i = (FL G (ns.take k)).length + (rls (tR G (ns.getD k dum)) e).length
              · rw [hie, ← hv]; exact fun h => hm h.symm
              · exact hw i (by omega)
      refine wp_mono inner ?_
      rintro ⟨q1, q2, q3⟩ (⟨h1, h2, h3⟩ | ⟨h1, e, h2, h3, h4, h5⟩)
      · simp only at h1 h2 h3 ⊢
        rw [if_pos h1]
        refine hkk q2 hlt ?_
        rw [take_s hlt, FL_app, FL_one, List.length_append]
        have : (fls G (ns.getD k dum)).length = (rls (tR G (ns.getD k dum)) 3).length := List.length_map _
        rw [this]; exact ⟨h2, h3⟩
      · simp only at h1 h4 ⊢
        rw [if_neg (by rw [h1]; decide)]
        exact Or.inr ⟨trivial, k, e, hlt, h2, h3, rfl, h4, h5⟩
  refine wp_mono key ?_
  rintro ⟨q1, q2, q3, q4⟩ (⟨h1, h2⟩ | ⟨h1, k, e, hk, he, hz, h3, h4, h5⟩)
  · simp only at h1 ⊢
    rw [if_pos h1]
    exact Or.inl ⟨h2, rfl⟩
  · simp only at h1 h3 h4 ⊢
    rw [if_neg (by rw [h1]; decide), h3, h4]
    obtain ⟨σ, hσ, e1, hr⟩ := hN.2 k hk
    obtain ⟨a1, a2⟩ := FL_at (G := G) hk he hz
    have hwt := hW.2 _ (getD_mem hk)
    simp (disch := omega) only [↓nM_lit, iN_lit, iN_add, iN_mul, iN_lt, iN_le, iN_eq, iN_c, gd_iN, iN_nM, nM_iN, iN_ltM, nM_lt, nM_le, iN_leM, iN_0M, nM_p1, iN_0s1, decide_true, decide_eq_true_eq, Nat.not_lt_zero, if_true, if_false, show k < 128 by omega, e1, true_and]
    refine Or.inr ⟨_, σ, a1, h5, hσ, ?_⟩
    rw [a2]
    exact ⟨he, hz, by rw [show σ * 3 + e = 3 * σ + e by omega], hr, hwt⟩
