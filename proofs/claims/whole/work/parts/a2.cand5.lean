/-! The word that could mend: by the reference. -/
theorem X11_cdn {x G : Ob} (hG : WGr G) (hx : ∀ k, 21 ≤ k → k ≤ 30 → x k = G k) (v1 v6 v7 : Int32) (t : Tr) : WT G t → ∀ (d n : Nat) (Q : Int32 → Prop), d < 40000 → MC x G t d → (pre t).length ≤ n → (∀ d', d' < 40000 → MC x G (.leaf (dn G t)) d' → Q (iN d')) → wp (f_X11_candidate_L150 n x v1 v6 v7 (iN d)) Q := by
  induction t with
  | leaf a =>
    intro h d n Q hd hm hn hQ
    rw [pre_leaf h] at hn
    obtain ⟨m, rfl⟩ : ∃ m, n = m + 1 := ⟨n - 1, by simp only [List.length_singleton] at hn; omega⟩
    have e35 : x 35 d = nM := hm.2.2.2.1
    simp (disch := omega) only [f_X11_candidate_L150, ↓nM_lit, iN_lit, iN_add, iN_mul, iN_lt, iN_le, iN_eq, iN_c, gd_iN, iN_nM, nM_iN, iN_ltM, nM_lt, nM_le, iN_leM, iN_0M, nM_p1, iN_0s1, decide_true, decide_eq_true_eq, Nat.not_lt_zero, if_true, if_false, wp_some, wp_grd, wp_lb, wp_ite, wp_b1, wp_b2, wp_b3, wp_b4, wp_b5, eq_grd, eq_lb, eq_b1, eq_b2, eq_b3, eq_b4, eq_b5, e35, hd, true_and]
    exact hQ d hd hm
  | branch g l r ihl ihr =>
    intro h d n Q hd hm hn hQ
    rw [pre_b] at hn
    obtain ⟨m, rfl⟩ : ∃ m, n = m + 1 := ⟨n - 1, by omega⟩
    have hg16 : g < 16 := by have := ng_le hG; have := h.1; omega
    obtain ⟨il, ir, ⟨-, -, -, b35, b36, b37, -⟩, h1, h2, h3, h4⟩ := hm
    have gN : ¬ (iN g = nM) := by rw [iN_nM (by omega)]; exact id
    have e25 : x 25 g = G 25 g := by rw [hx 25 (by decide) (by decide)]
    by_cases hh : G 25 g = iN 2
    · have hun := hd_2 hG h.1 hh
      obtain ⟨q, q1, q2, q3⟩ := h4 hun
      simp (disch := omega) only [f_X11_candidate_L150, ↓nM_lit, iN_lit, iN_add, iN_mul, iN_lt, iN_le, iN_eq, iN_c, gd_iN, iN_nM, nM_iN, iN_ltM, nM_lt, nM_le, iN_leM, iN_0M, nM_p1, iN_0s1, decide_true, decide_eq_true_eq, Nat.not_lt_zero, if_true, if_false, wp_some, wp_grd, wp_lb, wp_ite, wp_b1, wp_b2, wp_b3, wp_b4, wp_b5, eq_grd, eq_lb, eq_b1, eq_b2, eq_b3, eq_b4, eq_b5, b35, gN, hd, hg16, e25, hh, b37, q2, true_and]
      refine ihr (h.2.2.2.2.2 hun).1 q m Q (by omega) q3 (by omega) ?_
      rw [dn, if_pos hh] at hQ; exact hQ
    · have hh1 := hd_1 hG h.1 hh
      simp (disch := omega) only [f_X11_candidate_L150, ↓nM_lit, iN_lit, iN_add, iN_mul, iN_lt, iN_le, iN_eq, iN_c, gd_iN, iN_nM, nM_iN, iN_ltM, nM_lt, nM_le, iN_leM, iN_0M, nM_p1, iN_0s1, decide_true, decide_eq_true_eq, Nat.not_lt_zero, if_true, if_false, wp_some, wp_grd, wp_lb, wp_ite, wp_b1, wp_b2, wp_b3, wp_b4, wp_b5, eq_grd, eq_lb, eq_b1, eq_b2, eq_b3, eq_b4, eq_b5, b35, gN, hd, hg16, e25, hh1, show ¬ (1 = 2) by decide, b36, true_and]
      refine ihl h.2.1 il m Q (by omega) h2 (by omega) ?_
      rw [dn, if_neg hh] at hQ; exact hQ
theorem pk3_eq {a b c a' b' c' : Nat} (h1 : a ≤ 3) (h2 : b ≤ 3) (h3 : c ≤ 3) (h4 : a' ≤ 3) (h5 : b' ≤ 3) (h6 : c' ≤ 3) : pk3 a b c = pk3 a' b' c' ↔ (a = a' ∧ b = b') ∧ c = c' := by
  unfold pk3; omega
theorem X11_cfe1 {x : Ob} {i6 φ v w0 k w r f P m : Nat} {p b0 : Int32} (b : Bool) (hi : i6 < 48) (e27 : x 27 i6 = iN φ) (hφ : φ < 3) (hv : v ≤ 3) (hf : f < 3) (hw : w < 40) (hr : r < 4) (hm : m ≤ 3) (e5 : x 5 (12 * w + 3 * r + f) = iN m) (ef : f_X11_featureOf x (iN w0) (iN k) (iN f) = some (iN (fv P f))) (n : Nat) (hb0 : b0 = biN b) :
    f_X11_candidate_L314 (n + 1) x (iN i6) (iN v) p (iN k) (iN w0) (iN w) (iN r) b0 (iN f) = f_X11_candidate_L314 n x (iN i6) (iN v) p (iN k) (iN w0) (iN w) (iN r) (biN (b && decide (m = if f = φ then v else fv P f))) (iN (f + 1)) := by
  subst hb0
  have hfv : fv P f ≤ 3 := by unfold fv; omega
  have ez : (biN b = iN 0) = (b = false) := propext (biN_0 b)
  simp (disch := omega) only [f_X11_candidate_L314, ↓nM_lit, iN_lit, iN_add, iN_mul, iN_lt, iN_le, iN_eq, iN_c, gd_iN, iN_nM, nM_iN, iN_ltM, nM_lt, nM_le, iN_leM, iN_0M, nM_p1, iN_0s1, decide_true, decide_eq_true_eq, Nat.not_lt_zero, if_true, if_false, eq_grd, eq_lb, eq_b1, eq_b2, eq_b3, eq_b4, eq_b5, show ¬ (3 ≤ f) by omega, ez, hi, show 12 * w + 3 * r + f < 480 by omega, e27, e5, ef]
  cases b with
  | false => simp only [if_true, Bool.false_and, biN, Bool.false_eq_true, if_false]
  | true =>
    simp only [Bool.true_eq_false, if_false, Bool.true_and]
    by_cases h : f = φ
    · simp only [h, if_true]
      by_cases h2 : m = v
      · simp only [h2, if_true, decide_true, biN]
      · simp only [h2, if_false, decide_false, biN, Bool.false_eq_true]
    · simp only [h, if_false]
      by_cases h2 : m = fv P f
      · simp only [h2, if_true, decide_true, biN]
      · simp only [h2, if_false, decide_false, biN, Bool.false_eq_true]
theorem X11_cfea {x : Ob} {i6 φ v w0 k w r P : Nat} {p : Int32} (b : Bool) (hi : i6 < 48) (e27 : x 27 i6 = iN φ) (hφ : φ < 3) (hv : v ≤ 3) (hw : w < 40) (hr : r < 4) (h5 : ∀ f, f < 3 → ∃ m, m ≤ 3 ∧ x 5 (12 * w + 3 * r + f) = iN m) (ef : ∀ f, f < 3 → f_X11_featureOf x (iN w0) (iN k) (iN f) = some (iN (fv P f))) :
    f_X11_candidate_L314 200 x (iN i6) (iN v) p (iN k) (iN w0) (iN w) (iN r) (biN b) (iN 0) = some (biN (b && decide (pk3 (nn (x 5 (12 * w + 3 * r))) (nn (x 5 (12 * w + 3 * r + 1))) (nn (x 5 (12 * w + 3 * r + 2))) = stP P φ v)), iN 3) := by
  obtain ⟨m0, a0, b0⟩ := h5 0 (by decide)
  obtain ⟨m1, a1, b1⟩ := h5 1 (by decide)
  obtain ⟨m2, a2, b2⟩ := h5 2 (by decide)
  have b0' : x 5 (12 * w + 3 * r) = iN m0 := b0
  rw [b0', b1, b2, nn, iN_c (by omega), nn, iN_c (by omega), nn, iN_c (by omega)]
  have h : ∀ k, fv P k ≤ 3 := fun k => by unfold fv; omega
  have f0 := h 0
  have f1 := h 1
  have f2 := h 2
  rw [show (200 : Nat) = 199 + 1 from rfl, X11_cfe1 b hi e27 hφ hv (by decide) hw hr a0 b0 (ef 0 (by decide)) 199 rfl]
  rw [show (199 : Nat) = 198 + 1 from rfl, X11_cfe1 _ hi e27 hφ hv (by decide) hw hr a1 b1 (ef 1 (by decide)) 198 rfl]
  rw [show (198 : Nat) = 197 + 1 from rfl, X11_cfe1 _ hi e27 hφ hv (by decide) hw hr a2 b2 (ef 2 (by decide)) 197 rfl]
  rw [show (197 : Nat) = 196 + 1 from rfl, f_X11_candidate_L314]
  have e3 : (3 : Int32) ≤ iN (2 + 1) := by decide
  rw [if_pos e3]
  congr 2
  unfold stP
  rw [Bool.and_assoc, Bool.and_assoc]
  congr 2
  have hp := pk3_eq a0 a1 a2 (show (if 0 = φ then v else fv P 0) ≤ 3 by split <;> omega) (show (if 1 = φ then v else fv P 1) ≤ 3 by split <;> omega) (show (if 2 = φ then v else fv P 2) ≤ 3 by split <;> omega)
  rw [Bool.eq_iff_iff, Bool.and_eq_true, Bool.and_eq_true, decide_eq_true_eq, decide_eq_true_eq, decide_eq_true_eq, decide_eq_true_eq, hp, and_assoc]
theorem X11_ccat {y M : Ob} {s p k : Nat} (hl : WLex M) (ht : WTxt M) (hs : s < 4) (hy : ∀ i, i < 11 → y i = M i) (hp : p < evn M s) (hk : k < eC (evS M s) p) : f_X11_categoryOf y (iN (evw M s p)) (iN k) = some (eT (evS M s) p k) ∧ f_X11_lemmaOf y (iN (evw M s p)) (iN k) = some (lmM M (evw M s p) k) ∧ ∀ f, f < 3 → f_X11_featureOf y (iN (evw M s p)) (iN k) (iN f) = some (iN (fv (eP (evS M s) p k) f)) := by
  have hE := evS_B hl ht hs
  obtain ⟨h6, h9, hw⟩ := WTxt_at ht hs
  obtain ⟨w1, w2⟩ := hw p hp
  have hc : ∀ k, k < 9 → y k = M k := fun k hk => hy k (by omega)
  have hly := WLex_cg hc hl
  have hw40 := Nat.lt_of_lt_of_le w1 (WLex_nw hl)
  have h4 := (hE.2 p hp).1
  obtain ⟨p0, p1, p2⟩ := eP_f hl hw40 hp hk (by omega)
  refine ⟨?_, ?_, ?_⟩
  · rw [X11_cat hly hw40 (by omega), ctM_cg hc]
    rw [evS_e, evW_C hp] at hk
    rw [evS_e, evW_T hp hk]
  · obtain ⟨b, hb, eb⟩ := hl.2.2.1 (evw M s p) hw40
    have e2 : y 2 (evw M s p) = iN b := by rw [hy 2 (by decide), eb]
    have e3 : ∀ i, y 3 i = M 3 i := fun i => by rw [hy 3 (by decide)]
    have ebn : nn (M 2 (evw M s p)) = b := by rw [eb, nn, iN_c (by omega)]
    simp (disch := omega) only [f_X11_lemmaOf, ↓nM_lit, iN_lit, iN_add, iN_mul, iN_lt, iN_le, iN_eq, iN_c, gd_iN, iN_nM, nM_iN, iN_ltM, nM_lt, nM_le, iN_leM, iN_0M, nM_p1, iN_0s1, decide_true, decide_eq_true_eq, Nat.not_lt_zero, if_true, if_false, eq_grd, eq_lb, eq_b1, eq_b2, eq_b3, eq_b4, eq_b5, hw40, e2, show 4 * evw M s p + k < 160 by omega, e3, lmM, ebn]
    by_cases hb0 : b = 0
    · rw [if_pos (by omega), if_pos hb0]
    · rw [if_neg (by omega), if_neg hb0]
  · intro f hf
    rw [X11_fea hly hw40 (by omega) hf, feM_cg hc]
    congr 2
    unfold fv
    match f, hf with
    | 0, _ => rw [Nat.pow_zero, Nat.div_one]; exact p0.symm
    | 1, _ => rw [Nat.pow_one]; exact p1.symm
    | 2, _ => exact p2.symm
theorem X11_search {y M : Ob} {s p k i6 φ v : Nat} (hl : WLex M) (ht : WTxt M) (hs : s < 4) (hy : ∀ i, i < 11 → y i = M i) (hp : p < evn M s) (hk : k < eC (evS M s) p) (hi : i6 < 48) (e27 : y 27 i6 = iN φ) (hφ : φ < 3) (hv : v ≤ 3) :
    wp (f_X11_candidate_L234 200 y (iN i6) (iN v) (iN p) (iN k) (iN (evw M s p)) (iN 0)) (fun q => match fw (hitW M (lmM M (evw M s p) k) (eT (evS M s) p k) (stP (eP (evS M s) p k) φ v)) (nn (M 0 0)) with | none => q.1 = 1 | some w => q.1 = 2 ∧ q.2 = iN w) := by
  obtain ⟨g1, g2, g3⟩ := X11_ccat hl ht hs hy hp hk
  obtain ⟨⟨nw, hnw, enw⟩, -, h2, -, h5, -⟩ := id hl
  have en : nn (M 0 0) = nw := by rw [enw, nn, iN_c (by omega)]
  rw [en]
  have y0 : y 0 0 = iN nw := by rw [hy 0 (by decide), enw]
  generalize evw M s p = w0 at *
  generalize hlem : lmM M w0 k = lem at *
  generalize hcat : eT (evS M s) p k = cat at *
  generalize hPe : eP (evS M s) p k = P at *
  refine lp_up (F := fun f (_ : Unit) j => f_X11_candidate_L234 f y (iN i6) (iN v) (iN p) (iN k) (iN w0) j) (V := fun w _ => fw (hitW M lem cat (stP P φ v)) w = none) (hi := nw) ?_ 200 0 () (by omega) (by omega) rfl
  rintro f - w hw hV hK
  by_cases he : w = nw
  · subst he
    simp (disch := omega) only [f_X11_candidate_L234, y0, ↓nM_lit, iN_lit, iN_add, iN_mul, iN_lt, iN_le, iN_eq, iN_c, gd_iN, iN_nM, nM_iN, iN_ltM, nM_lt, nM_le, iN_leM, iN_0M, nM_p1, iN_0s1, decide_true, decide_eq_true_eq, Nat.not_lt_zero, if_true, if_false, wp_some, wp_grd, wp_lb, wp_ite, wp_b1, wp_b2, wp_b3, wp_b4, wp_b5, Nat.le_refl]
    rw [hV]; trivial
  · have hw' : w < nw := by omega
    obtain ⟨b, hb, eb⟩ := h2 w (by omega)
    have y2 : y 2 w = iN b := by rw [hy 2 (by decide), eb]
    have ebn : nn (M 2 w) = b := by rw [eb, nn, iN_c (by omega)]
    simp (disch := omega) only [f_X11_candidate_L234, y0, ↓nM_lit, iN_lit, iN_add, iN_mul, iN_lt, iN_le, iN_eq, iN_c, gd_iN, iN_nM, nM_iN, iN_ltM, nM_lt, nM_le, iN_leM, iN_0M, nM_p1, iN_0s1, decide_true, decide_eq_true_eq, Nat.not_lt_zero, if_true, if_false, wp_some, wp_grd, wp_lb, wp_ite, wp_b1, wp_b2, wp_b3, wp_b4, wp_b5, show ¬ (nw ≤ w) by omega]
    have inner : wp (f_X11_candidate_L246 200 y (iN i6) (iN v) (iN p) (iN k) (iN w0) (iN w) (iN 0)) (fun q => (q.1 = 1 ∧ hitW M lem cat (stP P φ v) w = false) ∨ (q.1 = 2 ∧ hitW M lem cat (stP P φ v) w = true)) := by
      refine lp_up (F := fun f (_ : Unit) j => f_X11_candidate_L246 f y (iN i6) (iN v) (iN p) (iN k) (iN w0) (iN w) j) (V := fun r _ => hitL M lem cat (stP P φ v) w r = false) (hi := b) ?_ 200 0 () (by omega) (by omega) rfl
      rintro f - r hr hV hK
      by_cases he : r = b
      · subst he
        simp (disch := omega) only [f_X11_candidate_L246, y2, ↓nM_lit, iN_lit, iN_add, iN_mul, iN_lt, iN_le, iN_eq, iN_c, gd_iN, iN_nM, nM_iN, iN_ltM, nM_lt, nM_le, iN_leM, iN_0M, nM_p1, iN_0s1, decide_true, decide_eq_true_eq, Nat.not_lt_zero, if_true, if_false, wp_some, wp_grd, wp_lb, wp_ite, wp_b1, wp_b2, wp_b3, wp_b4, wp_b5, show w < 40 by omega, Nat.le_refl]
        exact ⟨trivial, Or.inl ⟨trivial, by rw [hitW, ebn]; exact hV⟩⟩
      · have hr' : r < b := by omega
        have y3 : y 3 (4 * w + r) = M 3 (4 * w + r) := by rw [hy 3 (by decide)]
        have y4 : y 4 (4 * w + r) = M 4 (4 * w + r) := by rw [hy 4 (by decide)]
        have y5 : ∀ i, y 5 i = M 5 i := fun i => by rw [hy 5 (by decide)]
        have fin : ∀ bb : Bool, (decide (M 3 (4 * w + r) = lem) && decide (M 4 (4 * w + r) = cat)) = bb → ∀ s0, s0 = biN bb → wp (f_X11_candidate_J309 y (iN i6) (iN v) (iN p) (iN k) (iN w0) (iN w) (iN r) s0) (fun o => if o.1 = 0 then wp (f_X11_candidate_L246 f y (iN i6) (iN v) (iN p) (iN k) (iN w0) (iN w) o.2) (fun q => (q.1 = 1 ∧ hitW M lem cat (stP P φ v) w = false) ∨ (q.1 = 2 ∧ hitW M lem cat (stP P φ v) w = true)) else (o.1 = 1 ∧ hitW M lem cat (stP P φ v) w = false) ∨ (o.1 = 2 ∧ hitW M lem cat (stP P φ v) w = true)) := by
          intro bb hbb s0 hs0
          subst hs0
          have hc := X11_cfea (x := y) (p := iN p) (P := P) bb hi e27 hφ hv (show w < 40 by omega) (show r < 4 by omega) (fun f hf => by rw [y5]; exact h5 (12 * w + 3 * r + f) (by omega)) g3
          rw [y5, y5, y5] at hc
          have hc' : f_X11_candidate_L314 200 y (iN i6) (iN v) (iN p) (iN k) (iN w0) (iN w) (iN r) (biN bb) 0 = _ := hc
          have hrr : hitR M lem cat (stP P φ v) w r = (bb && decide (pk3 (nn (M 5 (12 * w + 3 * r))) (nn (M 5 (12 * w + 3 * r + 1))) (nn (M 5 (12 * w + 3 * r + 2))) = stP P φ v)) := by
            unfold hitR; rw [hbb]
          rw [← hrr] at hc'
          rw [f_X11_candidate_J309, hc', eq_b2]
          cases hh : hitR M lem cat (stP P φ v) w r with
          | false =>
            rw [if_pos (show (biN false, iN 3).1 = 0 from rfl)]
            simp only [iN_lit, iN_add, wp_some, wp_grd, wp_lb, wp_ite, wp_b1, wp_b2, wp_b3, wp_b4, wp_b5, if_true]
            exact hK () hr' (by rw [hitL, hV, hh]; rfl)
          | true =>
            rw [if_neg (show ¬ ((biN true, iN 3).1 = 0) from (by decide : ¬ (biN true = 0)))]
            simp only [wp_some, wp_grd, wp_lb, wp_ite, wp_b1, wp_b2, wp_b3, wp_b4, wp_b5]
            rw [if_neg (by decide)]
            refine Or.inr ⟨trivial, ?_⟩
            have := hitL_up hh (b - (r + 1))
            rw [show r + 1 + (b - (r + 1)) = b by omega] at this
            rw [hitW, ebn]; exact this
        simp (disch := omega) only [f_X11_candidate_L246, y2, ↓nM_lit, iN_lit, iN_add, iN_mul, iN_lt, iN_le, iN_eq, iN_c, gd_iN, iN_nM, nM_iN, iN_ltM, nM_lt, nM_le, iN_leM, iN_0M, nM_p1, iN_0s1, decide_true, decide_eq_true_eq, Nat.not_lt_zero, if_true, if_false, wp_some, wp_grd, wp_lb, wp_ite, wp_b1, wp_b2, wp_b3, wp_b4, wp_b5, eq_grd, eq_lb, eq_b1, eq_b2, eq_b3, eq_b4, eq_b5, show w < 40 by omega, show ¬ (b ≤ r) by omega, show 4 * w + r < 160 by omega, y3, y4, g1, g2, true_and, f_X11_candidate_J308]
        by_cases c1 : M 3 (4 * w + r) = lem
        · rw [if_pos c1]
          by_cases c2 : M 4 (4 * w + r) = cat
          · rw [if_pos c2]
            exact fin true (by rw [decide_eq_true c1, decide_eq_true c2]; rfl) _ rfl
          · rw [if_neg c2]
            exact fin false (by rw [decide_eq_false c2, Bool.and_false]) _ rfl
        · rw [if_neg c1]
          exact fin false (by rw [decide_eq_false c1, Bool.false_and]) _ rfl
    refine wp_mono inner ?_
    rintro ⟨q1, q2⟩ (⟨a1, a2⟩ | ⟨a1, a2⟩)
    · simp only at a1 ⊢
      rw [if_pos a1]
      exact hK () hw' (fw_no hV a2)
    · simp only at a1 ⊢
      rw [if_neg (by rw [a1]; decide)]
      rw [fw_hit hw' hV a2]
      exact ⟨trivial, rfl⟩
