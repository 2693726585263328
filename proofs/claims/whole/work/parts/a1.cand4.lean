def OKt (M : Ob) (s : Nat) (t : Tr) : Prop := WT (gr M) t ∧ LV (evS M s) t ∧ (pre t).length ≤ 110
theorem OKt_l {M : Ob} {s g : Nat} {l r : Tr} (h : OKt M s (.branch g l r)) : OKt M s l := by
  obtain ⟨h1, h2, h3⟩ := h
  rw [pre_b] at h3
  exact ⟨h1.2.1, h2.1, by omega⟩
theorem OKt_r {M : Ob} {s g : Nat} {l r : Tr} (h : OKt M s (.branch g l r)) (hu : gr M 24 g ≠ nM) : OKt M s r := by
  obtain ⟨h1, h2, h3⟩ := h
  rw [pre_b] at h3
  exact ⟨(h1.2.2.2.2.2 hu).1, h2.2, by omega⟩
theorem eC_at {M : Ob} {s p : Nat} (hp : p < evn M s) : eC (evS M s) p = cnM M (evw M s p) := by
  rw [evS_e]; exact evW_C hp
theorem X10_J83 {j : Nat} {K : Nat → Ob} {M : Ob} {s : Nat} (hR : RD j K M s) (hs : s < 4) {g e : Nat} {l r : Tr} {σ side v : Nat} (hσ : σ < 288) (hrc : RC (K (14 + s)) (gr M) (.branch g l r) σ) (hok : OKt M s (.branch g l r)) (he : e < nn (gr M 26 g)) (hv : v ≤ 3) (hsd : side = 1 ∨ side = 2) (h2 : side = 2 → gr M 24 g ≠ nM) :
    f_X10_mendToTry_J83 K s (iN side) (iN σ) (iN e) (iN g) (iN v) = some (cdA M s (nn (gr M 27 (3 * g + e))) v (dn (gr M) (if side = 2 then r else l))) := by
  obtain ⟨hI, ⟨w6, h7, hL6, -, -, -, -⟩, -, -⟩ := hR
  have hG := hI.1.2.2.2
  have hX2 := hI.2.1.2.2.1
  have hX3 := hI.2.1.1
  have hg16 : g < 16 := by have := ng_le hG; have := hok.1.1; omega
  obtain ⟨σl, σr, p2, p1, p3, q1, q2, q3, q4⟩ := X0_partB hg16 hrc hσ
  have hpart : ∃ σ', σ' < 288 ∧ f_X0_partOf (K (14 + s)) (iN σ) (iN side) = some (iN σ') ∧ RC (K (14 + s)) (gr M) (if side = 2 then r else l) σ' ∧ OKt M s (if side = 2 then r else l) := by
    rcases hsd with h | h
    · subst h
      rw [if_neg (by decide)]
      exact ⟨σl, q1, p1, q2, OKt_l hok⟩
    · subst h
      rw [if_pos rfl]
      obtain ⟨q, q5, q6, q7⟩ := q4 (h2 rfl)
      exact ⟨q, q5, by rw [p2, q6], q7, OKt_r hok (h2 rfl)⟩
  obtain ⟨σ', hσ', ep, hrc', hok'⟩ := hpart
  generalize (if side = 2 then r else l) = t at hrc' hok' ⊢
  obtain ⟨⟨h0, h00⟩, eh, σ'', hσ'', e0, hlf⟩ := X0_head hG hX2 t hok'.1 σ' 200 0 (fun q => ∃ σ'', σ'' < 288 ∧ q.1 = iN σ'' ∧ RC (K (14 + s)) (gr M) (.leaf (dn (gr M) t)) σ'') hσ' hrc' (by have := hok'.2.2; omega) (by have := hok'.2.2; omega) (fun σ'' c' a b => ⟨σ'', a, rfl, b⟩)
  simp only at e0
  subst e0
  have eH : f_X0_headOf (K (14 + s)) (K 3) (iN σ') = some (iN σ'') := by
    have eh' : f_X0_headOf_L5 200 (K (14 + s)) (K 3) (iN σ') 0 = some (iN σ'', h00) := eh
    simp only [f_X0_headOf, eh', eq_grd, eq_lb, eq_b1, eq_b2, eq_b3, eq_b4, eq_b5]
  have hat := dn_at hG hok'.1 hok'.2.1
  have erd := (X0_partL hlf hσ'' (iN 0)).2.2
  have hsl := hlf.1
  unfold cdA cdW
  generalize dn (gr M) t = a at hat erd hsl ⊢
  obtain ⟨p, k, c, f⟩ := a
  simp only at hat erd hsl ⊢
  obtain ⟨hp, hk, hk4⟩ := hat
  have hp' : p < evn M s := hp
  obtain ⟨h6, h9, hw⟩ := WTxt_at hI.1.2.1 hs
  obtain ⟨hw1, hw2⟩ := hw p hp'
  obtain ⟨x1, x2⟩ := X6_at hL6 (WM_E hI.1 hs).1 hp hk
  have hk' := hk
  rw [eC_at hp'] at hk'
  have xl := X3_lem hX3 hI.1.1 hw1 hk'
  have xf := (X2_eq hX2 hG hok.1.1 he).2.2
  obtain ⟨-, -, -, n, hn, en, hq⟩ := hG.2 g hok.1.1
  have enn : nn (gr M 26 g) = n := by rw [en, nn, iN_c (by omega)]
  obtain ⟨φ, a, b, c', hφ, -, -, -, -, -, e27, -⟩ := hq e (by omega)
  rw [e27] at xf
  have eφ : nn (gr M 27 (3 * g + e)) = φ := by rw [e27, nn, iN_c (by omega)]
  rw [eφ]
  have hP := ((WM_E hI.1 hs).1.2 p hp).2 k hk
  have hwv := wv_eq (φ := φ) (v := v) hP.1 (by omega) (by omega)
  have hlow := X3_low hX3 hI.1.1 (lmM M (evw M s p) k) (eT (evS M s) p k) (stP_lt (P := eP (evS M s) p k) (φ := φ) hv)
  have epl : f_X10_placeOfEdge (iN σ'') = some (iN p) := by
    simp only [f_X10_placeOfEdge, iN_lit]
    rw [iN_div (by omega) (by decide), iN_div (by omega) (by decide)]
    congr 2; omega
  have eW : f_X6_wordIn (K (9 + s)) (iN p) = some (iN (evw M s p)) := by
    simp (disch := omega) only [f_X6_wordIn, w6.1, ↓nM_lit, iN_lit, iN_add, iN_mul, iN_lt, iN_le, iN_eq, iN_c, gd_iN, iN_nM, nM_iN, iN_ltM, nM_lt, nM_le, iN_leM, iN_0M, nM_p1, iN_0s1, decide_true, decide_eq_true_eq, Nat.not_lt_zero, if_true, if_false, eq_grd, eq_lb, eq_b1, eq_b2, eq_b3, eq_b4, eq_b5, show ¬ (evn M s ≤ p) by omega, show p < 6 by omega, w6.2.2 p hp']
  have hnv : ¬ (iN v = -1) := by show ¬ (iN v = nM); rw [iN_nM (by omega)]; exact id
  rw [f_X10_mendToTry_J83, if_neg hnv, ep, eq_b1, eH, eq_b1, epl, eq_b1, erd, eq_b1, x1, eq_b1, xf, eq_b1, hwv, eq_b1, eW, eq_b1, xl, eq_b1, x2, eq_b1, hlow, eq_b1]
  have hn40 := WLex_nw hI.1.1
  cases hf : fw (hitW M (lmM M (evw M s p) k) (eT (evS M s) p k) (stP (eP (evS M s) p k) φ v)) (nn (M 0 0)) with
  | none => exact if_pos rfl
  | some w =>
    have hlt := fw_lt hf
    have : ¬ (iN w = -1) := by show ¬ (iN w = nM); rw [iN_nM (by omega)]; exact id
    show (if iN w = -1 then some (-1) else some (100 * iN p + iN w)) = some (iN (100 * p + w))
    rw [if_neg this]
    simp only [iN_lit, iN_mul, iN_add]
theorem X10_try {j : Nat} {K : Nat → Ob} {M : Ob} {s : Nat} (hR : RD j K M s) (hs : s < 4) {t : Tr} {σ e side : Nat} (hσ : σ < 288) (he : e < 3) (hz : tR (gr M) t e ≠ 0) (hrc : RC (K (14 + s)) (gr M) t σ) (hok : OKt M s t) (hsd : side = 1 ∨ side = 2) :
    f_X10_mendToTry K s (iN (3 * σ + e)) (iN side) = some (cdt (gr M) M s t e side) := by
  obtain ⟨g, l, r, et⟩ := tR_branch hz
  subst et
  have hI := hR.1
  have hG := hI.1.2.2.2
  have hX2 := hI.2.1.2.2.1
  obtain ⟨hen, u, hu, hub, hcode⟩ := tR_code hG hok.1 hz
  have hg16 : g < 16 := by have := ng_le hG; have := hok.1.1; omega
  obtain ⟨σl, σr, p2, p1, p3, q1, q2, q3, q4⟩ := X0_partB hg16 hrc hσ
  obtain ⟨y1, y2, -⟩ := X2_eq hX2 hG hok.1.1 hen
  obtain ⟨-, -, -, n, hn, en, hq⟩ := hG.2 g hok.1.1
  have enn : nn (gr M 26 g) = n := by rw [en, nn, iN_c (by omega)]
  obtain ⟨φ, a, b, c', hφ, ha, hb, hab, hun, -, e27, e28, e29, -⟩ := hq e (by omega)
  have eφ : nn (gr M 27 (3 * g + e)) = φ := by rw [e27, nn, iN_c (by omega)]
  have ea : nn (gr M 28 (3 * g + e)) = a := by rw [e28, nn, iN_c (by omega)]
  have eb : nn (gr M 29 (3 * g + e)) = b := by rw [e29, nn, iN_c (by omega)]
  have hrel := (X0_rel hG hok.1 hrc hσ he).1
  rw [hcode, eφ, ea, eb] at hrel
  have hx := hub a φ
  have hy := hub b φ
  obtain ⟨o1, o2⟩ := code_12 (show u.1 a φ < 4 by omega) (show u.1 b φ < 4 by omega)
  have j83 := fun (v : Nat) (hv : v ≤ 3) (h2 : side = 2 → gr M 24 g ≠ nM) => X10_J83 hR hs (v := v) hσ hrc hok hen hv hsd h2
  rw [eφ] at j83
  have hd3 : iN (3 * σ + e) / iN 3 = iN σ := by rw [iN_div (by omega) (by decide)]; congr 1; omega
  have hm3 : iN (3 * σ + e) - iN (σ * 3) = iN e := by rw [iN_sub (by omega)]; congr 1; omega
  have e1 : f_X0_oneThen (K (14 + s)) (iN σ) (iN e) = some (iN (u.1 a φ)) := by
    simp only [f_X0_oneThen, hrel, eq_grd, eq_lb, eq_b1, eq_b2, eq_b3, eq_b4, eq_b5, iN_lit, o1]
  have e2 : f_X0_otherThen (K (14 + s)) (iN σ) (iN e) = some (iN (u.1 b φ)) := by
    simp only [f_X0_otherThen, hrel, eq_grd, eq_lb, eq_b1, eq_b2, eq_b3, eq_b4, eq_b5, iN_lit, o2]
  unfold cdt
  simp only [hu, cdU, wnt, e28, e29, eφ]
  rw [e28] at y1
  rw [e29] at y2
  have ean : nn (iN a) = a := iN_c (by omega)
  have ebn : nn (iN b) = b := iN_c (by omega)
  have h2a : a = side → side = 2 → gr M 24 g ≠ nM := fun h1 h2 h3 => by have := (hun h3).1; omega
  have h2b : b = side → side = 2 → gr M 24 g ≠ nM := fun h1 h2 h3 => by have := (hun h3).2; omega
  simp only [f_X10_mendToTry, eq_grd, eq_lb, eq_b1, eq_b2, eq_b3, eq_b4, eq_b5, iN_lit, hd3, iN_mul, hm3, p3, y1, y2, e1, e2, ean, ebn]
  have hA : (iN a = iN side) ↔ a = side := iN_eq (by omega) (by omega)
  have hB : (iN b = iN side) ↔ b = side := iN_eq (by omega) (by omega)
  by_cases h1 : a = side
  · rw [if_pos (hA.mpr h1), if_pos (hA.mpr h1)]
    exact j83 _ hy (h2a h1)
  · rw [if_neg (fun h => h1 (hA.mp h)), if_neg (fun h => h1 (hA.mp h))]
    by_cases h3 : b = side
    · rw [if_pos (hB.mpr h3), if_pos (hB.mpr h3)]
      exact j83 _ hx (h2b h3)
    · rw [if_neg (fun h => h3 (hB.mp h)), if_neg (fun h => h3 (hB.mp h))]
      rfl
