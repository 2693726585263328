theorem X11_J148 {y M : Ob} {s i6 φ v d : Nat} {t : Tr} (hl : WLex M) (ht : WTxt M) (hs : s < 4) (hG : WGr (gr M)) (hy : ∀ k, k ≠ 41 → k ≠ 42 → y k = M k) (hd : d < 40000) (hm : MC M (gr M) t d) (hok : OKt M s t) (hi : i6 < 48) (e27 : M 27 i6 = iN φ) (hφ : φ < 3) (hv : v ≤ 3) :
    f_X11_candidate_J148 y (iN s) (iN i6) (iN v) (iN d) = some (cdA M s φ v (dn (gr M) t), y) := by
  have hgy : ∀ k, 21 ≤ k → k ≤ 30 → y k = gr M k := fun k h1 h2 => by rw [hy k (by omega) (by omega)]; exact gr_e h1 h2
  have hmy : MC y (gr M) t d := MC_cg (fun k h1 h2 => hy k (by omega) (by omega)) hm
  obtain ⟨d', e1, d1, hlf⟩ := X11_cdn hG hgy (iN s) (iN i6) (iN v) t hok.1 d 200 (fun q => ∃ d', d' < 40000 ∧ q = iN d' ∧ MC y (gr M) (.leaf (dn (gr M) t)) d') hd hmy (by have := hok.2.2; omega) (fun d' h1 h2 => ⟨d', h1, rfl, h2⟩)
  obtain ⟨hd', e2, hlf⟩ := hlf
  subst e2
  have hat := dn_at hG hok.1 hok.2.1
  obtain ⟨-, -, -, -, m36, m37, -⟩ := hlf
  unfold cdA cdW
  generalize dn (gr M) t = a at hat m36 m37 ⊢
  obtain ⟨p, k, c, f⟩ := a
  simp only at hat m36 m37 ⊢
  obtain ⟨hp, hk, hk4⟩ := hat
  have hp' : p < evn M s := hp
  obtain ⟨h6, h9, hw⟩ := WTxt_at ht hs
  have y10 : y 10 (6 * s + p) = iN (evw M s p) := by rw [hy 10 (by decide) (by decide)]; exact (hw p hp').2
  obtain ⟨⟨q1, q2⟩, e3, hq⟩ := X11_search (y := y) hl ht hs (fun i hi => hy i (by omega) (by omega)) hp' hk hi (by rw [hy 27 (by decide) (by decide)]; exact e27) hφ hv
  have e3' : f_X11_candidate_L234 200 y (iN i6) (iN v) (iN p) (iN k) (iN (evw M s p)) 0 = some (q1, q2) := e3
  rw [f_X11_candidate_J148, e1, eq_b1]
  simp (disch := omega) only [↓nM_lit, gd_iN, iN_c, eq_grd, eq_lb, eq_b1, eq_b2, eq_b3, eq_b4, eq_b5, hd', decide_true, m36, m37]
  have e6 : (6 : Int32) * iN s + iN p = iN (6 * s + p) := by rw [iN_lit, iN_mul, iN_add]
  rw [e6]
  simp (disch := omega) only [gd_iN, iN_c, eq_grd, eq_lb, eq_b1, eq_b2, eq_b3, eq_b4, eq_b5, show 6 * s + p < 24 by omega, decide_true, y10, e3']
  cases hf : fw (hitW M (lmM M (evw M s p) k) (eT (evS M s) p k) (stP (eP (evS M s) p k) φ v)) (nn (M 0 0)) with
  | none =>
    rw [hf] at hq
    simp only at hq
    rw [if_pos hq]
  | some w =>
    rw [hf] at hq
    simp only at hq
    rw [if_neg (by rw [hq.1]; decide), hq.2, iN_lit, iN_mul, iN_add]
theorem X11_J114 {M y : Ob} {s d e side g il φ z v : Nat} {ir : Int32} {l r : Tr} (hM : WM M) (hs : s < 4) (hd : d < 40000) (hen : e < nn (gr M 26 g)) (he3 : 3 * g + e < 48) (hok : OKt M s (.branch g l r)) (b36 : M 36 d = iN il) (b37 : M 37 d = ir) (h1 : il < d) (h2 : MC M (gr M) l il) (h4 : gr M 24 g ≠ nM → ∃ q, q < d ∧ ir = iN q ∧ MC M (gr M) r q) (m27 : M 27 (3 * g + e) = iN φ) (hφ : φ < 3) (hy : ∀ k, k ≠ 41 → k ≠ 42 → y k = M k) (y41 : y 41 (3 * z + φ) = iN v) (hv : v ≤ 3) (hsd : side = 1 ∨ side = 2) (hz2 : z ≤ 2) (hs2 : side = 2 → gr M 24 g ≠ nM) :
    f_X11_candidate_J114 y (iN s) (iN side) (iN d) (iN (3 * g + e)) 3 (iN z) = some (cdA M s φ v (dn (gr M) (if side = 2 then r else l)), y) := by
  have hG := hM.2.2.2
  have y27 : y 27 (3 * g + e) = iN φ := by rw [hy 27 (by decide) (by decide)]; exact m27
  have y36 : y 36 d = iN il := by rw [hy 36 (by decide) (by decide)]; exact b36
  have y37 : y 37 d = ir := by rw [hy 37 (by decide) (by decide)]; exact b37
  have e3 : (3 : Int32) * iN z + iN φ = iN (3 * z + φ) := by rw [iN_lit, iN_mul, iN_add]
  rw [f_X11_candidate_J114]
  simp (disch := omega) only [gd_iN, iN_c, decide_true, eq_grd, eq_lb, eq_b1, eq_b2, eq_b3, eq_b4, eq_b5, he3, y27, e3, show 3 * z + φ < 9 by omega, y41, hd, y36, y37]
  rcases hsd with h | h
  · subst h
    rw [if_pos (show iN 1 = 1 from rfl), if_neg (by decide)]
    exact X11_J148 hM.1 hM.2.1 hs hG hy (by omega) h2 (OKt_l hok) he3 m27 hφ hv
  · subst h
    rw [if_neg (show ¬ (iN 2 = 1) by decide), if_pos rfl]
    obtain ⟨q, q1, q2, q3⟩ := h4 (hs2 rfl)
    rw [q2]
    exact X11_J148 hM.1 hM.2.1 hs hG hy (by omega) q3 (OKt_r hok (hs2 rfl)) he3 m27 hφ hv
theorem X11_cand {M : Ob} {s i d e side : Nat} {t : Tr} (hM : WM M) (hs : s < 4) (hi : i < 400) (e44 : M 44 i = iN d) (e45 : M 45 i = iN e) (hd : d < 40000) (he : e < 3) (hz : tR (gr M) t e ≠ 0) (hmc : MC M (gr M) t d) (hok : OKt M s t) (hsd : side = 1 ∨ side = 2) :
    wp (f_X11_candidate M (iN s) (iN i) (iN side)) (fun q => q.1 = cdt (gr M) M s t e side ∧ ∀ k, k ≠ 41 → k ≠ 42 → q.2 k = M k) := by
  obtain ⟨g, l, r, et⟩ := tR_branch hz
  subst et
  have hG := hM.2.2.2
  have hg := hok.1.1
  obtain ⟨hen, u, hu, hub, -⟩ := tR_code hG hok.1 hz
  have hng := ng_le hG
  obtain ⟨il, ir, ⟨-, -, -, b35, b36, b37, -⟩, h1, h2, h3, h4⟩ := hmc
  obtain ⟨-, -, -, n, hn, en, hq⟩ := hG.2 g hg
  have enn : nn (gr M 26 g) = n := by rw [en, nn, iN_c (by omega)]
  obtain ⟨φ, a, b, c', hφ, ha, hb, hab, hun, -, e27, e28, e29, -⟩ := hq e (by omega)
  have mg : ∀ k, 21 ≤ k → k ≤ 30 → M k = gr M k := fun k k1 k2 => gr_e k1 k2
  have m27 : M 27 (3 * g + e) = iN φ := by rw [mg 27 (by decide) (by decide)]; exact e27
  have m28 : M 28 (3 * g + e) = iN a := by rw [mg 28 (by decide) (by decide)]; exact e28
  have m29 : M 29 (3 * g + e) = iN b := by rw [mg 29 (by decide) (by decide)]; exact e29
  have eφ : nn (gr M 27 (3 * g + e)) = φ := by rw [e27, nn, iN_c (by omega)]
  have wl := hok.1.2.1
  have huse := X11_use (M := M) mg hG hg (lf := tF (gr M) l) (rf := tF (gr M) r) (n := e) (l := il) (r := ir) (by omega) (by omega) (MC_2 h2).2.1 (tF_lt hG l wl) (fun hu => by
    obtain ⟨q, q1, q2, q3⟩ := h4 hu
    exact ⟨q, by omega, q2, (MC_2 q3).2.1, tF_lt hG r (hok.1.2.2.2.2.2 hu).1⟩)
  obtain ⟨⟨r1, y⟩, eu, hy, hm⟩ := huse
  rw [hu] at hm
  simp only at hy hm
  obtain ⟨-, hS⟩ := hm
  have y27 : ∀ k, k ≠ 41 → k ≠ 42 → ∀ i, y k i = M k i := fun k k1 k2 i => by rw [hy k k1 k2]
  unfold cdt
  simp only [hu, cdU, wnt, e28, e29, eφ]
  have ean : nn (iN a) = a := iN_c (by omega)
  have ebn : nn (iN b) = b := iN_c (by omega)
  rw [ean, ebn]
  have hA : (iN a = iN side) ↔ a = side := iN_eq (by omega) (by omega)
  have hB : (iN b = iN side) ↔ b = side := iN_eq (by omega) (by omega)
  have h2a : a = side → side = 2 → gr M 24 g ≠ nM := fun h1 h2 h3 => by have := (hun h3).1; omega
  have h2b : b = side → side = 2 → gr M 24 g ≠ nM := fun h1 h2 h3 => by have := (hun h3).2; omega
  have j114 := fun (z : Nat) (hz2 : z ≤ 2) (hz1 : gr M 24 g = nM → z ≤ 1) (hs2 : side = 2 → gr M 24 g ≠ nM) => X11_J114 (y := y) hM hs hd hen (by omega) hok b36 b37 h1 h2 h4 m27 (by omega) hy (hS.2.1 z φ hz2 (by
    by_cases hun : gr M 24 g = nM
    · exact Or.inl (hz1 hun)
    · exact Or.inr hun) (by omega)) (hub z φ) hsd hz2 hs2
  have j54 : f_X11_candidate_J54 M (iN s) (iN i) (iN side) (iN d) (iN g) (iN (3 * g + e)) = if iN a = iN side then f_X11_candidate_J114 y (iN s) (iN side) (iN d) (iN (3 * g + e)) 3 (iN b) else f_X11_candidate_J114 y (iN s) (iN side) (iN d) (iN (3 * g + e)) 3 (iN a) := by
    have g1 : gd (iN d) 40000 = true := by rw [gd_iN (by omega)]; exact decide_eq_true hd
    have g2 : gd (iN i) 400 = true := by rw [gd_iN (by omega)]; exact decide_eq_true hi
    have g3 : gd (iN (3 * g + e)) 48 = true := by rw [gd_iN (by omega)]; exact decide_eq_true (by omega)
    have c1 : (iN d).toNatClampNeg = d := iN_c (by omega)
    have c2 : (iN i).toNatClampNeg = i := iN_c (by omega)
    have c3 : (iN (3 * g + e)).toNatClampNeg = 3 * g + e := iN_c (by omega)
    have y28 : y 28 (3 * g + e) = iN a := by rw [hy 28 (by decide) (by decide)]; exact m28
    have y29 : y 29 (3 * g + e) = iN b := by rw [hy 29 (by decide) (by decide)]; exact m29
    rw [f_X11_candidate_J54, g1, eq_grd, eq_grd, g2, eq_grd, c1, c2, b36, b37, e45, eu, eq_b2, g3, eq_grd, eq_grd, eq_grd, c3]
    show (if y 28 (3 * g + e) = iN side then f_X11_candidate_J114 y (iN s) (iN side) (iN d) (iN (3 * g + e)) 3 (y 29 (3 * g + e)) else f_X11_candidate_J114 y (iN s) (iN side) (iN d) (iN (3 * g + e)) 3 (y 28 (3 * g + e))) = _
    rw [y28, y29]
  rw [f_X11_candidate]
  have e3 : (3 : Int32) * iN g + iN e = iN (3 * g + e) := by rw [iN_lit, iN_mul, iN_add]
  simp (disch := omega) only [gd_iN, iN_c, decide_true, eq_grd, eq_lb, eq_b1, eq_b2, eq_b3, eq_b4, eq_b5, hi, e44, hd, b35, e45, e3, show 3 * g + e < 48 by omega, m28, m29, j54]
  by_cases h1' : a = side
  · rw [if_pos (hA.mpr h1'), if_pos (hA.mpr h1'), if_pos (hA.mpr h1'), j114 b (by omega) (fun h => (hun h).2) (h2a h1')]
    exact wp_some.mpr ⟨rfl, hy⟩
  · have n1 : ¬ (iN a = iN side) := fun h => h1' (hA.mp h)
    rw [if_neg n1, if_neg n1]
    by_cases h3' : b = side
    · rw [if_pos (hB.mpr h3'), if_neg n1, if_pos (hB.mpr h3'), j114 a (by omega) (fun h => (hun h).1) (h2b h3')]
      exact wp_some.mpr ⟨rfl, hy⟩
    · have n3 : ¬ (iN b = iN side) := fun h => h3' (hB.mp h)
      rw [if_neg n3, if_neg n1, if_neg n3]
      exact wp_some.mpr ⟨rfl, fun _ _ _ => rfl⟩
