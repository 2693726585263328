/-! The reference reads the words, lays the chart. -/
def MW (M0 y : Ob) (s : Nat) (L gv : Nat → Nat) : Prop := s < 4 ∧ WLex M0 ∧ WTxt M0 ∧ LB (evS M0 s) L ∧ (∀ k, k < 11 → y k = M0 k) ∧ ∀ p, p < evn M0 s → y 11 (6 * s + p) = iN (L p) ∧ y 13 (6 * s + p) = iN (gv p % 4) ∧ y 14 (6 * s + p) = iN (gv p / 4) ∧ gv p < 16
theorem evS_B {M : Ob} {s : Nat} (hl : WLex M) (ht : WTxt M) (hs : s < 4) : EvB (evS M s) := by
  obtain ⟨h6, -, hw⟩ := WTxt_at ht hs
  exact evW_B hl h6 (fun p hp => Nat.lt_of_lt_of_le (hw p hp).1 (WLex_nw hl))
theorem MW_at {M0 y : Ob} {s : Nat} {L gv : Nat → Nat} (h : MW M0 y s L gv) {p : Nat} (hp : p < evn M0 s) : y 10 (6 * s + p) = iN (evw M0 s p) ∧ f_X11_countOf y (iN (evw M0 s p)) = some (iN (eC (evS M0 s) p)) ∧ ∀ k, k < eC (evS M0 s) p → f_X11_categoryOf y (iN (evw M0 s p)) (iN k) = some (eT (evS M0 s) p k) ∧ ∀ f, f < 3 → f_X11_featureOf y (iN (evw M0 s p)) (iN k) (iN f) = some (iN (fv (eP (evS M0 s) p k) f)) := by
  obtain ⟨hs, hl, ht, hL, hy, hg⟩ := h
  have hE := evS_B hl ht hs
  obtain ⟨h6, h9, hw⟩ := WTxt_at ht hs
  obtain ⟨w1, w2⟩ := hw p hp
  have hc : ∀ k, k < 9 → y k = M0 k := fun k hk => hy k (by omega)
  have hly := WLex_cg hc hl
  have hw40 := Nat.lt_of_lt_of_le w1 (WLex_nw hl)
  refine ⟨by rw [hy 10 (by decide)]; exact w2, ?_, ?_⟩
  · rw [X11_count hly hw40, cnM_cg hc, evS_e, evW_C hp]
  · intro k hk
    have h4 := (hE.2 p hp).1
    obtain ⟨p0, p1, p2⟩ := eP_f hl hw40 hp hk (by omega)
    refine ⟨?_, ?_⟩
    · rw [X11_cat hly hw40 (by omega), ctM_cg hc]
      rw [evS_e, evW_C hp] at hk
      rw [evS_e, evW_T hp hk]
    · intro f hf
      rw [X11_fea hly hw40 (by omega) hf, feM_cg hc]
      congr 2
      unfold fv
      match f, hf with
      | 0, _ => rw [Nat.pow_zero, Nat.div_one]; exact p0.symm
      | 1, _ => rw [Nat.pow_one]; exact p1.symm
      | 2, _ => exact p2.symm
theorem gF_dec {f v : Nat} (hf : f < 64) (hv : v < 16) : dec (gF (iN 1) f v) = 100 * (if fv f 0 = 0 then v % 4 else fv f 0) + 10 * (if fv f 1 = 0 then v / 4 else fv f 1) + fv f 2 := by
  have := b64_s (P := fun f => b16 (fun v => decide (dec (gF (iN 1) f v) = 100 * (if fv f 0 = 0 then v % 4 else fv f 0) + 10 * (if fv f 1 = 0 then v / 4 else fv f 1) + fv f 2))) (by decide +kernel) hf
  exact of_decide_eq_true (b16_s this hv)
theorem wdF_cn {G : Ob} {E : Ev} {L gv : Nat → Nat} {p c : Nat} (ch : Ch) (h : L p < 2 ^ c) (d : Nat) : wdF G E L gv p (c + d) ch = wdF G E L gv p c ch := by
  induction d with
  | zero => rfl
  | succ d ih =>
    rw [← Nat.add_assoc, wdF, ih, if_neg]
    intro hb
    have := bit_cn h hb
    omega
theorem X11_leaf {M0 M1 G : Ob} {s : Nat} {L gv : Nat → Nat} {ch : Ch} {p n : Nat} {y : Ob} (hG : WGr G) (hW : MW M0 y s L gv) (hp : p < evn M0 s) (hS : SMx M1 G ch p 1 0 n y) (hn : n < 40000) {k : Nat} (hk : k < eC (evS M0 s) p) {a b : Nat} (hab : 100 * a + 10 * b + fv (eP (evS M0 s) p k) 2 = dec (gF (eT (evS M0 s) p k) (eP (evS M0 s) p k) (gv p))) :
    wp (f_X11_readWord_J141 y (iN p) (iN (6 * s + p)) (iN k) (eT (evS M0 s) p k) (iN a) (iN b)) (fun q => q.1 = 0 ∧ q.2.1 = iN (k + 1) ∧ ∃ n', n ≤ n' ∧ n' ≤ n + 1 ∧ SMx M1 G (addE G ch (6 * p) (.leaf (p, k, eT (evS M0 s) p k, gF (eT (evS M0 s) p k) (eP (evS M0 s) p k) (gv p)))) p 1 0 n' q.2.2) := by
  obtain ⟨hs, hl, ht, hL, hy, hg⟩ := id hW
  have hE := evS_B hl ht hs
  obtain ⟨e10, -, ef⟩ := MW_at hW hp
  have ef2 := (ef k hk).2 2 (by decide)
  have h6 := hE.1
  have hp' : p < eL (evS M0 s) := hp
  obtain ⟨h64, c, hc9, ec⟩ := (hE.2 p hp).2 k hk
  have h4 := (hE.2 p hp).1
  have g16 := (hg p hp).2.2.2
  have hF := gF_lt (c := eT (evS M0 s) p k) h64 g16
  have hT : WT G (.leaf (p, k, eT (evS M0 s) p k, gF (eT (evS M0 s) p k) (eP (evS M0 s) p k) (gv p))) := ⟨by omega, show k < 4 by omega, ⟨c, hc9, ec⟩, hF⟩
  have hWd : tW (.leaf (p, k, eT (evS M0 s) p k, gF (eT (evS M0 s) p k) (eP (evS M0 s) p k) (gv p))) = 1 := by
    simp (disch := omega) only [tW, ec, iN_nM, if_false]
  have hput := X11_put (t := .leaf (p, k, eT (evS M0 s) p k, gF (eT (evS M0 s) p k) (eP (evS M0 s) p k) (gv p))) (p5 := nM) (p6 := iN p) (p7 := iN k) hS.2.1 hn hG (show 6 * p < 36 by omega) ⟨hS.2.2.2.2.1, hS.2.2.2.2.2.2.1⟩ hF (fun y hb _ => hb)
  simp only [tC, tF, tK] at hput
  simp (disch := omega) only [f_X11_readWord_J141, ↓nM_lit, iN_lit, iN_add, iN_mul, iN_lt, iN_le, iN_eq, iN_c, gd_iN, iN_nM, nM_iN, iN_ltM, nM_lt, nM_le, iN_leM, iN_0M, nM_p1, iN_0s1, decide_true, decide_eq_true_eq, Nat.not_lt_zero, if_true, if_false, wp_some, wp_grd, wp_lb, wp_ite, wp_b1, wp_b2, wp_b3, wp_b4, wp_b5, eq_grd, eq_lb, eq_b1, eq_b2, eq_b3, eq_b4, eq_b5, show 6 * s + p < 24 by omega, e10, ef2, hab, true_and]
  refine wp_mono hput ?_
  rintro z ⟨n', h1, h2, h3, h4, h5⟩
  refine ⟨n', h1, h2, fun k hk => by rw [h4 k (by omega)]; exact hS.1 k hk, h3, ?_⟩
  have := Iv_add hS.2.2 hT rfl hWd (fun h => h.elim)
  rw [show 6 * p + 1 - 1 = 6 * p by omega] at this
  exact this
theorem X11_word {M0 M1 G : Ob} {s : Nat} {L gv : Nat → Nat} {ch : Ch} {p n : Nat} {y0 : Ob} (hG : WGr G) (hW : MW M0 M1 s L gv) (hp : p < evn M0 s) (hS : SMx M1 G ch p 1 0 n y0) (hn : n + 4 < 40000) :
    wp (f_X11_readWord y0 (iN s) (iN p)) (fun z => ∃ n', n ≤ n' ∧ n' ≤ n + 4 ∧ SMx M1 G (wdF G (evS M0 s) L gv p 4 ch) p 1 0 n' z) := by
  have hs := hW.1
  have hE := evS_B hW.2.1 hW.2.2.1 hs
  have h6 := hE.1
  have hp' : p < eL (evS M0 s) := hp
  have h4 := (hE.2 p hp').1
  have hLp := hW.2.2.2.1 p hp'
  have h16 := LB16 hE hW.2.2.2.1 hp'
  simp (disch := omega) only [f_X11_readWord, ↓nM_lit, iN_lit, iN_add, iN_mul, iN_lt, iN_le, iN_eq, iN_c, gd_iN, iN_nM, nM_iN, iN_ltM, nM_lt, nM_le, iN_leM, iN_0M, nM_p1, iN_0s1, decide_true, decide_eq_true_eq, Nat.not_lt_zero, if_true, if_false, wp_some, wp_grd, wp_lb, wp_ite, wp_b1, wp_b2, wp_b3, wp_b4, wp_b5]
  have e4 : wdF G (evS M0 s) L gv p 4 ch = wdF G (evS M0 s) L gv p (eC (evS M0 s) p) ch := by
    have := wdF_cn (G := G) (E := evS M0 s) (gv := gv) ch hLp (4 - eC (evS M0 s) p)
    rw [← this]; congr 1; omega
  rw [e4]
  refine lp_up (F := fun f (y : Ob) k => f_X11_readWord_L10 f y (iN p) (iN (6 * s + p)) k) (V := fun k y => ∃ n', n ≤ n' ∧ n' ≤ n + k ∧ SMx M1 G (wdF G (evS M0 s) L gv p k ch) p 1 0 n' y) (hi := eC (evS M0 s) p) ?_ 200 0 y0 (by omega) (by omega) ⟨n, Nat.le_refl _, Nat.le_refl _, hS⟩
  rintro f y k hk ⟨n', hn1, hn2, hv⟩ hkk
  have hWy : MW M0 y s L gv := by
    obtain ⟨a1, a2, a3, a4, a5, a6⟩ := hW
    refine ⟨a1, a2, a3, a4, fun k hk => by rw [hv.1 k (by omega)]; exact a5 k hk, ?_⟩
    rw [hv.1 11 (by omega), hv.1 13 (by omega), hv.1 14 (by omega)]
    exact a6
  obtain ⟨e10, ec, ef⟩ := MW_at hWy hp
  obtain ⟨g11, g13, g14, g16⟩ := hWy.2.2.2.2.2 p hp
  by_cases he : k = eC (evS M0 s) p
  · subst he
    simp (disch := omega) only [f_X11_readWord_L10, ↓nM_lit, iN_lit, iN_add, iN_mul, iN_lt, iN_le, iN_eq, iN_c, gd_iN, iN_nM, nM_iN, iN_ltM, nM_lt, nM_le, iN_leM, iN_0M, nM_p1, iN_0s1, decide_true, decide_eq_true_eq, Nat.not_lt_zero, if_true, if_false, wp_some, wp_grd, wp_lb, wp_ite, wp_b1, wp_b2, wp_b3, wp_b4, wp_b5, eq_grd, eq_lb, eq_b1, eq_b2, eq_b3, eq_b4, eq_b5, show 6 * s + p < 24 by omega, e10, ec, Nat.le_refl, true_and]
    exact ⟨n', hn1, by omega, hv⟩
  · have hk' : k < eC (evS M0 s) p := by omega
    obtain ⟨et, ef'⟩ := ef k hk'
    have ef0 := ef' 0 (by decide)
    have ef1 := ef' 1 (by decide)
    obtain ⟨h64, c, hc9, ecc⟩ := (hE.2 p hp').2 k hk'
    have q0 : fv (eP (evS M0 s) p k) 0 ≤ 3 := by unfold fv; omega
    have q1 : fv (eP (evS M0 s) p k) 1 ≤ 3 := by unfold fv; omega
    by_cases hb : (L p).testBit k = true
    · have fin : ∀ a b : Nat, 100 * a + 10 * b + fv (eP (evS M0 s) p k) 2 = dec (gF (eT (evS M0 s) p k) (eP (evS M0 s) p k) (gv p)) → wp (f_X11_readWord_J141 y (iN p) (iN (6 * s + p)) (iN k) (eT (evS M0 s) p k) (iN a) (iN b)) (fun q => if q.1 = 0 then wp (f_X11_readWord_L10 f q.2.2 (iN p) (iN (6 * s + p)) q.2.1) (fun q => ∃ n', n ≤ n' ∧ n' ≤ n + 4 ∧ SMx M1 G (wdF G (evS M0 s) L gv p (eC (evS M0 s) p) ch) p 1 0 n' q.2) else ∃ n', n ≤ n' ∧ n' ≤ n + 4 ∧ SMx M1 G (wdF G (evS M0 s) L gv p (eC (evS M0 s) p) ch) p 1 0 n' q.2.2) := by
        intro a b hab
        refine wp_mono (X11_leaf hG hWy hp hv (by omega) hk' hab) ?_
        rintro ⟨q1, q2, q3⟩ ⟨e1, e2, n2, h1, h2, h3⟩
        simp only at e1 e2 h3 ⊢
        rw [if_pos e1, e2]
        refine hkk q3 hk' ⟨n2, by omega, by omega, ?_⟩
        rw [wdF, if_pos hb]
        exact h3
      simp (disch := omega) only [f_X11_readWord_L10, ↓nM_lit, iN_lit, iN_add, iN_mul, iN_lt, iN_le, iN_eq, iN_c, gd_iN, iN_nM, nM_iN, iN_ltM, nM_lt, nM_le, iN_leM, iN_0M, nM_p1, iN_0s1, decide_true, decide_eq_true_eq, Nat.not_lt_zero, if_true, if_false, wp_some, wp_grd, wp_lb, wp_ite, wp_b1, wp_b2, wp_b3, wp_b4, wp_b5, eq_grd, eq_lb, eq_b1, eq_b2, eq_b3, eq_b4, eq_b5, show 6 * s + p < 24 by omega, e10, ec, show ¬ (eC (evS M0 s) p ≤ k) by omega, g11, bit_1 h16 (show k < 4 by omega), hb, et, ef0, ef1, f_X11_readWord_J95, f_X11_readWord_J116, f_X11_readWord_J118, f_X11_readWord_J139, g13, g14, show ¬ (1 = 0) by decide, true_and]
      by_cases hc : eT (evS M0 s) p k = iN 1
      · have hd := gF_dec h64 g16
        rw [← hc] at hd
        rw [if_pos hc]
        by_cases h0 : fv (eP (evS M0 s) p k) 0 = 0
        · rw [if_pos h0] at hd ⊢
          by_cases h1 : fv (eP (evS M0 s) p k) 1 = 0
          · rw [if_pos h1] at hd ⊢
            exact fin _ _ hd.symm
          · rw [if_neg h1] at hd ⊢
            exact fin _ _ hd.symm
        · rw [if_neg h0] at hd ⊢
          by_cases h1 : fv (eP (evS M0 s) p k) 1 = 0
          · rw [if_pos h1] at hd ⊢
            exact fin _ _ hd.symm
          · rw [if_neg h1] at hd ⊢
            exact fin _ _ hd.symm
      · rw [if_neg hc]
        refine fin _ _ ?_
        rw [gF, if_neg hc]; rfl
    · have hb' : (L p).testBit k = false := by cases h : (L p).testBit k; rfl; exact absurd h hb
      simp (disch := omega) only [f_X11_readWord_L10, ↓nM_lit, iN_lit, iN_add, iN_mul, iN_lt, iN_le, iN_eq, iN_c, gd_iN, iN_nM, nM_iN, iN_ltM, nM_lt, nM_le, iN_leM, iN_0M, nM_p1, iN_0s1, decide_true, decide_eq_true_eq, Nat.not_lt_zero, if_true, if_false, wp_some, wp_grd, wp_lb, wp_ite, wp_b1, wp_b2, wp_b3, wp_b4, wp_b5, eq_grd, eq_lb, eq_b1, eq_b2, eq_b3, eq_b4, eq_b5, show 6 * s + p < 24 by omega, e10, ec, show ¬ (eC (evS M0 s) p ≤ k) by omega, g11, bit_1 h16 (show k < 4 by omega), hb', Bool.false_eq_true, true_and]
      refine hkk y hk' ⟨n', hn1, by omega, ?_⟩
      rw [wdF, if_neg hb]
      exact hv
