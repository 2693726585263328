/-! Rules without a right part, by the reference; words; the reference's chart. -/
theorem abF_app {G : Ob} {s : Nat} (xs ys : List Nat) (ch : Ch) : abF G s (xs ++ ys) ch = abF G s ys (abF G s xs ch) := List.foldl_append
theorem X11_un {M0 G : Ob} {ch : Ch} {b m n : Nat} {y0 : Ob} (hG : WGr G) (hM : ∀ k, 21 ≤ k → k ≤ 30 → M0 k = G k) {g : Nat} (hg : g < nn (G 21 0)) (hun : G 24 g = nM) (hS : SMx M0 G ch b m (nn (G 22 g) + 1) n y0) (hn : n + 8 < 40000) (v2 : Int32) :
    wp (f_X11_readAbove_L41 200 y0 (iN (6 * b + m - 1)) v2 (iN g) (iN 0)) (fun q => ∃ n', n ≤ n' ∧ n' ≤ n + 8 ∧ SMx M0 G (uls G (6 * b + m - 1) g [dum] (ch (6 * b + m - 1)) ch) b m (nn (G 22 g) + 1) n' q.2) := by
  obtain ⟨-, -, sI⟩ := id hS
  obtain ⟨i1, i2, i3, i4, i5, i6⟩ := sI
  have h16 := ng_le hG
  have hla := i5 (6 * b + m - 1)
  have hsp : 6 * b + m - 1 < 36 := by omega
  obtain ⟨hcne, -⟩ := un_ne hG hg hun
  refine lp_up (F := fun f (y : Ob) j => f_X11_readAbove_L41 f y (iN (6 * b + m - 1)) v2 (iN g) j) (V := fun j y => ∃ ch' n', n ≤ n' ∧ n' ≤ n + j ∧ j ≤ (ch' (6 * b + m - 1)).length ∧ SMx M0 G ch' b m (nn (G 22 g) + 1) n' y ∧ Pr G (ch (6 * b + m - 1)) (G 22 g) (ch' (6 * b + m - 1)) ∧ uls G (6 * b + m - 1) g [dum] ((ch (6 * b + m - 1)).drop j) ch' = uls G (6 * b + m - 1) g [dum] (ch (6 * b + m - 1)) ch) (hi := 8) ?_ 200 0 y0 (by omega) (by omega) ⟨ch, n, Nat.le_refl _, Nat.le_refl _, Nat.zero_le _, hS, Pr_0 _ _, rfl⟩
  rintro f y j hj ⟨ch', n', hn1, hn2, hjl, hS', hPr, hfo⟩ hk
  have hl8 := hS'.2.2.2.2.2.2.1 (6 * b + m - 1)
  have hrow := hS'.2.1.2 (6 * b + m - 1) hsp
  have e23 : y 23 g = G 23 g := by rw [hS'.1 23 (by omega)]; exact hM 23 (by decide) (by decide) ▸ rfl
  by_cases he : j = (ch' (6 * b + m - 1)).length
  · have hdr : (ch (6 * b + m - 1)).drop j = [] := List.drop_eq_nil_of_le (by have := hPr.1; omega)
    rw [hdr] at hfo
    simp (disch := omega) only [f_X11_readAbove_L41, ↓nM_lit, iN_lit, iN_add, iN_mul, iN_lt, iN_le, iN_eq, iN_c, gd_iN, iN_nM, nM_iN, iN_ltM, nM_lt, nM_le, iN_leM, iN_0M, nM_p1, iN_0s1, decide_true, decide_eq_true_eq, Nat.not_lt_zero, if_true, if_false, wp_some, wp_grd, wp_lb, wp_ite, wp_b1, wp_b2, wp_b3, wp_b4, wp_b5, hsp, hrow.1, show (ch' (6 * b + m - 1)).length ≤ j by omega, true_and]
    rw [← hfo]
    exact ⟨n', hn1, by omega, hS'⟩
  · have hj' : j < (ch' (6 * b + m - 1)).length := by omega
    obtain ⟨d, hd, ed, hmd⟩ := hrow.2 j hj'
    obtain ⟨d2, -, -⟩ := MC_2 hmd
    simp (disch := omega) only [f_X11_readAbove_L41, ↓nM_lit, iN_lit, iN_add, iN_mul, iN_lt, iN_le, iN_eq, iN_c, gd_iN, iN_nM, nM_iN, iN_ltM, nM_lt, nM_le, iN_leM, iN_0M, nM_p1, iN_0s1, decide_true, decide_eq_true_eq, Nat.not_lt_zero, if_true, if_false, wp_some, wp_grd, wp_lb, wp_ite, wp_b1, wp_b2, wp_b3, wp_b4, wp_b5, eq_grd, eq_lb, eq_b1, eq_b2, eq_b3, eq_b4, eq_b5, hsp, hrow.1, show ¬ ((ch' (6 * b + m - 1)).length ≤ j) by omega, show 8 * (6 * b + m - 1) + j < 288 by omega, ed, show d < 40000 by omega, show g < 16 by omega, d2, e23, true_and]
    by_cases hjo : j < (ch (6 * b + m - 1)).length
    · obtain ⟨p1, p2⟩ := hPr.2.1 j hjo
      rw [drop_getD hjo, uls, List.foldl_cons, ← uls] at hfo
      by_cases hc : tC G ((ch (6 * b + m - 1)).getD j dum) = G 23 g
      · rw [p1, if_pos hc]
        rw [if_pos hc] at hfo
        have p3 := p2 (by rw [hc]; exact hcne)
        rw [p3] at hmd
        obtain ⟨wl, sl, bl⟩ := i3 _ _ (getD_mem hjo)
        have pl := tW_pos _ wl
        have spl := sp_mod pl bl
        rw [sp] at sl
        rw [sl] at spl
        have spm := sp_mod i1 i2
        have hisM : isM G b m (nn (G 22 g) + 1) n' y g ((ch (6 * b + m - 1)).getD j dum) dum nM :=
          Or.inl ⟨hun, rfl, rfl, by omega, by omega, rfl⟩
        have hus : ∀ l, usR G (6 * b + m - 1) g l [dum] ch' = tryE G ch' (6 * b + m - 1) g l dum := fun l => if_pos (show tC G dum = G 24 g from hun.symm)
        rw [hus] at hfo
        refine wp_mono (X11_try hG hM hS' (by omega) hg hd hmd wl hc hisM) ?_
        rintro z ⟨n2, h1, h2, h3, h4⟩
        have hPr' := Pr_try (l := (ch (6 * b + m - 1)).getD j dum) (r := dum) hPr
        refine hk z (by omega) ⟨_, n2, by omega, by omega, ?_, h3, hPr', hfo⟩
        have := hPr'.1
        omega
      · rw [p1, if_neg hc]
        rw [if_neg hc] at hfo
        exact hk y (by omega) ⟨ch', n', hn1, by omega, by omega, hS', hPr, hfo⟩
    · have hc := hPr.2.2 j (by omega) hj'
      rw [hc, if_neg (fun h => hcne h.symm)]
      refine hk y (by omega) ⟨ch', n', hn1, by omega, by omega, hS', hPr, ?_⟩
      rw [List.drop_eq_nil_of_le (by omega)]
      rw [List.drop_eq_nil_of_le (by omega)] at hfo
      exact hfo
def flS (G : Ob) (c g : Nat) : List Nat := (List.range g).filter (fun g => decide (G 24 g = nM ∧ G 22 g = iN c))
theorem flS_len (G : Ob) (c g : Nat) : (flS G c g).length ≤ g := by
  have := List.length_filter_le (fun g => decide (G 24 g = nM ∧ G 22 g = iN c)) (List.range g)
  rw [List.length_range] at this
  exact this
theorem X11_cat1 {M0 G : Ob} {ch : Ch} {b m n c P : Nat} {y0 : Ob} (hG : WGr G) (hM : ∀ k, 21 ≤ k → k ≤ 30 → M0 k = G k) (hc : c < 10) (hP : P ≤ c + 1) (hS : SMx M0 G ch b m P n y0) (hn : n + 144 < 40000) :
    wp (f_X11_readAbove_L10 200 y0 (iN (6 * b + m - 1)) (iN c) (iN 0)) (fun q => ∃ n' P', n ≤ n' ∧ n' ≤ n + 8 * (flS G c (nn (G 21 0))).length ∧ P' ≤ c + 1 ∧ SMx M0 G (abF G (6 * b + m - 1) (flS G c (nn (G 21 0))) ch) b m P' n' q.2) := by
  have h16 := ng_le hG
  refine lp_up (F := fun f (y : Ob) j => f_X11_readAbove_L10 f y (iN (6 * b + m - 1)) (iN c) j) (V := fun g y => ∃ n' P', n ≤ n' ∧ n' ≤ n + 8 * (flS G c g).length ∧ P' ≤ c + 1 ∧ SMx M0 G (abF G (6 * b + m - 1) (flS G c g) ch) b m P' n' y) (hi := nn (G 21 0)) ?_ 200 0 y0 (by omega) (by omega) ⟨n, P, Nat.le_refl _, Nat.le_add_right _ _, hP, hS⟩
  rintro f y g hg ⟨n', P', hn1, hn2, hP', hv⟩ hk
  have hfl := flS_len G c g
  have e0 : y 21 0 = iN (nn (G 21 0)) := by rw [hv.1 21 (by omega), hM 21 (by decide) (by decide)]; exact ng_e hG
  by_cases he : g = nn (G 21 0)
  · rw [he] at hv hn2 ⊢
    simp (disch := omega) only [f_X11_readAbove_L10, e0, ↓nM_lit, iN_lit, iN_add, iN_mul, iN_lt, iN_le, iN_eq, iN_c, gd_iN, iN_nM, nM_iN, iN_ltM, nM_lt, nM_le, iN_leM, iN_0M, nM_p1, iN_0s1, decide_true, decide_eq_true_eq, Nat.not_lt_zero, if_true, if_false, wp_some, wp_grd, wp_lb, wp_ite, wp_b1, wp_b2, wp_b3, wp_b4, wp_b5, Nat.le_refl]
    exact ⟨n', P', hn1, hn2, hP', hv⟩
  · have hg' : g < nn (G 21 0) := by omega
    have e24 : y 24 g = G 24 g := by rw [hv.1 24 (by omega)]; exact hM 24 (by decide) (by decide) ▸ rfl
    have e22 : y 22 g = G 22 g := by rw [hv.1 22 (by omega)]; exact hM 22 (by decide) (by decide) ▸ rfl
    have efl : flS G c (g + 1) = flS G c g ++ (if G 24 g = nM ∧ G 22 g = iN c then [g] else []) := by
      unfold flS
      rw [List.range_succ, List.filter_append, List.filter_cons, List.filter_nil]
      by_cases h : G 24 g = nM ∧ G 22 g = iN c
      · exact congrArg _ (by rw [if_pos h]; exact if_pos (decide_eq_true h))
      · exact congrArg _ (by rw [if_neg h]; exact if_neg (by rw [decide_eq_false h]; decide))
    simp (disch := omega) only [f_X11_readAbove_L10, e0, ↓nM_lit, iN_lit, iN_add, iN_mul, iN_lt, iN_le, iN_eq, iN_c, gd_iN, iN_nM, nM_iN, iN_ltM, nM_lt, nM_le, iN_leM, iN_0M, nM_p1, iN_0s1, decide_true, decide_eq_true_eq, Nat.not_lt_zero, if_true, if_false, wp_some, wp_grd, wp_lb, wp_ite, wp_b1, wp_b2, wp_b3, wp_b4, wp_b5, eq_grd, eq_lb, eq_b1, eq_b2, eq_b3, eq_b4, eq_b5, show ¬ (nn (G 21 0) ≤ g) by omega, show g < 16 by omega, e24, e22, true_and]
    by_cases hun : G 24 g = nM
    · by_cases hcc : G 22 g = iN c
      · rw [if_pos hun, if_pos hcc]
        have enc : nn (G 22 g) = c := by rw [hcc, nn, iN_c (by omega)]
        rw [if_pos ⟨hun, hcc⟩] at efl
        refine wp_mono (X11_un hG hM hg' hun ⟨hv.1, hv.2.1, Iv_P (by omega) hv.2.2⟩ (by omega) (iN c)) ?_
        rintro ⟨q1, q2⟩ ⟨n2, h1, h2, h3⟩
        refine hk q2 hg' ⟨n2, nn (G 22 g) + 1, by omega, ?_, by omega, ?_⟩
        · rw [efl, List.length_append, List.length_singleton]; omega
        · rw [efl, abF_app]; exact h3
      · rw [if_pos hun, if_neg hcc]
        rw [if_neg (fun h => hcc h.2), List.append_nil] at efl
        exact hk y hg' ⟨n', P', hn1, by rw [efl]; exact hn2, hP', by rw [efl]; exact hv⟩
    · rw [if_neg hun]
      rw [if_neg (fun h => hun h.1), List.append_nil] at efl
      exact hk y hg' ⟨n', P', hn1, by rw [efl]; exact hn2, hP', by rw [efl]; exact hv⟩
theorem flS_k {G : Ob} (hG : WGr G) {k : Nat} (hk : k ≤ 10) : ((List.range k).flatMap (fun c => flS G c (nn (G 21 0)))).length ≤ 16 := by
  have h := sing_k G hG k hk
  have h2 := List.length_filter_le (fun g => decide (G 24 g = nM) && decide (nn (G 22 g) < k)) (List.range (nn (G 21 0)))
  have h3 := ng_le hG
  rw [List.length_range] at h2
  have h4 : ((List.range k).flatMap (fun c => flS G c (nn (G 21 0)))).length = ((List.range (nn (G 21 0))).filter (fun g => decide (G 24 g = nM) && decide (nn (G 22 g) < k))).length := h
  omega
theorem X11_above {M0 G : Ob} {ch : Ch} {b m n : Nat} {y0 : Ob} (hG : WGr G) (hM : ∀ k, 21 ≤ k → k ≤ 30 → M0 k = G k) (hS : SMx M0 G ch b m 0 n y0) (hn : n + 272 < 40000) :
    wp (f_X11_readAbove y0 (iN (6 * b + m - 1))) (fun z => ∃ n' P, n ≤ n' ∧ n' ≤ n + 128 ∧ SMx M0 G (abF G (6 * b + m - 1) (sing G) ch) b m P n' z) := by
  rw [f_X11_readAbove]
  simp only [wp_some, wp_grd, wp_lb, wp_ite, wp_b1, wp_b2, wp_b3, wp_b4, wp_b5]
  refine lp_up (F := fun f (y : Ob) j => f_X11_readAbove_L2 f y (iN (6 * b + m - 1)) j) (V := fun c y => ∃ n' P, P ≤ c ∧ n ≤ n' ∧ n' ≤ n + 8 * ((List.range c).flatMap (fun c => flS G c (nn (G 21 0)))).length ∧ SMx M0 G (abF G (6 * b + m - 1) ((List.range c).flatMap (fun c => flS G c (nn (G 21 0)))) ch) b m P n' y) (hi := 10) ?_ 200 0 y0 (by omega) (by omega) ⟨n, 0, Nat.le_refl _, Nat.le_refl _, Nat.le_add_right _ _, hS⟩
  rintro f y c hc ⟨n', P, hP, hn1, hn2, hv⟩ hk
  have hfl := flS_k hG hc
  by_cases he : c = 10
  · subst he
    simp (disch := omega) only [f_X11_readAbove_L2, ↓nM_lit, iN_lit, iN_add, iN_mul, iN_lt, iN_le, iN_eq, iN_c, gd_iN, iN_nM, nM_iN, iN_ltM, nM_lt, nM_le, iN_leM, iN_0M, nM_p1, iN_0s1, decide_true, decide_eq_true_eq, Nat.not_lt_zero, if_true, if_false, wp_some, wp_grd, wp_lb, wp_ite, wp_b1, wp_b2, wp_b3, wp_b4, wp_b5, Nat.le_refl]
    exact ⟨n', P, hn1, by omega, hv⟩
  · have hc' : c < 10 := by omega
    simp (disch := omega) only [f_X11_readAbove_L2, ↓nM_lit, iN_lit, iN_add, iN_mul, iN_lt, iN_le, iN_eq, iN_c, gd_iN, iN_nM, nM_iN, iN_ltM, nM_lt, nM_le, iN_leM, iN_0M, nM_p1, iN_0s1, decide_true, decide_eq_true_eq, Nat.not_lt_zero, if_true, if_false, wp_some, wp_grd, wp_lb, wp_ite, wp_b1, wp_b2, wp_b3, wp_b4, wp_b5, show ¬ (10 ≤ c) by omega]
    refine wp_mono (X11_cat1 hG hM hc' (by omega) hv (by omega)) ?_
    rintro ⟨q1, q2⟩ ⟨n2, P2, h1, h2, h3, h4⟩
    have efl : (List.range (c + 1)).flatMap (fun c => flS G c (nn (G 21 0))) = (List.range c).flatMap (fun c => flS G c (nn (G 21 0))) ++ flS G c (nn (G 21 0)) := by
      rw [List.range_succ, List.flatMap_append]; simp
    refine hk q2 hc' ⟨n2, P2, h3, by omega, ?_, ?_⟩
    · rw [efl, List.length_append]; omega
    · rw [efl, abF_app]; exact h4
