theorem X11_mendOf {M x : Ob} {s i : Nat} (hM : WM M) (hx : Yq M x) (hs : s < 4) (hi : i < 2147483648) : wp (f_X11_mendOf x (iN s) (iN i)) (fun q => q.1 = moI (mdl M s i) ∧ Yq M q.2) := by
  have hc := Yq_c hx
  have hMx := WM_cg hc hM
  obtain ⟨h6, h9, -⟩ := WTxt_at hM.2.1 hs
  rw [f_X11_mendOf]
  simp only [wp_b1]
  refine wp_mono (X11_chart hMx.1 hMx.2.1 hMx.2.2.1 hMx.2.2.2 (fun k k1 k2 => gr_e k1 k2) hs) ?_
  rintro y ⟨y1, ⟨n, hn, hC⟩, hW⟩
  have ec : chM (gr x) (sr x) x s = cM M s := cM_cg hc s
  rw [ec, gr_cg hc] at hC hW
  have hyx : Yq M y := Yq_t hx (fun k hk => y1 k (by omega))
  have y9 : y 9 s = iN (evn M s) := by rw [hyx 9 (by omega)]; exact h9
  refine wp_mono (X11_faults hM.2.2.2 (fun k k1 k2 => by rw [hyx k (by omega)]; exact gr_e k1 k2) hC (by omega) hW hs y9 h6) ?_
  rintro z ⟨z1, z2⟩
  have hzM : Yq M z := Yq_t hyx (fun k hk => z1 k (by omega))
  have hcz := Yq_c hzM
  have hMz := WM_cg hcz hM
  have hCz : MCh z (gr M) (cM M s) n := MCh_cg (fun k h1 h2 => z1 k (by omega)) hC
  have hcost : f_X11_costNow z (iN s) = some (bef M s) := (X11_whole hCz (by omega) hW hs (by rw [hzM 9 (by omega)]; exact h9) h6).2
  have z43 : z 43 0 = iN (fM M s).length := z2.1
  have hlen : (fM M s).length ≤ 330 := by
    have h1 := FL_len (gr M) (wL (gr M) (cM M s) (evn M s))
    have h2 := wL_len hM.2.2.2 hW (evn M s)
    show (FL (gr M) (wL (gr M) (cM M s) (evn M s))).length ≤ 330
    omega
  rw [z43]
  have hlt : (iN i < iN (fM M s).length) ↔ i < (fM M s).length := iN_lt hi (by omega)
  unfold mdl
  by_cases hi' : i < (fM M s).length
  · rw [if_pos (hlt.mpr hi'), if_pos hi', hcost, eq_b1]
    have hok := fM_ok hM hs hW hi'
    obtain ⟨d, d1, d2, d3, -, d5, d6, d7⟩ := z2.2 i hi'
    change MC y (gr M) ((fM M s).getD i (dum, 0)).1 d at d3
    change ((fM M s).getD i (dum, 0)).2 < 3 at d5
    change tR (gr M) ((fM M s).getD i (dum, 0)).1 ((fM M s).getD i (dum, 0)).2 ≠ 0 at d6
    change z 45 i = iN ((fM M s).getD i (dum, 0)).2 at d7
    generalize ((fM M s).getD i (dum, 0)).1 = t at hok d3 d6 ⊢
    generalize ((fM M s).getD i (dum, 0)).2 = e at d5 d6 d7 ⊢
    have hzG : gr z = gr M := gr_cg hcz
    have cand : ∀ (u : Ob) (side : Nat), (side = 1 ∨ side = 2) → (∀ k, k ≠ 41 → k ≠ 42 → u k = z k) → wp (f_X11_candidate u (iN s) (iN i) (iN side)) (fun q => q.1 = moI (cdo (gr M) M s t e side) ∧ ∀ k, k ≠ 41 → k ≠ 42 → q.2 k = z k) := by
      intro u side hsd hu
      have huM : Yq M u := Yq_t hzM (fun k hk => hu k (by omega) (by omega))
      have hcu := Yq_c huM
      have hmc : MC u (gr u) t d := by
        rw [gr_cg hcu]
        exact MC_cg (M := y) (fun k k1 k2 => by rw [hu k (by omega) (by omega)]; exact z1 k (by omega)) d3
      refine wp_mono (X11_cand (WM_cg hcu hM) hs (by omega) (by rw [hu 44 (by decide) (by decide)]; exact d2) (by rw [hu 45 (by decide) (by decide)]; exact d7) d1 d5 (by rw [gr_cg hcu]; exact d6) hmc (OKt_cg hcu hok) hsd) ?_
      rintro ⟨q1, q2⟩ ⟨a1, a2⟩
      refine ⟨?_, fun k k1 k2 => by rw [a2 k k1 k2]; exact hu k k1 k2⟩
      simp only at a1 ⊢
      rw [a1, cdt_o, cdo_cg hcu]
    have k2 := cdo_ok (side := 2) hM hok d6 (Or.inr rfl)
    have k1 := cdo_ok (side := 1) hM hok d6 (Or.inl rfl)
    obtain ⟨⟨r8, u⟩, e8, a1, a2⟩ := cand z 2 (Or.inr rfl) (fun _ _ _ => rfl)
    simp only at a1 a2
    obtain ⟨⟨r11, v⟩, e11, b1, b2⟩ := cand u 1 (Or.inl rfl) a2
    simp only at b1 b2
    have e8' : f_X11_candidate z (iN s) (iN i) 2 = some (r8, u) := e8
    have e11' : f_X11_candidate u (iN s) (iN i) 1 = some (r11, v) := e11
    have hv : Yq M v := Yq_t hzM (fun k hk => b2 k (by omega) (by omega))
    unfold mdo
    generalize cdo (gr M) M s t e 2 = o2 at a1 k2 ⊢
    generalize cdo (gr M) M s t e 1 = o1 at b1 k1 ⊢
    subst a1
    subst b1
    rw [e8', eq_b2]
    show wp (bnd2 (f_X11_candidate u (iN s) (iN i) 1) _) _
    rw [e11', eq_b2]
    show wp (if moI o2 = -1 then f_X11_mendOf_J65 v (iN s) (bef M s) (moI o1) else bnd2 (f_X11_costWith v (iN s) (moI o2) (-1)) (fun r20 x_o21 => if bef M s ≤ r20 then f_X11_mendOf_J65 x_o21 (iN s) (bef M s) (moI o1) else some (moI o2, x_o21))) _
    rcases moI_nz hM hs k2 with ⟨e0, e1⟩ | ⟨e0, e1⟩
    · rw [if_pos (show moI o2 = -1 from e1), if_neg (fun h => (bet_e h).1 e0)]
      exact X11_J65 hM hv hs k1
    · rw [if_neg (show ¬ (moI o2 = -1) from e1)]
      have hcv := Yq_c hv
      obtain ⟨⟨r, w⟩, ew, c1, c2⟩ := X11_cost (M := v) (o1 := o2) (o2 := none) (WM_cg hcv hM) hs (by rw [okm_cg hcv]; exact k2) (fun _ _ h => by cases h)
      simp only at c1 c2
      rw [prc_cg hcv] at c1
      subst c1
      have ew' : f_X11_costWith v (iN s) (moI o2) (-1) = some (prc M s o2 none, w) := ew
      have hw : Yq M w := Yq_t hv (fun k hk => c2 k (by omega))
      rw [ew', eq_b2]
      show wp (if bef M s ≤ prc M s o2 none then f_X11_mendOf_J65 w (iN s) (bef M s) (moI o1) else some (moI o2, w)) _
      by_cases hle : bef M s ≤ prc M s o2 none
      · rw [if_pos hle, if_neg (fun h => absurd (bet_e h).2 (i32_nlt.mpr hle))]
        exact X11_J65 hM hw hs k1
      · rw [if_neg hle, if_pos (bet_y e0 (i32_nle.mp hle))]
        exact wp_some.mpr ⟨rfl, hw⟩
  · rw [if_neg (fun h => hi' (hlt.mp h)), if_neg hi']
    exact wp_some.mpr ⟨rfl, hzM⟩
theorem mdo_cg {M z : Ob} (h : cor M z) (s : Nat) (t : Tr) (e : Nat) : mdo z s t e = mdo M s t e := by
  unfold mdo
  rw [cdo_cg h, cdo_cg h, bet_cg h, bet_cg h]
theorem fM_cg {M z : Ob} (h : cor M z) (s : Nat) : fM z s = fM M s := by
  have ec : cM z s = cM M s := cM_cg h s
  unfold fM
  rw [ec, gr_cg h, evn_cg h]
theorem mdl_cg {M z : Ob} (h : cor M z) (s i : Nat) : mdl z s i = mdl M s i := by
  unfold mdl
  rw [fM_cg h, mdo_cg h]
theorem fA_5 {j : Nat} {K : Nat → Ob} {M : Ob} {s : Nat} (hs : s < 4) (hR : RD j K M s) (w : Int32) : wp (f_X10_faultAt K s w) (fun r => ∀ i, i ≠ 5 → r.2.2 i = K i) := by
  rw [f_X10_faultAt]
  simp only [wp_some, wp_grd, wp_lb, wp_ite, wp_b1, wp_b2, wp_b3, wp_b4, wp_b5]
  refine wp_mono (RD_grow hs hR (K 5)) ?_
  intro z hz
  have u5 : va_up K 5 z 5 = z := vu_eq _ _ _
  have u14 : va_up K 5 z (14 + s) = K (14 + s) := by rw [vu_ap, if_neg (by omega)]
  rw [u5, u14]
  refine wp_mono (X9_find hR.1.1.2.2.2 hz (wL_W hR.1.1.2.2.2 hR.2.2.2 _) w) ?_
  intro r _
  by_cases hr : r = -1
  · rw [if_pos hr]; exact fun i hi => vu_ne hi
  · rw [if_neg hr]; exact fun i hi => vu_ne hi
theorem op_mend {j : Nat} {K : Nat → Ob} {M : Ob} (h : RI j K M) (p1 p2 : Int32) : Op_mend RI j K M p1 p2 := by
  rcases in_or p1 (show 4 < 2147483648 by decide) with ⟨s, hs, e⟩ | hn
  · subst e
    obtain ⟨K', y, e1, e2, hR, h67, -, -, -⟩ := both_need (RI_67 (iN 0) h) hs
    have e1' : f_X10_readAsNeeded K (iN s) = some (0, s, K') := e1
    obtain ⟨r, er, hSS⟩ := X10_needS (RI_67 (iN 0) h) hs
    rw [e1] at er
    cases er
    obtain ⟨⟨r0, r1, K2⟩, g1, gR, g14, g9, gN, gc⟩ := RD_fa hs hR p2
    obtain ⟨q, m1, m2, m3, m4, m5⟩ := RD_mf hs hR
    have hlen := fM_len hR
    have e43 := m3.1
    rw [m4] at e43
    simp only at gR g14 g9 gc
    have hI2 : RI j K2 q := (RD_cg (fun k hk => m2 k (by omega)) gR).1
    rcases gc with ⟨c1, c2⟩ | ⟨c1, i, σ, f1, f2, f3, f4, f5, f6, f7, f8⟩
    · have hnb : nb p2 (fM y s).length := by
        rcases in_or p2 (show (fM y s).length < 2147483648 by omega) with ⟨i, hi, e⟩ | hn
        · exact absurd e (c2 i hi)
        · exact hn
      have i2 := isI_n hnb (by omega)
      subst c1
      refine ⟨1, 0, K2, 0, upo q 67 0 (iN 1), iN 1, ?_, ?_, congrArg some (u67 _ _), Or.inr ⟨rfl, rfl⟩, RI_j (RI_67 _ hI2)⟩
      · simp only [f_X10_mend, e1', eq_grd, eq_lb, eq_b1, eq_b2, eq_b3, eq_b4, eq_b5, if_true, hs, decide_true, g1, show ¬ (1 = 0) by decide, if_false]
      · simp (disch := omega) only [f_X11_mend, isS_y hs, may_1, eq_grd, eq_lb, eq_b1, eq_b2, eq_b3, eq_b4, eq_b5, ↓nM_lit, iN_lit, iN_add, iN_mul, iN_lt, iN_le, iN_eq, iN_c, gd_iN, iN_nM, nM_iN, iN_ltM, nM_lt, nM_le, iN_leM, iN_0M, nM_p1, iN_0s1, decide_true, decide_eq_true_eq, Nat.not_lt_zero, if_true, if_false, show ¬ (1 = 0) by decide, if_false, e2, m1, e43]
        rw [i2]
        simp (disch := omega) only [eq_grd, eq_lb, eq_b1, eq_b2, eq_b3, eq_b4, eq_b5, may_0, ↓nM_lit, iN_lit, iN_add, iN_mul, iN_lt, iN_le, iN_eq, iN_c, gd_iN, iN_nM, nM_iN, iN_ltM, nM_lt, nM_le, iN_leM, iN_0M, nM_p1, iN_0s1, decide_true, decide_eq_true_eq, Nat.not_lt_zero, if_true, if_false, if_true]
    · subst f2
      subst c1
      have i2 := isI_y f1 (by omega)
      obtain ⟨ra, ea, h5⟩ := fA_5 hs hR (iN i)
      rw [g1] at ea
      cases ea
      have h5' : ∀ i, i ≠ 5 → K2 i = K' i := h5
      have hS2 : KSS K2 s := fun t h1 h2 => by rw [h5' (9 + t) (by omega)]; exact hSS t h1 h2
      have hok := fM_ok hR.1.1 hs hR.2.2.2 f1
      have hmdl : mdl y s i = mdo y s ((fM y s).getD i (dum, 0)).1 ((fM y s).getD i (dum, 0)).2 := if_pos f1
      rw [← g14] at f7
      obtain ⟨⟨v0, v1, K3⟩, ev, v2, v3, v4⟩ := X10_mendOf gR hS2 hs f3 f4 f5 f7 hok
      simp only at v2 v3 v4
      rw [← hmdl] at v3
      subst v2
      subst v3
      have hx1 : cor y (upo q 67 0 (iN 0)) := fun k hk => by rw [upo_ne (by omega)]; exact m2 k (by omega)
      obtain ⟨⟨w1, w2⟩, ew, x1, x2⟩ := X11_mendOf (M := upo q 67 0 (iN 0)) (x := upo q 67 0 (iN 0)) (i := i) (WM_cg hx1 hR.1.1) (fun _ _ => rfl) hs (by omega)
      simp only at x1 x2
      rw [mdl_cg hx1] at x1
      subst x1
      refine ⟨0, moI (mdl y s i), K3, moI (mdl y s i), w2, iN 0, ?_, ?_, ?_, Or.inl ⟨rfl, rfl, rfl⟩, RI_j (RI_K (KF_c v4) (RI_cg (fun k hk => ?_) hI2))⟩
      · rw [← f6] at ev
        simp only [f_X10_mend, e1', eq_grd, eq_lb, eq_b1, eq_b2, eq_b3, eq_b4, eq_b5, if_true, hs, decide_true, g1, ev]
      · simp (disch := omega) only [f_X11_mend, isS_y hs, may_1, eq_grd, eq_lb, eq_b1, eq_b2, eq_b3, eq_b4, eq_b5, ↓nM_lit, iN_lit, iN_add, iN_mul, iN_lt, iN_le, iN_eq, iN_c, gd_iN, iN_nM, nM_iN, iN_ltM, nM_lt, nM_le, iN_leM, iN_0M, nM_p1, iN_0s1, decide_true, decide_eq_true_eq, Nat.not_lt_zero, if_true, if_false, show ¬ (1 = 0) by decide, if_false, e2, m1, e43]
        rw [i2]
        simp (disch := omega) only [eq_grd, eq_lb, eq_b1, eq_b2, eq_b3, eq_b4, eq_b5, may_1, ↓nM_lit, iN_lit, iN_add, iN_mul, iN_lt, iN_le, iN_eq, iN_c, gd_iN, iN_nM, nM_iN, iN_ltM, nM_lt, nM_le, iN_leM, iN_0M, nM_p1, iN_0s1, decide_true, decide_eq_true_eq, Nat.not_lt_zero, if_true, if_false, show ¬ (1 = 0) by decide, if_false, ew]
      · rw [f_X11_thrown, x2 67 (by omega), u67]
      · rw [x2 k (by omega)]; exact upo_ne (by omega)
  · refine ⟨1, 0, K, 0, upo M 67 0 (iN 1), iN 1, ?_, ?_, congrArg some (u67 _ _), Or.inr ⟨rfl, rfl⟩, RI_j (RI_67 _ h)⟩
    · simp only [f_X10_mend, rAN_n hn K, eq_grd, eq_lb, eq_b1, eq_b2, eq_b3, eq_b4, eq_b5]; rfl
    · simp (disch := omega) only [f_X11_mend, isS_n hn, may_0, eq_grd, eq_lb, eq_b1, eq_b2, eq_b3, eq_b4, eq_b5, ↓nM_lit, iN_lit, iN_add, iN_mul, iN_lt, iN_le, iN_eq, iN_c, gd_iN, iN_nM, nM_iN, iN_ltM, nM_lt, nM_le, iN_leM, iN_0M, nM_p1, iN_0s1, decide_true, decide_eq_true_eq, Nat.not_lt_zero, if_true, if_false, if_true]
