theorem op_mendAll {j : Nat} {K : Nat → Ob} {M : Ob} (hj : j < 512) (h : RI j K M) (p1 : Int32) : Op_mendAll RI j K M p1 := by
  rcases in_or p1 (show 4 < 2147483648 by decide) with ⟨s, hs, e⟩ | hn
  · subst e
    obtain ⟨K', y, e1, e2, hR, h67, -, -, -⟩ := both_need (RI_67 (iN 0) h) hs
    have e1' : f_X10_readAsNeeded K (iN s) = some (0, s, K') := e1
    obtain ⟨r, er, hSS⟩ := X10_needS (RI_67 (iN 0) h) hs
    rw [e1] at er
    cases er
    obtain ⟨ha, hb, z, r10, K2, r17, K4, K6, g1, g2, g3, g4, g5, g6, g7, k0, k1⟩ := X10_pair hR hSS hs
    obtain ⟨⟨v1, y1⟩, m1, a1, a2⟩ := X11_mendOf (M := y) (i := 0) hR.1.1 (fun _ _ => rfl) hs (by decide)
    simp only at a1 a2
    obtain ⟨⟨v2, y2⟩, m2, b1, b2⟩ := X11_mendOf (M := y) (i := 1) hR.1.1 a2 hs (by decide)
    simp only at b1 b2
    obtain ⟨⟨v3, x⟩, m3, c1, c2⟩ := X11_bestOf (M := y) hR.1.1 b2 hs ha hb
    simp only at c1 c2
    subst a1
    subst b1
    subst c1
    have hbk := bes_k y s (mdl y s 0) (mdl y s 1)
    have hIx : RI j K6 x := RI_cg (fun k hk => c2 k (by omega)) (RI_K g7 hR.1)
    have x67 : x 67 0 = iN 0 := by rw [c2 67 (by omega), h67, u67]
    have hcx := Yq_c c2
    have ha' : okm x s (mdl y s 0) := by rw [okm_cg hcx]; exact ha
    have hb' : okm x s (mdl y s 1) := by rw [okm_cg hcx]; exact hb
    generalize mdl y s 0 = a at *
    generalize mdl y s 1 = b at *
    generalize bes y s a b = k at *
    have m1' : f_X11_mendOf y (iN s) 0 = some (moI a, y1) := m1
    have m2' : f_X11_mendOf y1 (iN s) 1 = some (moI b, y2) := m2
    have gs : gd (iN s) 4 = true := by rw [gd_iN (by omega)]; exact decide_eq_true hs
    have eR : f_X11_mendAll M (iN s) = if iN k = 0 then f_X11_mendAll_J56 x (iN s) (moI a) (moI b) (iN k) (iN s) (x 55 s) 0 else f_X11_mendAll_J56 x (iN s) (moI a) (moI b) (iN k) (iN s) (x 55 s) 1 := by
      have c : (iN s).toNatClampNeg = s := iN_c (by omega)
      simp only [f_X11_mendAll, isS_y hs, may_1, eq_grd, eq_lb, eq_b1, eq_b2, eq_b3, eq_b4, eq_b5, show ¬ (iN 1 = 0) by decide, if_false, e2, m1', m2', m3, gs, c]
    have eC : f_X10_mendAll K (iN s) = if iN k = 0 then bnd3 (f_X10_readAsNeeded K6 (iN s)) (fun k29 r30 z_K31 => if k29 = 0 then grd (decide (r30 < 4)) (bnd1 (f_X0_wholePrice (z_K31 (14 + r30))) (fun r35 => some (0, r35, z_K31))) else some (k29, 0, z_K31)) else bnd2 (f_X10_sentenceAt K6 (iN s)) (fun k37 r38 => if k37 = 0 then grd (decide (r38 < 4)) (bnd1 (f_X10_mendIn K6 (iN k) 0) (fun r42 => bnd1 (f_X10_putMend (K6 (9 + r38)) r42) (fun y_q144 => lb (va_up K6 (9 + r38) y_q144) (fun z_K46 => bnd1 (f_X10_mendIn z_K46 (iN k) 1) (fun r47 => bnd1 (f_X10_putMend (z_K46 (9 + r38)) r47) (fun y_q149 => lb (va_up z_K46 (9 + r38) y_q149) (fun z_K51 => bnd1 (f_X6_outdate (z_K51 (9 + r38))) (fun y_o52 => lb (va_up z_K51 (9 + r38) y_o52) (fun z_K54 => bnd3 (f_X10_readAsNeeded z_K54 (iN s)) (fun k55 r56 z_K57 => if k55 = 0 then grd (decide (r56 < 4)) (bnd1 (f_X0_wholePrice (z_K57 (14 + r56))) (fun r61 => some (0, r61, z_K57))) else some (k55, 0, z_K57))))))))))) else some (k37, 0, K6)) := by
      simp only [f_X10_mendAll, e1', eq_grd, eq_lb, eq_b1, eq_b2, eq_b3, eq_b4, eq_b5, if_true, hs, decide_true, g1, g2, g3, g4, g5, g6]
    rcases hbk with hk | ⟨hk, ho⟩
    · subst hk
      rw [if_pos (show iN 0 = 0 from rfl)] at eR eC
      rw [J56_0 hIx.1 hs hb'] at eR
      obtain ⟨K7, y7, n1, n2, hR7, n67, -, -, -⟩ := both_need hIx hs
      obtain ⟨w1, w2⟩ := RD_w hs hR7
      refine ⟨0, wK (gr y7) (cM y7 s) (evn y7 s), K7, wK (gr y7) (cM y7 s) (evn y7 s), y7, iN 0, ?_, ?_, ?_, Or.inl ⟨rfl, rfl, rfl⟩, RI_j hR7.1⟩
      · rw [eC, n1]
        simp only [eq_grd, eq_lb, eq_b1, eq_b2, eq_b3, eq_b4, eq_b5, if_true, hs, decide_true, w1]
      · rw [eR, finM, n2, eq_b1, w2, eq_b1]
      · rw [f_X11_thrown, n67, x67]
    · have hkz : ¬ (iN k = 0) := by
        show ¬ (iN k = iN 0)
        rw [iN_eq (by omega) (by omega)]; omega
      rw [if_neg hkz] at eR eC
      rw [J56_k hIx.1 hs ha' hb' hk ho] at eR
      obtain ⟨q0, -⟩ := X10_mendIn k0 k1 hk
      have hn40 := WLex_nw hIx.1.1
      obtain ⟨z1, p1, w1⟩ := X10_put (hIx.2.2.1 s hs).1 (sA a k) (fun p w e => ⟨(okm_A ha' k p w e).1, by have := (okm_A ha' k p w e).2; omega⟩)
      obtain ⟨z2, p2, w2⟩ := X10_put w1 (sB b k) (fun p w e => ⟨(okm_B hb' k p w e).1, by have := (okm_B hb' k p w e).2; omega⟩)
      obtain ⟨-, q1⟩ := X10_mendIn (K := va_up K6 (9 + s) z1) (by rw [vu_ne (by omega)]; exact k0) (by rw [vu_ne (by omega)]; exact k1) hk
      have hI2 := RI_put hj hIx hs (okm_A ha' k) (okm_B hb' k) w2
      have m67 : pu2 (upo x 55 s (x 55 s + iN 1)) s (sA a k) (sB b k) 67 0 = iN 0 := by
        unfold pu2
        rw [puM_ne (by decide), puM_ne (by decide), upo_ne (by decide)]; exact x67
      obtain ⟨K7, y7, n1, n2, hR7, n67, -, -, -⟩ := both_need hI2 hs
      obtain ⟨u1, u2⟩ := RD_w hs hR7
      refine ⟨0, wK (gr y7) (cM y7 s) (evn y7 s), K7, wK (gr y7) (cM y7 s) (evn y7 s), y7, iN 0, ?_, ?_, ?_, Or.inl ⟨rfl, rfl, rfl⟩, hR7.1⟩
      · rw [eC, X10_sAt K6 hs]
        simp only [eq_grd, eq_lb, eq_b1, eq_b2, eq_b3, eq_b4, eq_b5, if_true, hs, decide_true, q0, p1, q1, p2, vu_eq, vu_vu, outd, n1, u1]
      · rw [eR, finM, n2, eq_b1, u2, eq_b1]
      · rw [f_X11_thrown, n67, m67]
  · refine ⟨1, 0, K, 0, upo M 67 0 (iN 1), iN 1, ?_, ?_, congrArg some (u67 _ _), Or.inr ⟨rfl, rfl⟩, RI_j (RI_67 _ h)⟩
    · simp only [f_X10_mendAll, rAN_n hn K, eq_grd, eq_lb, eq_b1, eq_b2, eq_b3, eq_b4, eq_b5]; rfl
    · simp (disch := omega) only [f_X11_mendAll, isS_n hn, may_0, eq_grd, eq_lb, eq_b1, eq_b2, eq_b3, eq_b4, eq_b5, ↓nM_lit, iN_lit, iN_add, iN_mul, iN_lt, iN_le, iN_eq, iN_c, gd_iN, iN_nM, nM_iN, iN_ltM, nM_lt, nM_le, iN_leM, iN_0M, nM_p1, iN_0s1, decide_true, decide_eq_true_eq, Nat.not_lt_zero, if_true, if_false, if_true]
theorem ops_RI : OPS RI := by
  intro j K M h hj
  exact ⟨fun p1 => op_word h p1, fun p1 p2 p3 p4 p5 p6 => op_reading hj h p1 p2 p3 p4 p5 p6, fun p1 p2 p3 p4 p5 => op_guess hj h p1 p2 p3 p4 p5, fun p1 => op_readings h p1, fun p1 p2 p3 => op_sure hj h p1 p2 p3, fun p1 p2 p3 p4 => op_seen hj h p1 p2 p3 p4, fun p1 p2 p3 p4 => op_rule hj h p1 p2 p3 p4, fun p1 p2 p3 p4 p5 => op_equate hj h p1 p2 p3 p4 p5, fun p1 p2 => op_append hj h p1 p2, fun p1 p2 p3 => op_change hj h p1 p2 p3, fun p1 p2 => op_remove hj h p1 p2, fun p1 => op_length h p1, fun p1 p2 => op_wordAt h p1 p2, fun p1 p2 => op_left h p1 p2, fun p1 p2 => op_referent h p1 p2, fun p1 p2 p3 => op_edges h p1 p2 p3, fun p1 p2 p3 p4 => op_edge h p1 p2 p3 p4, fun p1 p2 p3 p4 => op_edgeCost h p1 p2 p3 p4, fun p1 => op_cost h p1, fun p1 => op_costAnew h p1, fun p1 => op_faults h p1, fun p1 p2 => op_fault h p1 p2, fun p1 => op_fragments h p1, fun p1 p2 => op_fragment h p1 p2, fun p1 p2 => op_mend h p1 p2, fun p1 => op_best h p1, fun p1 => op_mendAll hj h p1, op_reads h, fun p1 p2 p3 p4 => op_pattern h p1 p2 p3 p4, fun p1 p2 => op_off h p1 p2, fun p1 => op_styleFaults h p1, fun p1 p2 => op_styleFault h p1 p2⟩
