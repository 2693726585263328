theorem corK_0 {K : Nat → Ob} {i : Nat} {v : Int32} : corK K (va_up K 0 (upo (K 0) 11 i v)) := ⟨fun k hk => vu_ne (by omega), fun k _ _ _ => by rw [vu_ne (by decide)], by rw [vu_eq, upo_ne (by decide)]⟩
theorem corK_5 {K : Nat → Ob} {y : Ob} : corK K (va_up K 5 y) := ⟨fun k hk => vu_ne (by omega), fun k _ _ _ => by rw [vu_ne (by decide)], by rw [vu_ne (by decide)]⟩
/-- the mends of the first two faults, and which of them are put together, by the class -/
theorem X10_pair {j : Nat} {K : Nat → Ob} {M : Ob} {s : Nat} (hR : RD j K M s) (hS : KSS K s) (hs : s < 4) : okm M s (mdl M s 0) ∧ okm M s (mdl M s 1) ∧
    ∃ z r10 K2 r17 K4 K6, f_X9_grow (K 5) (K (14 + s)) = some z ∧ f_X9_findRelaxed (va_up K 5 z 5) (va_up K 5 z (14 + s)) 0 = some r10 ∧ f_X10_mendOf (va_up K 5 z) (iN s) r10 = some (0, moI (mdl M s 0), K2) ∧
      f_X9_findRelaxed (va_up K2 0 (upo (K2 0) 11 (0 : Int32).toNatClampNeg (moI (mdl M s 0))) 5) (va_up K2 0 (upo (K2 0) 11 (0 : Int32).toNatClampNeg (moI (mdl M s 0))) (14 + s)) 1 = some r17 ∧
      f_X10_mendOf (va_up K2 0 (upo (K2 0) 11 (0 : Int32).toNatClampNeg (moI (mdl M s 0)))) (iN s) r17 = some (0, moI (mdl M s 1), K4) ∧
      f_X10_chosenOf (va_up K4 0 (upo (K4 0) 11 (1 : Int32).toNatClampNeg (moI (mdl M s 1)))) (iN s) = some (0, iN (bes M s (mdl M s 0) (mdl M s 1)), K6) ∧ corK K K6 ∧ K6 0 11 0 = moI (mdl M s 0) ∧ K6 0 11 1 = moI (mdl M s 1) := by
  have hT := fM_nz hs hR
  have ha := mdl_ok (i := 0) hR.1.1 hs hR.2.2.2 hT
  have hb := mdl_ok (i := 1) hR.1.1 hs hR.2.2.2 hT
  refine ⟨ha, hb, ?_⟩
  have z0 : (0 : Int32).toNatClampNeg = 0 := by decide
  have z1 : (1 : Int32).toNatClampNeg = 1 := by decide
  rw [z0, z1]
  obtain ⟨z, g1, g2⟩ := RD_grow hs hR (K 5)
  have hR1 : RD j (va_up K 5 z) M s := RD_K hs corK_5 hR
  have hS1 : KSS (va_up K 5 z) s := fun t h1 h2 => by rw [vu_ne (by omega)]; exact hS t h1 h2
  have hN1 : NR (va_up K 5 z (14 + s)) (gr M) (va_up K 5 z 5) (wL (gr M) (cM M s) (evn M s)) := by
    rw [vu_eq, vu_ne (by omega)]; exact g2
  obtain ⟨r10, K2, e1, e2, f1⟩ := X10_mdl hR1 hS1 hs hN1 0 (by decide)
  have hR2 := RD_K hs (KF_c f1) hR1
  have hS2 := KF_S hs f1 hS1
  have hR3 : RD j (va_up K2 0 (upo (K2 0) 11 0 (moI (mdl M s 0)))) M s := RD_K hs corK_0 hR2
  have hS3 : KSS (va_up K2 0 (upo (K2 0) 11 0 (moI (mdl M s 0)))) s := fun t h1 h2 => by rw [vu_ne (by omega)]; exact hS2 t h1 h2
  have hN3 : NR (va_up K2 0 (upo (K2 0) 11 0 (moI (mdl M s 0))) (14 + s)) (gr M) (va_up K2 0 (upo (K2 0) 11 0 (moI (mdl M s 0))) 5) (wL (gr M) (cM M s) (evn M s)) := by
    rw [vu_ne (by omega), vu_ne (by omega), f1.1 (14 + s) (by omega) (by omega) (by omega) (by omega) (by omega), f1.1 5 (by omega) (by omega) (by omega) (by omega) (by omega)]
    exact hN1
  obtain ⟨r17, K4, e3, e4, f2⟩ := X10_mdl hR3 hS3 hs hN3 1 (by decide)
  have hR4 := RD_K hs (KF_c f2) hR3
  have hS4 := KF_S hs f2 hS3
  have hR5 : RD j (va_up K4 0 (upo (K4 0) 11 1 (moI (mdl M s 1)))) M s := RD_K hs corK_0 hR4
  have hS5 : KSS (va_up K4 0 (upo (K4 0) 11 1 (moI (mdl M s 1)))) s := fun t h1 h2 => by rw [vu_ne (by omega)]; exact hS4 t h1 h2
  have k0 : va_up K4 0 (upo (K4 0) 11 1 (moI (mdl M s 1))) 0 11 0 = moI (mdl M s 0) := by
    rw [vu_eq, upo_ap, if_neg (by decide), f2.2.2 11 (by decide), vu_eq, upo_ap, if_pos ⟨rfl, rfl⟩]
  have k1 : va_up K4 0 (upo (K4 0) 11 1 (moI (mdl M s 1))) 0 11 1 = moI (mdl M s 1) := by
    rw [vu_eq, upo_ap, if_pos ⟨rfl, rfl⟩]
  obtain ⟨⟨v0, v1, K6⟩, e5, c1, c2, f3⟩ := X10_chosen hR5 hS5 hs ha hb k0 k1
  simp only at c1 c2 f3
  subst c1
  subst c2
  refine ⟨z, r10, K2, r17, K4, K6, g1, e1, e2, e3, e4, e5, ?_, by rw [f3.2.2 11 (by decide)]; exact k0, by rw [f3.2.2 11 (by decide)]; exact k1⟩
  exact corK_t (corK_t (corK_t (corK_t (corK_t corK_5 (KF_c f1)) corK_0) (KF_c f2)) corK_0) (KF_c f3)
theorem op_best {j : Nat} {K : Nat → Ob} {M : Ob} (h : RI j K M) (p1 : Int32) : Op_best RI j K M p1 := by
  rcases in_or p1 (show 4 < 2147483648 by decide) with ⟨s, hs, e⟩ | hn
  · subst e
    obtain ⟨K', y, e1, e2, hR, h67, -, -, -⟩ := both_need (RI_67 (iN 0) h) hs
    have e1' : f_X10_readAsNeeded K (iN s) = some (0, s, K') := e1
    obtain ⟨r, er, hSS⟩ := X10_needS (RI_67 (iN 0) h) hs
    rw [e1] at er
    cases er
    obtain ⟨ha, hb, z, r10, K2, r17, K4, K6, g1, g2, g3, g4, g5, g6, g7, -, -⟩ := X10_pair hR hSS hs
    obtain ⟨⟨v, w⟩, ew, b1, b2⟩ := X11_bestOf hR.1.1 (fun _ _ => rfl) hs ha hb
    simp only at b1 b2
    subst b1
    refine ⟨0, iN (bes y s (mdl y s 0) (mdl y s 1)), K6, iN (bes y s (mdl y s 0) (mdl y s 1)), w, iN 0, ?_, ?_, ?_, Or.inl ⟨rfl, rfl, rfl⟩, RI_j (RI_cg (fun k hk => b2 k (by omega)) (RI_K g7 hR.1))⟩
    · simp only [f_X10_best, e1', eq_grd, eq_lb, eq_b1, eq_b2, eq_b3, eq_b4, eq_b5, if_true, hs, decide_true, g1, g2, g3, g4, g5, g6]
    · simp (disch := omega) only [f_X11_best, isS_y hs, may_1, eq_grd, eq_lb, eq_b1, eq_b2, eq_b3, eq_b4, eq_b5, ↓nM_lit, iN_lit, iN_add, iN_mul, iN_lt, iN_le, iN_eq, iN_c, gd_iN, iN_nM, nM_iN, iN_ltM, nM_lt, nM_le, iN_leM, iN_0M, nM_p1, iN_0s1, decide_true, decide_eq_true_eq, Nat.not_lt_zero, if_true, if_false, show ¬ (1 = 0) by decide, if_false, e2, ew]
    · rw [f_X11_thrown, b2 67 (by omega), h67, u67]
  · refine ⟨1, 0, K, 0, upo M 67 0 (iN 1), iN 1, ?_, ?_, congrArg some (u67 _ _), Or.inr ⟨rfl, rfl⟩, RI_j (RI_67 _ h)⟩
    · simp only [f_X10_best, rAN_n hn K, eq_grd, eq_lb, eq_b1, eq_b2, eq_b3, eq_b4, eq_b5]; rfl
    · simp (disch := omega) only [f_X11_best, isS_n hn, may_0, eq_grd, eq_lb, eq_b1, eq_b2, eq_b3, eq_b4, eq_b5, ↓nM_lit, iN_lit, iN_add, iN_mul, iN_lt, iN_le, iN_eq, iN_c, gd_iN, iN_nM, nM_iN, iN_ltM, nM_lt, nM_le, iN_leM, iN_0M, nM_p1, iN_0s1, decide_true, decide_eq_true_eq, Nat.not_lt_zero, if_true, if_false, if_true]
