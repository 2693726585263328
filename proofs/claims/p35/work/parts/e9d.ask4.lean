/-! Costs, faults, fragments. -/
theorem rAN_n {p : Int32} (h : nb p 4) (K : Nat → Ob) : f_X10_readAsNeeded K p = some (1, 0, K) := by
  simp only [f_X10_readAsNeeded, sAt_n h K, eq_grd, eq_lb, eq_b1, eq_b2, eq_b3, eq_b4, eq_b5]; rfl
/-- what the two charts give -/
theorem RD_w {j : Nat} {K : Nat → Ob} {M : Ob} {s : Nat} (hs : s < 4) (h : RD j K M s) : f_X0_wholePrice (K (14 + s)) = some (wK (gr M) (cM M s) (evn M s)) ∧ f_X11_costNow M (iN s) = some (wK (gr M) (cM M s) (evn M s)) := by
  obtain ⟨hI, ⟨-, -, -, -, c0, -, hC⟩, ⟨n, n1, hC2⟩, hW⟩ := h
  obtain ⟨-, h9, h6⟩ := RI_len hI hs
  exact ⟨(X0_whole hC hW c0 h6).2, (X11_whole hC2 (by omega) hW hs h9 h6).2⟩
theorem op_cost {j : Nat} {K : Nat → Ob} {M : Ob} (h : RI j K M) (p1 : Int32) : Op_cost RI j K M p1 := by
  rcases in_or p1 (show 4 < 2147483648 by decide) with ⟨s, hs, e⟩ | hn
  · subst e
    obtain ⟨K', y, e1, e2, hR, h67, -⟩ := both_need (RI_67 (iN 0) h) hs
    obtain ⟨w1, w2⟩ := RD_w hs hR
    refine ⟨0, wK (gr y) (cM y s) (evn y s), K', wK (gr y) (cM y s) (evn y s), y, iN 0, ?_, ?_, ?_, Or.inl ⟨rfl, rfl, rfl⟩, RI_j hR.1⟩
    · have e1' : f_X10_readAsNeeded K (iN s) = some (0, s, K') := e1
      simp only [f_X10_cost, e1', eq_grd, eq_lb, eq_b1, eq_b2, eq_b3, eq_b4, eq_b5, if_true, hs, decide_true, w1]
    · simp (disch := omega) only [f_X11_cost, isS_y hs, may_1, eq_grd, eq_lb, eq_b1, eq_b2, eq_b3, eq_b4, eq_b5, ↓nM_lit, iN_lit, iN_add, iN_mul, iN_lt, iN_le, iN_eq, iN_c, gd_iN, iN_nM, nM_iN, iN_ltM, nM_lt, nM_le, iN_leM, iN_0M, nM_p1, iN_0s1, decide_true, decide_eq_true_eq, Nat.not_lt_zero, if_true, if_false, show ¬ (1 = 0) by decide, if_false, e2, w2]
    · rw [f_X11_thrown, h67, u67]
  · refine ⟨1, 0, K, 0, upo M 67 0 (iN 1), iN 1, ?_, ?_, congrArg some (u67 _ _), Or.inr ⟨rfl, rfl⟩, RI_j (RI_67 _ h)⟩
    · simp only [f_X10_cost, rAN_n hn K, eq_grd, eq_lb, eq_b1, eq_b2, eq_b3, eq_b4, eq_b5]; rfl
    · simp (disch := omega) only [f_X11_cost, isS_n hn, may_0, eq_grd, eq_lb, eq_b1, eq_b2, eq_b3, eq_b4, eq_b5, ↓nM_lit, iN_lit, iN_add, iN_mul, iN_lt, iN_le, iN_eq, iN_c, gd_iN, iN_nM, nM_iN, iN_ltM, nM_lt, nM_le, iN_leM, iN_0M, nM_p1, iN_0s1, decide_true, decide_eq_true_eq, Nat.not_lt_zero, if_true, if_false, if_true]
theorem RD_grow {j : Nat} {K : Nat → Ob} {M : Ob} {s : Nat} (hs : s < 4) (h : RD j K M s) (y : Ob) : wp (f_X9_grow y (K (14 + s))) (fun z => NR (K (14 + s)) (gr M) z (wL (gr M) (cM M s) (evn M s))) := by
  obtain ⟨hI, ⟨-, -, -, -, c0, -, hC⟩, -, hW⟩ := h
  exact X9_grow hI.1.2.2.2 hC hW c0 (RI_len hI hs).2.2
theorem RI_K5 {j : Nat} {K : Nat → Ob} {M : Ob} (h : RI j K M) {i : Nat} (hi : i = 4 ∨ i = 5 ∨ i = 6 ∨ i = 13 ∨ i = 18) (y : Ob) : RI j (va_up K i y) M := by
  refine RI_K ⟨fun k hk => by rw [vu_ap, if_neg (by omega)], fun k _ _ _ => by rw [vu_ap, if_neg (by omega)], by rw [vu_ap, if_neg (by omega)]⟩ h
theorem op_costAnew {j : Nat} {K : Nat → Ob} {M : Ob} (h : RI j K M) (p1 : Int32) : Op_costAnew RI j K M p1 := by
  rcases in_or p1 (show 4 < 2147483648 by decide) with ⟨s, hs, e⟩ | hn
  · subst e
    obtain ⟨K', y, e1, e2, hR, h67, -⟩ := both_need (RI_67 (iN 0) h) hs
    obtain ⟨w1, w2⟩ := RD_w hs hR
    obtain ⟨z, g1, g2⟩ := RD_grow hs hR (K' 5)
    have hI := hR.1
    obtain ⟨⟨r1, r2, r3⟩, f1, f2, f3⟩ := X9_price (y := z) (q2 := K' 3) hI.1.2.2.2 hI.2.1.2.2.1 (fun _ _ _ _ => rfl) hR.2.2.2 g2
    simp only at f2 f3
    refine ⟨0, wK (gr y) (cM y s) (evn y s), va_up (va_up (va_up K' 5 z) 5 r2) 3 r3, wK (gr y) (cM y s) (evn y s), y, iN 0, ?_, ?_, ?_, Or.inl ⟨rfl, rfl, rfl⟩, RI_j ?_⟩
    · have e1' : f_X10_readAsNeeded K (iN s) = some (0, s, K') := e1
      have u5 : va_up K' 5 z 5 = z := vu_eq _ _ _
      have u14 : va_up K' 5 z (14 + s) = K' (14 + s) := by rw [vu_ap, if_neg (by omega)]
      have u3 : va_up K' 5 z 3 = K' 3 := by rw [vu_ap, if_neg (by omega)]
      simp only [f_X10_costAnew, e1', eq_grd, eq_lb, eq_b1, eq_b2, eq_b3, eq_b4, eq_b5, if_true, hs, decide_true, g1, u5, u14, u3, f1, f2]
    · simp (disch := omega) only [f_X11_costAnew, f_X11_cost, isS_y hs, may_1, eq_grd, eq_lb, eq_b1, eq_b2, eq_b3, eq_b4, eq_b5, ↓nM_lit, iN_lit, iN_add, iN_mul, iN_lt, iN_le, iN_eq, iN_c, gd_iN, iN_nM, nM_iN, iN_ltM, nM_lt, nM_le, iN_leM, iN_0M, nM_p1, iN_0s1, decide_true, decide_eq_true_eq, Nat.not_lt_zero, if_true, if_false, show ¬ (1 = 0) by decide, if_false, e2, w2]
    · rw [f_X11_thrown, h67, u67]
    · refine RI_K ⟨fun k hk => by rw [vu_ap, if_neg (by omega), vu_ap, if_neg (by omega), vu_ap, if_neg (by omega)], fun k k1 k2 k3 => by rw [vu_ap, if_pos rfl]; exact f3 k k1 k2 k3, by rw [vu_ap, if_neg (by omega), vu_ap, if_neg (by omega), vu_ap, if_neg (by omega)]⟩ hI
  · refine ⟨1, 0, K, 0, upo M 67 0 (iN 1), iN 1, ?_, ?_, congrArg some (u67 _ _), Or.inr ⟨rfl, rfl⟩, RI_j (RI_67 _ h)⟩
    · simp only [f_X10_costAnew, rAN_n hn K, eq_grd, eq_lb, eq_b1, eq_b2, eq_b3, eq_b4, eq_b5]; rfl
    · simp (disch := omega) only [f_X11_costAnew, f_X11_cost, isS_n hn, may_0, eq_grd, eq_lb, eq_b1, eq_b2, eq_b3, eq_b4, eq_b5, ↓nM_lit, iN_lit, iN_add, iN_mul, iN_lt, iN_le, iN_eq, iN_c, gd_iN, iN_nM, nM_iN, iN_ltM, nM_lt, nM_le, iN_leM, iN_0M, nM_p1, iN_0s1, decide_true, decide_eq_true_eq, Nat.not_lt_zero, if_true, if_false, if_true]
/-- the faults, on both sides -/
abbrev fM (M : Ob) (s : Nat) : List Fa := FL (gr M) (wL (gr M) (cM M s) (evn M s))
theorem fM_len {j : Nat} {K : Nat → Ob} {M : Ob} {s : Nat} (h : RD j K M s) : (fM M s).length ≤ 330 := by
  have h1 := FL_len (gr M) (wL (gr M) (cM M s) (evn M s))
  have h2 := wL_len h.1.1.2.2.2 h.2.2.2 (evn M s)
  show (FL (gr M) (wL (gr M) (cM M s) (evn M s))).length ≤ 330
  omega
theorem RD_mf {j : Nat} {K : Nat → Ob} {M : Ob} {s : Nat} (hs : s < 4) (h : RD j K M s) : wp (f_X11_findFaults M (iN s)) (fun z => fr6 M z ∧ MF z (gr z) z (fM z s) ∧ fM z s = fM M s ∧ RD j K z s) := by
  obtain ⟨hI, -, ⟨n, n1, hC2⟩, hW⟩ := id h
  obtain ⟨-, h9, h6⟩ := RI_len hI hs
  refine wp_mono (X11_faults hI.1.2.2.2 (fun k k1 k2 => gr_e k1 k2) hC2 (by omega) hW hs h9 h6) ?_
  rintro z ⟨a1, a2⟩
  have hcr : cor M z := fun k hk => a1 k (by omega)
  have hRD : RD j K z s := RD_cg (fun k hk => a1 k (by omega)) h
  have ef : fM z s = fM M s := by
    have ec : cM z s = cM M s := cM_cg hcr s
    unfold fM
    rw [ec, gr_cg hcr, evn_cg hcr]
  refine ⟨a1, ?_, ef, hRD⟩
  rw [ef, gr_cg hcr]
  refine ⟨a2.1, ?_⟩
  intro i hi
  obtain ⟨d, d1, d2, d3, d4⟩ := a2.2 i hi
  exact ⟨d, d1, d2, MC_cg (fun k k1 k2 => a1 k (by omega)) d3, d4⟩
theorem op_faults {j : Nat} {K : Nat → Ob} {M : Ob} (h : RI j K M) (p1 : Int32) : Op_faults RI j K M p1 := by
  rcases in_or p1 (show 4 < 2147483648 by decide) with ⟨s, hs, e⟩ | hn
  · subst e
    obtain ⟨K', y, e1, e2, hR, h67, -⟩ := both_need (RI_67 (iN 0) h) hs
    obtain ⟨z, g1, g2⟩ := RD_grow hs hR (K' 5)
    obtain ⟨q, m1, m2, m3, m4, m5⟩ := RD_mf hs hR
    have hc := X9_count hR.1.1.2.2.2 g2 (wL_W hR.1.1.2.2.2 hR.2.2.2 _)
    have e43 := m3.1
    rw [m4] at e43
    refine ⟨0, iN (fM y s).length, va_up K' 5 z, iN (fM y s).length, q, iN 0, ?_, ?_, ?_, Or.inl ⟨rfl, rfl, rfl⟩, RI_j (RI_K5 m5.1 (by omega) _)⟩
    · have e1' : f_X10_readAsNeeded K (iN s) = some (0, s, K') := e1
      have u5 : va_up K' 5 z 5 = z := vu_eq _ _ _
      have u14 : va_up K' 5 z (14 + s) = K' (14 + s) := by rw [vu_ap, if_neg (by omega)]
      simp only [f_X10_faults, e1', eq_grd, eq_lb, eq_b1, eq_b2, eq_b3, eq_b4, eq_b5, if_true, hs, decide_true, g1, u5, u14, hc]
    · simp (disch := omega) only [f_X11_faults, isS_y hs, may_1, eq_grd, eq_lb, eq_b1, eq_b2, eq_b3, eq_b4, eq_b5, ↓nM_lit, iN_lit, iN_add, iN_mul, iN_lt, iN_le, iN_eq, iN_c, gd_iN, iN_nM, nM_iN, iN_ltM, nM_lt, nM_le, iN_leM, iN_0M, nM_p1, iN_0s1, decide_true, decide_eq_true_eq, Nat.not_lt_zero, if_true, if_false, show ¬ (1 = 0) by decide, if_false, e2, m1, e43]
    · rw [f_X11_thrown, m2 67 (by omega), h67, u67]
  · refine ⟨1, 0, K, 0, upo M 67 0 (iN 1), iN 1, ?_, ?_, congrArg some (u67 _ _), Or.inr ⟨rfl, rfl⟩, RI_j (RI_67 _ h)⟩
    · simp only [f_X10_faults, rAN_n hn K, eq_grd, eq_lb, eq_b1, eq_b2, eq_b3, eq_b4, eq_b5]; rfl
    · simp (disch := omega) only [f_X11_faults, isS_n hn, may_0, eq_grd, eq_lb, eq_b1, eq_b2, eq_b3, eq_b4, eq_b5, ↓nM_lit, iN_lit, iN_add, iN_mul, iN_lt, iN_le, iN_eq, iN_c, gd_iN, iN_nM, nM_iN, iN_ltM, nM_lt, nM_le, iN_leM, iN_0M, nM_p1, iN_0s1, decide_true, decide_eq_true_eq, Nat.not_lt_zero, if_true, if_false, if_true]
/-- a fault's edge, by the class -/
theorem RD_fa {j : Nat} {K : Nat → Ob} {M : Ob} {s : Nat} (hs : s < 4) (h : RD j K M s) (w : Int32) : wp (f_X10_faultAt K s w) (fun r => RD j r.2.2 M s ∧ r.2.2 (14 + s) = K (14 + s) ∧ r.2.2 (9 + s) = K (9 + s) ∧ NR (K (14 + s)) (gr M) (r.2.2 5) (wL (gr M) (cM M s) (evn M s)) ∧ ((r.1 = 1 ∧ ∀ i, i < (fM M s).length → w ≠ iN i) ∨ (r.1 = 0 ∧ ∃ i σ, i < (fM M s).length ∧ w = iN i ∧ σ < 288 ∧ ((fM M s).getD i (dum, 0)).2 < 3 ∧ tR (gr M) ((fM M s).getD i (dum, 0)).1 ((fM M s).getD i (dum, 0)).2 ≠ 0 ∧ r.2.1 = iN (3 * σ + ((fM M s).getD i (dum, 0)).2) ∧ RC (K (14 + s)) (gr M) ((fM M s).getD i (dum, 0)).1 σ ∧ WT (gr M) ((fM M s).getD i (dum, 0)).1))) := by
  rw [f_X10_faultAt]
  simp only [wp_some, wp_grd, wp_lb, wp_ite, wp_b1, wp_b2, wp_b3, wp_b4, wp_b5]
  refine wp_mono (RD_grow hs h (K 5)) ?_
  intro z hz
  have u5 : va_up K 5 z 5 = z := vu_eq _ _ _
  have u14 : va_up K 5 z (14 + s) = K (14 + s) := by rw [vu_ap, if_neg (by omega)]
  have u9 : va_up K 5 z (9 + s) = K (9 + s) := by rw [vu_ap, if_neg (by omega)]
  have hRD : RD j (va_up K 5 z) M s := RD_K hs ⟨fun k hk => by rw [vu_ap, if_neg (by omega)], fun k _ _ _ => by rw [vu_ap, if_neg (by omega)], by rw [vu_ap, if_neg (by omega)]⟩ h
  rw [u5, u14]
  refine wp_mono (X9_find h.1.1.2.2.2 hz (wL_W h.1.1.2.2.2 h.2.2.2 _) w) ?_
  rintro r (⟨f1, f2⟩ | ⟨i, σ, f1, f2, f3, f4, f5, f6, f7, f8⟩)
  · subst f2
    simp (disch := omega) only [↓nM_lit, iN_lit, iN_add, iN_mul, iN_lt, iN_le, iN_eq, iN_c, gd_iN, iN_nM, nM_iN, iN_ltM, nM_lt, nM_le, iN_leM, iN_0M, nM_p1, iN_0s1, decide_true, decide_eq_true_eq, Nat.not_lt_zero, if_true, if_false, if_true, wp_some, wp_grd, wp_lb, wp_ite, wp_b1, wp_b2, wp_b3, wp_b4, wp_b5]
    exact ⟨hRD, trivial, u9, hz, Or.inl ⟨trivial, f1⟩⟩
  · have hne : ¬ (r = nM) := by rw [f6, iN_nM (by omega)]; exact id
    simp (disch := omega) only [↓nM_lit, iN_lit, iN_add, iN_mul, iN_lt, iN_le, iN_eq, iN_c, gd_iN, iN_nM, nM_iN, iN_ltM, nM_lt, nM_le, iN_leM, iN_0M, nM_p1, iN_0s1, decide_true, decide_eq_true_eq, Nat.not_lt_zero, if_true, if_false, hne, if_false, wp_some, wp_grd, wp_lb, wp_ite, wp_b1, wp_b2, wp_b3, wp_b4, wp_b5]
    exact ⟨hRD, trivial, u9, hz, Or.inr ⟨trivial, i, σ, f1, f2, f3, f4, f5, f6, f7, f8⟩⟩
theorem tR_branch {G : Ob} {t : Tr} {e : Nat} (h : tR G t e ≠ 0) : ∃ g l r, t = .branch g l r := by
  cases t with
  | leaf a => exact absurd rfl h
  | branch g l r => exact ⟨g, l, r, rfl⟩
theorem op_fault {j : Nat} {K : Nat → Ob} {M : Ob} (h : RI j K M) (p1 p2 : Int32) : Op_fault RI j K M p1 p2 := by
  rcases in_or p1 (show 4 < 2147483648 by decide) with ⟨s, hs, e⟩ | hn
  · subst e
    obtain ⟨K', y, e1, e2, hR, h67, -⟩ := both_need (RI_67 (iN 0) h) hs
    have e1' : f_X10_readAsNeeded K (iN s) = some (0, s, K') := e1
    obtain ⟨⟨r0, r1, K2⟩, g1, gR, g14, g9, gN, gc⟩ := RD_fa hs hR p2
    obtain ⟨q, m1, m2, m3, m4, m5⟩ := RD_mf hs hR
    have hlen := fM_len hR
    have e43 := m3.1
    rw [m4] at e43
    simp only at gR g14 g9 gc
    have hI2 : RI j K2 q := (RD_cg (fun k hk => m2 k (by omega)) gR).1
    rcases gc with ⟨c1, c2⟩ | ⟨c1, i, σ, f1, f2, f3, f4, f5, f6, f7, f8⟩
    · have hnb : nb p2 (fM y s).length := by
        rcases in_or p2 (show (fM y s).length < 2147483648 by omega) with ⟨i, hi, e⟩ | hn
        · exact absurd e (c2 i hi)
        · exact hn
      have i2 := isI_n hnb (by omega)
      subst c1
      refine ⟨1, 0, K2, 0, upo q 67 0 (iN 1), iN 1, ?_, ?_, congrArg some (u67 _ _), Or.inr ⟨rfl, rfl⟩, RI_j (RI_67 _ hI2)⟩
      · simp only [f_X10_fault, e1', eq_grd, eq_lb, eq_b1, eq_b2, eq_b3, eq_b4, eq_b5, if_true, hs, decide_true, g1, show ¬ (1 = 0) by decide, if_false]
      · simp (disch := omega) only [f_X11_fault, isS_y hs, may_1, eq_grd, eq_lb, eq_b1, eq_b2, eq_b3, eq_b4, eq_b5, ↓nM_lit, iN_lit, iN_add, iN_mul, iN_lt, iN_le, iN_eq, iN_c, gd_iN, iN_nM, nM_iN, iN_ltM, nM_lt, nM_le, iN_leM, iN_0M, nM_p1, iN_0s1, decide_true, decide_eq_true_eq, Nat.not_lt_zero, if_true, if_false, show ¬ (1 = 0) by decide, if_false, e2, m1, e43]
        rw [i2]
        simp (disch := omega) only [eq_grd, eq_lb, eq_b1, eq_b2, eq_b3, eq_b4, eq_b5, may_0, ↓nM_lit, iN_lit, iN_add, iN_mul, iN_lt, iN_le, iN_eq, iN_c, gd_iN, iN_nM, nM_iN, iN_ltM, nM_lt, nM_le, iN_leM, iN_0M, nM_p1, iN_0s1, decide_true, decide_eq_true_eq, Nat.not_lt_zero, if_true, if_false, if_true]
    · subst f2
      subst c1
      have i2 := isI_y f1 (by omega)
      obtain ⟨g, l, r, et⟩ := tR_branch f5
      obtain ⟨d, d1, d2, d3, d4, d5, d6, d7⟩ := m3.2 i (by rw [m4]; exact f1)
      rw [m4] at d3 d4 d5 d6 d7
      rw [et] at f7 d3 f8
      generalize ((fM y s).getD i (dum, 0)).2 = ee at f4 f5 f6 d5 d6 d7
      have hg16 : g < 16 := by have := ng_le hR.1.1.2.2.2; have := f8.1; omega
      obtain ⟨σl, σr, -, -, pr, -, -, -, -⟩ := X0_partB hg16 f7 f3
      have hsp := RC_s f8 f7
      obtain ⟨il, ir, ⟨-, -, -, b35, -, -, b38⟩, -⟩ := d3
      have o44 : upo q 67 0 (iN 0) 44 i = iN d := by rw [upo_ne (by decide)]; exact d2
      have o35 : upo q 67 0 (iN 0) 35 d = iN g := by rw [upo_ne (by decide)]; exact b35
      have o45 : upo q 67 0 (iN 0) 45 i = iN ee := by rw [upo_ne (by decide)]; exact d7
      have o38 : upo q 67 0 (iN 0) 38 d = iN (sp (.branch g l r)) := by rw [upo_ne (by decide)]; exact b38
      rw [← g14] at pr
      have hd3 : iN (3 * σ + ee) / iN 3 = iN σ := by rw [iN_div (by omega) (by decide)]; congr 1; omega
      have hm3 : iN (3 * σ + ee) - iN (σ * 3) = iN ee := by rw [iN_sub (by omega)]; congr 1; omega
      have hd8 : iN σ / iN 8 = iN (sp (.branch g l r)) := by rw [iN_div (by omega) (by decide), hsp]
      have hspl : sp (.branch g l r) < 36 := by omega
      have hd6 : iN (sp (.branch g l r)) / iN 6 = iN (sp (.branch g l r) / 6) := iN_div (by omega) (by decide)
      have hm6 : iN (sp (.branch g l r)) - iN (sp (.branch g l r) / 6 * 6) = iN (sp (.branch g l r) % 6) := by rw [iN_sub (by omega)]; congr 1; omega
      refine ⟨0, iN (1000 * g + 100 * ee + 10 * (sp (.branch g l r) / 6) + (sp (.branch g l r) % 6 + 1)), K2, iN (1000 * g + 100 * ee + 10 * (sp (.branch g l r) / 6) + (sp (.branch g l r) % 6 + 1)), upo q 67 0 (iN 0), iN 0, ?_, ?_, congrArg some (u67 _ _), Or.inl ⟨rfl, rfl, rfl⟩, RI_j (RI_67 _ hI2)⟩
      · simp only [f_X10_fault, e1', eq_grd, eq_lb, eq_b1, eq_b2, eq_b3, eq_b4, eq_b5, if_true, hs, decide_true, g1, iN_lit, f6, hd3, hm3, pr, f_X10_placeOfEdge, f_X10_wordsOfEdge, hd8, hd6, hm6, iN_mul, iN_add]
      · simp (disch := omega) only [f_X11_fault, isS_y hs, may_1, eq_grd, eq_lb, eq_b1, eq_b2, eq_b3, eq_b4, eq_b5, ↓nM_lit, iN_lit, iN_add, iN_mul, iN_lt, iN_le, iN_eq, iN_c, gd_iN, iN_nM, nM_iN, iN_ltM, nM_lt, nM_le, iN_leM, iN_0M, nM_p1, iN_0s1, decide_true, decide_eq_true_eq, Nat.not_lt_zero, if_true, if_false, show ¬ (1 = 0) by decide, if_false, e2, m1, e43]
        rw [i2]
        simp (disch := omega) only [eq_grd, eq_lb, eq_b1, eq_b2, eq_b3, eq_b4, eq_b5, may_1, ↓nM_lit, iN_lit, iN_add, iN_mul, iN_lt, iN_le, iN_eq, iN_c, gd_iN, iN_nM, nM_iN, iN_ltM, nM_lt, nM_le, iN_leM, iN_0M, nM_p1, iN_0s1, decide_true, decide_eq_true_eq, Nat.not_lt_zero, if_true, if_false, show ¬ (1 = 0) by decide, if_false, show i < 400 by omega, o44, d1, o35, o45, o38, hd6, hm6]
        congr 2
  · refine ⟨1, 0, K, 0, upo M 67 0 (iN 1), iN 1, ?_, ?_, congrArg some (u67 _ _), Or.inr ⟨rfl, rfl⟩, RI_j (RI_67 _ h)⟩
    · simp only [f_X10_fault, rAN_n hn K, eq_grd, eq_lb, eq_b1, eq_b2, eq_b3, eq_b4, eq_b5]; rfl
    · simp (disch := omega) only [f_X11_fault, isS_n hn, may_0, eq_grd, eq_lb, eq_b1, eq_b2, eq_b3, eq_b4, eq_b5, ↓nM_lit, iN_lit, iN_add, iN_mul, iN_lt, iN_le, iN_eq, iN_c, gd_iN, iN_nM, nM_iN, iN_ltM, nM_lt, nM_le, iN_leM, iN_0M, nM_p1, iN_0s1, decide_true, decide_eq_true_eq, Nat.not_lt_zero, if_true, if_false, if_true]
