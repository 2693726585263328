/-! Fragments. -/
theorem X1_place {z : Ob} {F : Fs} {n : Nat} (h0 : z 0 0 = iN n) (hn : n ≤ 6) (hR : RF (z 1) (z 2) (z 3) F n 0) (hI : FI n 0 F) {k : Nat} (hk : k < F.1 0) : f_X1_placeOf z (iN k) = some (iN (plc F k)) ∧ f_X1_wordsFrom z (iN (plc F k)) = some (iN (F.2.2 (plc F k))) := by
  have words : ∀ i, i < F.1 0 → f_X1_wordsFrom z (iN (plc F i)) = some (iN (F.2.2 (plc F i))) := by
    intro i hi
    have hlt := plc_lt hI hi
    have r := (hR (plc F i) (Nat.zero_le _) (by omega)).2.2 hlt
    simp (disch := omega) only [f_X1_wordsFrom, h0, isB_y hlt (show n < 2147483648 by omega), eq_grd, eq_lb, eq_b1, eq_b2, eq_b3, eq_b4, eq_b5, ↓nM_lit, iN_lit, iN_add, iN_mul, iN_lt, iN_le, iN_eq, iN_c, gd_iN, iN_nM, nM_iN, iN_ltM, nM_lt, nM_le, iN_leM, iN_0M, nM_p1, iN_0s1, decide_true, decide_eq_true_eq, Nat.not_lt_zero, if_true, if_false, show ¬ (1 = 0) by decide, if_false, show plc F i < 7 by omega, r]
  refine ⟨?_, words k hk⟩
  have hle := FI_le hI (Nat.le_refl 0) (Nat.zero_le n)
  refine wp_eq ?_
  rw [f_X1_placeOf]
  simp only [wp_some, wp_grd, wp_lb, wp_ite, wp_b1, wp_b2, wp_b3, wp_b4, wp_b5]
  refine lp_up (F := fun f (v : Int32) j => f_X1_placeOf_L4 f z (iN k) v j) (V := fun i v => v = iN (plc F i)) (hi := k) ?_ 200 0 (iN 0) (by omega) (by omega) rfl
  rintro f v i hi hv hkk
  subst hv
  by_cases he : i = k
  · subst he
    simp (disch := omega) only [f_X1_placeOf_L4, ↓nM_lit, iN_lit, iN_add, iN_mul, iN_lt, iN_le, iN_eq, iN_c, gd_iN, iN_nM, nM_iN, iN_ltM, nM_lt, nM_le, iN_leM, iN_0M, nM_p1, iN_0s1, decide_true, decide_eq_true_eq, Nat.not_lt_zero, if_true, if_false, wp_some, wp_grd, wp_lb, wp_ite, wp_b1, wp_b2, wp_b3, wp_b4, wp_b5, Nat.le_refl]
  · have hlt := plc_lt hI (show i < F.1 0 by omega)
    have hw := words i (by omega)
    simp (disch := omega) only [f_X1_placeOf_L4, ↓nM_lit, iN_lit, iN_add, iN_mul, iN_lt, iN_le, iN_eq, iN_c, gd_iN, iN_nM, nM_iN, iN_ltM, nM_lt, nM_le, iN_leM, iN_0M, nM_p1, iN_0s1, decide_true, decide_eq_true_eq, Nat.not_lt_zero, if_true, if_false, wp_some, wp_grd, wp_lb, wp_ite, wp_b1, wp_b2, wp_b3, wp_b4, wp_b5, eq_grd, eq_lb, eq_b1, eq_b2, eq_b3, eq_b4, eq_b5, show ¬ (k ≤ i) by omega, h0, show ¬ (n ≤ plc F i) by omega, hw]
    exact hkk _ (by omega) rfl
theorem fr_hc {j : Nat} {K : Nat → Ob} {M : Ob} {s : Nat} (hs : s < 4) (h : RI j K M) (y : Ob) (hy : ∀ k, k < 11 → y k = M k) (b : Nat) (hb : b < evn M s) : y 10 (6 * s + b) = iN (evw M s b) ∧ f_X11_countOf y (iN (evw M s b)) = some (iN (eC (evS M s) b)) ∧ eC (evS M s) b ≤ 4 ∧ (cM M s (6 * b) = [] ↔ eC (evS M s) b = 0) := by
  obtain ⟨h6, h9, hw⟩ := WTxt_at h.1.2.1 hs
  obtain ⟨w1, w2⟩ := hw b hb
  have hE := (WM_E h.1 hs).1
  have hL := (WM_E h.1 hs).2
  have hly := WLex_cg (fun k hk => hy k (by omega)) h.1.1
  have hw40 := Nat.lt_of_lt_of_le w1 (WLex_nw h.1.1)
  refine ⟨by rw [hy 10 (by decide)]; exact w2, ?_, (hE.2 b hb).1, ?_⟩
  · rw [X11_count hly hw40, cnM_cg (fun k hk => hy k (by omega)), evS_e, evW_C hb]
  · exact cht_wd hE hL (fun p hp h0 => stk_nz hE hp h0) hb
theorem both_frag {j : Nat} {K : Nat → Ob} {M : Ob} {s : Nat} (hs : s < 4) (h : RD j K M s) (y : Ob) :
    wp (f_X1_cut y (K (14 + s))) (fun z => z 0 0 = iN (evn M s) ∧ RF (z 1) (z 2) (z 3) (frg (gr M) (cM M s) (evn M s)) (evn M s) 0) ∧ wp (f_X11_findFragments M (iN s)) (fun z => (∀ k, (k < 47 ∨ 51 < k) → z k = M k) ∧ z 47 0 = iN ((frg (gr M) (cM M s) (evn M s)).1 0) ∧ ∀ k, k < (frg (gr M) (cM M s) (evn M s)).1 0 → z 48 k = iN (10 * plc (frg (gr M) (cM M s) (evn M s)) k + (frg (gr M) (cM M s) (evn M s)).2.2 (plc (frg (gr M) (cM M s) (evn M s)) k))) := by
  obtain ⟨hI, ⟨-, -, -, -, c0, -, hC⟩, ⟨n, n1, hC2⟩, hW⟩ := h
  obtain ⟨-, h9, h6⟩ := RI_len hI hs
  exact ⟨X1_cut hC hW c0 h6, X11_frag (E := evS M s) (wd := evw M s) hI.1.2.2.2 hC2 (by omega) hW hs h9 h6 (fun y hy b hb => fr_hc hs hI y hy b hb)⟩
theorem op_fragments {j : Nat} {K : Nat → Ob} {M : Ob} (h : RI j K M) (p1 : Int32) : Op_fragments RI j K M p1 := by
  rcases in_or p1 (show 4 < 2147483648 by decide) with ⟨s, hs, e⟩ | hn
  · subst e
    obtain ⟨K', y, e1, e2, hR, h67, -⟩ := both_need (RI_67 (iN 0) h) hs
    obtain ⟨⟨z, g1, g2, g3⟩, ⟨q, m1, m2, m3, m4⟩⟩ := both_frag hs hR (K' 6)
    have r1 := (g3 0 (Nat.le_refl 0) (Nat.zero_le _)).1
    refine ⟨0, iN ((frg (gr y) (cM y s) (evn y s)).1 0), va_up K' 6 z, iN ((frg (gr y) (cM y s) (evn y s)).1 0), q, iN 0, ?_, ?_, ?_, Or.inl ⟨rfl, rfl, rfl⟩, RI_j (RI_K5 (RI_cg (fun k hk => m2 k (by omega)) hR.1) (by omega) _)⟩
    · have e1' : f_X10_readAsNeeded K (iN s) = some (0, s, K') := e1
      have u6 : va_up K' 6 z 6 = z := vu_eq _ _ _
      simp only [f_X10_fragments, e1', eq_grd, eq_lb, eq_b1, eq_b2, eq_b3, eq_b4, eq_b5, if_true, hs, decide_true, g1, u6, f_X1_pieces, iN_lit]
      rw [iN_c (by decide), r1]
    · simp (disch := omega) only [f_X11_fragments, isS_y hs, may_1, eq_grd, eq_lb, eq_b1, eq_b2, eq_b3, eq_b4, eq_b5, ↓nM_lit, iN_lit, iN_add, iN_mul, iN_lt, iN_le, iN_eq, iN_c, gd_iN, iN_nM, nM_iN, iN_ltM, nM_lt, nM_le, iN_leM, iN_0M, nM_p1, iN_0s1, decide_true, decide_eq_true_eq, Nat.not_lt_zero, if_true, if_false, show ¬ (1 = 0) by decide, if_false, e2, m1, m3]
    · rw [f_X11_thrown, m2 67 (by omega), h67, u67]
  · refine ⟨1, 0, K, 0, upo M 67 0 (iN 1), iN 1, ?_, ?_, congrArg some (u67 _ _), Or.inr ⟨rfl, rfl⟩, RI_j (RI_67 _ h)⟩
    · simp only [f_X10_fragments, rAN_n hn K, eq_grd, eq_lb, eq_b1, eq_b2, eq_b3, eq_b4, eq_b5]; rfl
    · simp (disch := omega) only [f_X11_fragments, isS_n hn, may_0, eq_grd, eq_lb, eq_b1, eq_b2, eq_b3, eq_b4, eq_b5, ↓nM_lit, iN_lit, iN_add, iN_mul, iN_lt, iN_le, iN_eq, iN_c, gd_iN, iN_nM, nM_iN, iN_ltM, nM_lt, nM_le, iN_leM, iN_0M, nM_p1, iN_0s1, decide_true, decide_eq_true_eq, Nat.not_lt_zero, if_true, if_false, if_true]
theorem op_fragment {j : Nat} {K : Nat → Ob} {M : Ob} (h : RI j K M) (p1 p2 : Int32) : Op_fragment RI j K M p1 p2 := by
  rcases in_or p1 (show 4 < 2147483648 by decide) with ⟨s, hs, e⟩ | hn
  · subst e
    obtain ⟨K', y, e1, e2, hR, h67, -⟩ := both_need (RI_67 (iN 0) h) hs
    obtain ⟨⟨z, g1, g2, g3⟩, ⟨q, m1, m2, m3, m4⟩⟩ := both_frag hs hR (K' 6)
    have r1 := (g3 0 (Nat.le_refl 0) (Nat.zero_le _)).1
    have h6 := (RI_len hR.1 hs).2.2
    have hFI := frg_I (G := gr y) (ch := cM y s) (evn y s)
    have hle := FI_le hFI (Nat.le_refl 0) (Nat.zero_le _)
    have e1' : f_X10_readAsNeeded K (iN s) = some (0, s, K') := e1
    have u6 : va_up K' 6 z 6 = z := vu_eq _ _ _
    have hp : f_X1_pieces z = some (iN ((frg (gr y) (cM y s) (evn y s)).1 0)) := by
      simp only [f_X1_pieces, iN_lit]
      rw [iN_c (by decide), r1]
    have hI2 : RI j (va_up K' 6 z) q := RI_K5 (RI_cg (fun k hk => m2 k (by omega)) hR.1) (by omega) _
    rcases in_or p2 (show (frg (gr y) (cM y s) (evn y s)).1 0 < 2147483648 by omega) with ⟨i, hi, e⟩ | hn
    · subst e
      obtain ⟨f1, f2⟩ := X1_place g2 h6 g3 hFI hi
      have i1 := isB_y hi (by omega)
      have i2 := isI_y hi (by omega)
      have o48 : upo q 67 0 (iN 0) 48 i = iN (10 * plc (frg (gr y) (cM y s) (evn y s)) i + (frg (gr y) (cM y s) (evn y s)).2.2 (plc (frg (gr y) (cM y s) (evn y s)) i)) := by rw [upo_ne (by decide)]; exact m4 i hi
      refine ⟨0, iN (10 * plc (frg (gr y) (cM y s) (evn y s)) i + (frg (gr y) (cM y s) (evn y s)).2.2 (plc (frg (gr y) (cM y s) (evn y s)) i)), va_up K' 6 z, iN (10 * plc (frg (gr y) (cM y s) (evn y s)) i + (frg (gr y) (cM y s) (evn y s)).2.2 (plc (frg (gr y) (cM y s) (evn y s)) i)), upo q 67 0 (iN 0), iN 0, ?_, ?_, congrArg some (u67 _ _), Or.inl ⟨rfl, rfl, rfl⟩, RI_j (RI_67 _ hI2)⟩
      · simp (disch := omega) only [f_X10_fragment, e1', eq_grd, eq_lb, eq_b1, eq_b2, eq_b3, eq_b4, eq_b5, if_true, hs, decide_true, g1, u6, hp, i1, f1, f2, ↓nM_lit, iN_lit, iN_add, iN_mul, iN_lt, iN_le, iN_eq, iN_c, gd_iN, iN_nM, nM_iN, iN_ltM, nM_lt, nM_le, iN_leM, iN_0M, nM_p1, iN_0s1, decide_true, decide_eq_true_eq, Nat.not_lt_zero, if_true, if_false, show ¬ (1 = 0) by decide, if_false]
      · simp (disch := omega) only [f_X11_fragment, isS_y hs, may_1, eq_grd, eq_lb, eq_b1, eq_b2, eq_b3, eq_b4, eq_b5, ↓nM_lit, iN_lit, iN_add, iN_mul, iN_lt, iN_le, iN_eq, iN_c, gd_iN, iN_nM, nM_iN, iN_ltM, nM_lt, nM_le, iN_leM, iN_0M, nM_p1, iN_0s1, decide_true, decide_eq_true_eq, Nat.not_lt_zero, if_true, if_false, show ¬ (1 = 0) by decide, if_false, e2, m1, m3]
        rw [i2]
        simp (disch := omega) only [eq_grd, eq_lb, eq_b1, eq_b2, eq_b3, eq_b4, eq_b5, may_1, ↓nM_lit, iN_lit, iN_add, iN_mul, iN_lt, iN_le, iN_eq, iN_c, gd_iN, iN_nM, nM_iN, iN_ltM, nM_lt, nM_le, iN_leM, iN_0M, nM_p1, iN_0s1, decide_true, decide_eq_true_eq, Nat.not_lt_zero, if_true, if_false, show ¬ (1 = 0) by decide, if_false, show i < 6 by omega, o48]
    · have i1 := isB_n hn
      have i2 := isI_n hn (by omega)
      refine ⟨1, 0, va_up K' 6 z, 0, upo q 67 0 (iN 1), iN 1, ?_, ?_, congrArg some (u67 _ _), Or.inr ⟨rfl, rfl⟩, RI_j (RI_67 _ hI2)⟩
      · simp (disch := omega) only [f_X10_fragment, e1', eq_grd, eq_lb, eq_b1, eq_b2, eq_b3, eq_b4, eq_b5, if_true, hs, decide_true, g1, u6, hp, i1, ↓nM_lit, iN_lit, iN_add, iN_mul, iN_lt, iN_le, iN_eq, iN_c, gd_iN, iN_nM, nM_iN, iN_ltM, nM_lt, nM_le, iN_leM, iN_0M, nM_p1, iN_0s1, decide_true, decide_eq_true_eq, Nat.not_lt_zero, if_true, if_false]
      · simp (disch := omega) only [f_X11_fragment, isS_y hs, may_1, eq_grd, eq_lb, eq_b1, eq_b2, eq_b3, eq_b4, eq_b5, ↓nM_lit, iN_lit, iN_add, iN_mul, iN_lt, iN_le, iN_eq, iN_c, gd_iN, iN_nM, nM_iN, iN_ltM, nM_lt, nM_le, iN_leM, iN_0M, nM_p1, iN_0s1, decide_true, decide_eq_true_eq, Nat.not_lt_zero, if_true, if_false, show ¬ (1 = 0) by decide, if_false, e2, m1, m3]
        rw [i2]
        simp (disch := omega) only [eq_grd, eq_lb, eq_b1, eq_b2, eq_b3, eq_b4, eq_b5, may_0, ↓nM_lit, iN_lit, iN_add, iN_mul, iN_lt, iN_le, iN_eq, iN_c, gd_iN, iN_nM, nM_iN, iN_ltM, nM_lt, nM_le, iN_leM, iN_0M, nM_p1, iN_0s1, decide_true, decide_eq_true_eq, Nat.not_lt_zero, if_true, if_false, if_true]
  · refine ⟨1, 0, K, 0, upo M 67 0 (iN 1), iN 1, ?_, ?_, congrArg some (u67 _ _), Or.inr ⟨rfl, rfl⟩, RI_j (RI_67 _ h)⟩
    · simp only [f_X10_fragment, rAN_n hn K, eq_grd, eq_lb, eq_b1, eq_b2, eq_b3, eq_b4, eq_b5]; rfl
    · simp (disch := omega) only [f_X11_fragment, isS_n hn, may_0, eq_grd, eq_lb, eq_b1, eq_b2, eq_b3, eq_b4, eq_b5, ↓nM_lit, iN_lit, iN_add, iN_mul, iN_lt, iN_le, iN_eq, iN_c, gd_iN, iN_nM, nM_iN, iN_ltM, nM_lt, nM_le, iN_leM, iN_0M, nM_p1, iN_0s1, decide_true, decide_eq_true_eq, Nat.not_lt_zero, if_true, if_false, if_true]
