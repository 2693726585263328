theorem op_off {j : Nat} {K : Nat → Ob} {M : Ob} (h : RI j K M) (p1 p2 : Int32) : Op_off RI j K M p1 p2 := by
  obtain ⟨n, hn12, e59, k59⟩ := RI_pat h
  have z0 : (0 : Int32) = iN 0 := rfl
  have o1 : (1 : Int32) = iN 1 := rfl
  have n1 : ¬ (iN 1 = (0 : Int32)) := by decide
  have y0 : iN 0 = (0 : Int32) := rfl
  have bad : f_X10_off K p1 p2 = some (1, 0, K) → f_X11_off M p1 p2 = f_X11_off_J32 M p1 p2 → Op_off RI j K M p1 p2 := fun e1 e2 =>
    ⟨1, 0, K, 0, upo M 67 0 (iN 1), iN 1, e1, by rw [e2, f_X11_off_J32, f_X11_off_J33, z0, may_0, eq_b2]; exact if_pos rfl, congrArg some (u67 _ _), Or.inr ⟨rfl, rfl⟩, RI_j (RI_67 _ h)⟩
  rcases in_or p1 (show n < 2147483648 by omega) with ⟨a, ha, e1⟩ | hn
  · have hp := hasP_y k59 (show n < 2147483648 by omega) ha
    have i1 := isI_y ha (show n < 2147483648 by omega)
    have hN := RI_67 (iN 0) h
    have n67 : upo M 67 0 (iN 0) 67 0 = iN 0 := u67 _ _
    have m28 : f_X11_off_J28 M p1 p2 = (fun x_o5 : Ob => if p2 = (-1) then grd (gd p1 12) (if (x_o5 64 p1.toNatClampNeg) = 0 then grd (gd p1 12) (lb (upo x_o5 64 p1.toNatClampNeg 1) (fun x_o26 => grd (gd p1 12) (grd (isb (x_o26 64 p1.toNatClampNeg)) (some ((x_o26 64 p1.toNatClampNeg), x_o26))))) else grd (gd p1 12) (lb (upo x_o5 64 p1.toNatClampNeg 0) (fun x_o22 => grd (gd p1 12) (grd (isb (x_o22 64 p1.toNatClampNeg)) (some ((x_o22 64 p1.toNatClampNeg), x_o22)))))) else grd (gd ((40 * p1) + p2) 480) (if (x_o5 65 ((40 * p1) + p2).toNatClampNeg) = 0 then grd (gd ((40 * p1) + p2) 480) (lb (upo x_o5 65 ((40 * p1) + p2).toNatClampNeg 1) (fun x_o16 => grd (gd ((40 * p1) + p2) 480) (grd (isb (x_o16 65 ((40 * p1) + p2).toNatClampNeg)) (some ((x_o16 65 ((40 * p1) + p2).toNatClampNeg), x_o16))))) else grd (gd ((40 * p1) + p2) 480) (lb (upo x_o5 65 ((40 * p1) + p2).toNatClampNeg 0) (fun x_o12 => grd (gd ((40 * p1) + p2) 480) (grd (isb (x_o12 65 ((40 * p1) + p2).toNatClampNeg)) (some ((x_o12 65 ((40 * p1) + p2).toNatClampNeg), x_o12))))))) (upo M 67 0 (iN 0)) := by
      rw [f_X11_off_J28, f_X11_off_J33, o1, may_1, eq_b2, if_neg (show ¬ ((iN 1, upo M 67 0 (iN 0)).1 = 0) from n1)]
    have x67 : ∀ k, k ≠ 67 → upo M 67 0 (iN 0) k = M k := fun k hk => upo_ne hk
    generalize upo M 67 0 (iN 0) = N at *
    obtain ⟨q1, q0, q2, q3, q4⟩ := hN.2.1.2.2.2.2
    -- one field of the class and one of the reference switched alike
    have fin3 : ∀ v : Int32, (v = iN 0 ∨ v = iN 1) → RI j (va_up K 7 (upo (K 7) 3 a v)) (upo N 64 a v) := by
      intro v hv
      refine RI_sty hN (fun k hk => upo_ne (by omega)) ?_
      unfold QX8
      rw [upo_ne (show (59 : Nat) ≠ 64 by decide), upo_ne (show (60 : Nat) ≠ 64 by decide), upo_ne (show (61 : Nat) ≠ 64 by decide), upo_ne (show (62 : Nat) ≠ 64 by decide), upo_ne (show (63 : Nat) ≠ 64 by decide), upo_ne (show (65 : Nat) ≠ 64 by decide), upo_ne (show (0 : Nat) ≠ 3 by decide), upo_ne (show (1 : Nat) ≠ 3 by decide), upo_ne (show (2 : Nat) ≠ 3 by decide), upo_ne (show (4 : Nat) ≠ 3 by decide)]
      refine ⟨q1, q0, q2, ?_, q4⟩
      intro k hk
      by_cases e : k = a
      · subst e; rw [up_s, up_s]; exact ⟨rfl, hv⟩
      · rw [up_i e, up_i e]; exact q3 k hk
    have fin4 : ∀ (i : Nat) (v : Int32), (v = iN 0 ∨ v = iN 1) → RI j (va_up K 7 (upo (K 7) 4 i v)) (upo N 65 i v) := by
      intro i v hv
      refine RI_sty hN (fun k hk => upo_ne (by omega)) ?_
      unfold QX8
      rw [upo_ne (show (59 : Nat) ≠ 65 by decide), upo_ne (show (60 : Nat) ≠ 65 by decide), upo_ne (show (61 : Nat) ≠ 65 by decide), upo_ne (show (62 : Nat) ≠ 65 by decide), upo_ne (show (63 : Nat) ≠ 65 by decide), upo_ne (show (64 : Nat) ≠ 65 by decide), upo_ne (show (0 : Nat) ≠ 4 by decide), upo_ne (show (1 : Nat) ≠ 4 by decide), upo_ne (show (2 : Nat) ≠ 4 by decide), upo_ne (show (3 : Nat) ≠ 4 by decide)]
      refine ⟨q1, q0, q2, q3, ?_⟩
      intro k hk
      by_cases e : k = i
      · subst e; rw [up_s, up_s]; exact ⟨rfl, hv⟩
      · rw [up_i e, up_i e]; exact q4 k hk
    by_cases h2 : p2 = -1
    · have hM : f_X11_off M p1 p2 = f_X11_off_J28 M p1 p2 := by
        rw [f_X11_off, e59, e1, z0, o1, i1, eq_b1, if_neg (show ¬ (iN 1 = iN 0) by decide), if_pos (show p2 = -iN 1 from h2)]
      rw [m28] at hM
      simp only [h2, if_true] at hM
      obtain ⟨r1, r2⟩ := q3 a (by omega)
      rcases r2 with r2 | r2
      · have s1 : K 7 3 a = iN 0 := by rw [r1]; exact r2
        refine ⟨0, iN 1, va_up K 7 (upo (K 7) 3 a (iN 1)), iN 1, upo N 64 a (iN 1), iN 0, ?_, ?_, ?_, Or.inl ⟨rfl, rfl, rfl⟩, RI_j (fin3 _ (Or.inr rfl))⟩
        · subst e1; subst h2
          simp (disch := omega) only [f_X10_off, hp, f_X8_switchAltogether, eq_grd, eq_lb, eq_b1, eq_b2, eq_b3, eq_b4, eq_b5, ↓nM_lit, iN_lit, iN_add, iN_mul, iN_lt, iN_le, iN_eq, iN_c, gd_iN, iN_nM, nM_iN, iN_ltM, nM_lt, nM_le, iN_leM, iN_0M, nM_p1, iN_0s1, decide_true, decide_eq_true_eq, Nat.not_lt_zero, if_true, if_false, show ¬ (1 = 0) by decide, if_false, if_true, show a < 12 by omega, s1, up_s, isb_1]
        · subst h2
          rw [hM]
          subst e1
          simp (disch := omega) only [eq_grd, eq_lb, eq_b1, eq_b2, eq_b3, eq_b4, eq_b5, ↓nM_lit, iN_lit, iN_add, iN_mul, iN_lt, iN_le, iN_eq, iN_c, gd_iN, iN_nM, nM_iN, iN_ltM, nM_lt, nM_le, iN_leM, iN_0M, nM_p1, iN_0s1, decide_true, decide_eq_true_eq, Nat.not_lt_zero, if_true, if_false, if_true, show a < 12 by omega, r2, up_s, isb_1]
        · rw [f_X11_thrown, upo_ne (by decide), n67]
      · have s1 : K 7 3 a = iN 1 := by rw [r1]; exact r2
        refine ⟨0, iN 0, va_up K 7 (upo (K 7) 3 a (iN 0)), iN 0, upo N 64 a (iN 0), iN 0, ?_, ?_, ?_, Or.inl ⟨rfl, rfl, rfl⟩, RI_j (fin3 _ (Or.inl rfl))⟩
        · subst e1; subst h2
          simp (disch := omega) only [f_X10_off, hp, f_X8_switchAltogether, eq_grd, eq_lb, eq_b1, eq_b2, eq_b3, eq_b4, eq_b5, ↓nM_lit, iN_lit, iN_add, iN_mul, iN_lt, iN_le, iN_eq, iN_c, gd_iN, iN_nM, nM_iN, iN_ltM, nM_lt, nM_le, iN_leM, iN_0M, nM_p1, iN_0s1, decide_true, decide_eq_true_eq, Nat.not_lt_zero, if_true, if_false, show ¬ (1 = 0) by decide, if_false, if_true, show a < 12 by omega, s1, up_s, isb_0]
        · subst h2
          rw [hM]
          subst e1
          simp (disch := omega) only [eq_grd, eq_lb, eq_b1, eq_b2, eq_b3, eq_b4, eq_b5, ↓nM_lit, iN_lit, iN_add, iN_mul, iN_lt, iN_le, iN_eq, iN_c, gd_iN, iN_nM, nM_iN, iN_ltM, nM_lt, nM_le, iN_leM, iN_0M, nM_p1, iN_0s1, decide_true, decide_eq_true_eq, Nat.not_lt_zero, if_true, if_false, if_false, show ¬ (1 = 0) by decide, show a < 12 by omega, r2, up_s, isb_0]
        · rw [f_X11_thrown, upo_ne (by decide), n67]
    · obtain ⟨b1, b2, b3⟩ := RI_words h
      rcases in_or p2 (show nn (M 0 0) < 2147483648 by omega) with ⟨w, hw, e2⟩ | hn
      · obtain ⟨g1, g2⟩ := rW_y h hw
        have hM : f_X11_off M p1 p2 = f_X11_off_J28 M p1 p2 := by
          rw [f_X11_off, e59, e1, z0, o1, i1, eq_b1, if_neg (show ¬ (iN 1 = iN 0) by decide), if_neg (show ¬ (p2 = -iN 1) from h2), e2, g2, eq_b1, if_neg (show ¬ (iN 1 = iN 0) by decide)]
        rw [m28] at hM
        simp only [h2, if_false] at hM
        obtain ⟨r1, r2⟩ := q4 (40 * a + w) (by omega)
        have ei : a * 40 + w = 40 * a + w := by omega
        have h2' : ¬ (iN w = nM) := by rw [iN_nM (by omega)]; exact id
        rcases r2 with r2 | r2
        · have s1 : K 7 4 (40 * a + w) = iN 0 := by rw [r1]; exact r2
          refine ⟨0, iN 1, va_up K 7 (upo (K 7) 4 (40 * a + w) (iN 1)), iN 1, upo N 65 (40 * a + w) (iN 1), iN 0, ?_, ?_, ?_, Or.inl ⟨rfl, rfl, rfl⟩, RI_j (fin4 _ _ (Or.inr rfl))⟩
          · subst e1; subst e2
            simp (disch := omega) only [f_X10_off, hp, f_X8_switchFor, g1, isB_y (show w < 40 by omega) (show 40 < 2147483648 by decide), eq_grd, eq_lb, eq_b1, eq_b2, eq_b3, eq_b4, eq_b5, ↓nM_lit, iN_lit, iN_add, iN_mul, iN_lt, iN_le, iN_eq, iN_c, gd_iN, iN_nM, nM_iN, iN_ltM, nM_lt, nM_le, iN_leM, iN_0M, nM_p1, iN_0s1, decide_true, decide_eq_true_eq, Nat.not_lt_zero, if_true, if_false, show ¬ (1 = 0) by decide, if_false, if_true, ei, show 40 * a + w < 480 by omega, s1, up_s, isb_1]
          · rw [hM]
            subst e1; subst e2
            simp (disch := omega) only [eq_grd, eq_lb, eq_b1, eq_b2, eq_b3, eq_b4, eq_b5, ↓nM_lit, iN_lit, iN_add, iN_mul, iN_lt, iN_le, iN_eq, iN_c, gd_iN, iN_nM, nM_iN, iN_ltM, nM_lt, nM_le, iN_leM, iN_0M, nM_p1, iN_0s1, decide_true, decide_eq_true_eq, Nat.not_lt_zero, if_true, if_false, if_true, show 40 * a + w < 480 by omega, r2, up_s, isb_1]
          · rw [f_X11_thrown, upo_ne (by decide), n67]
        · have s1 : K 7 4 (40 * a + w) = iN 1 := by rw [r1]; exact r2
          refine ⟨0, iN 0, va_up K 7 (upo (K 7) 4 (40 * a + w) (iN 0)), iN 0, upo N 65 (40 * a + w) (iN 0), iN 0, ?_, ?_, ?_, Or.inl ⟨rfl, rfl, rfl⟩, RI_j (fin4 _ _ (Or.inl rfl))⟩
          · subst e1; subst e2
            simp (disch := omega) only [f_X10_off, hp, f_X8_switchFor, g1, isB_y (show w < 40 by omega) (show 40 < 2147483648 by decide), eq_grd, eq_lb, eq_b1, eq_b2, eq_b3, eq_b4, eq_b5, ↓nM_lit, iN_lit, iN_add, iN_mul, iN_lt, iN_le, iN_eq, iN_c, gd_iN, iN_nM, nM_iN, iN_ltM, nM_lt, nM_le, iN_leM, iN_0M, nM_p1, iN_0s1, decide_true, decide_eq_true_eq, Nat.not_lt_zero, if_true, if_false, show ¬ (1 = 0) by decide, if_false, if_true, ei, show 40 * a + w < 480 by omega, s1, up_s, isb_0]
          · rw [hM]
            subst e1; subst e2
            simp (disch := omega) only [eq_grd, eq_lb, eq_b1, eq_b2, eq_b3, eq_b4, eq_b5, ↓nM_lit, iN_lit, iN_add, iN_mul, iN_lt, iN_le, iN_eq, iN_c, gd_iN, iN_nM, nM_iN, iN_ltM, nM_lt, nM_le, iN_leM, iN_0M, nM_p1, iN_0s1, decide_true, decide_eq_true_eq, Nat.not_lt_zero, if_true, if_false, if_false, show ¬ (1 = 0) by decide, show 40 * a + w < 480 by omega, r2, up_s, isb_0]
          · rw [f_X11_thrown, upo_ne (by decide), n67]
      · obtain ⟨g1, g2⟩ := rW_n h hn
        refine bad ?_ ?_
        · rw [f_X10_off, e1, hp, eq_b1, if_neg n1, if_neg h2, g1, eq_b1, if_neg (by decide)]
        · rw [f_X11_off, e59, e1, z0, o1, i1, eq_b1, if_neg (show ¬ (iN 1 = iN 0) by decide), if_neg (show ¬ (p2 = -iN 1) from h2), g2, eq_b1, if_pos rfl]
  · refine bad ?_ ?_
    · rw [f_X10_off, hasP_n k59 hn, eq_b1, if_pos y0]
    · have i1 := isI_n hn (show n < 2147483648 by omega)
      rw [f_X11_off, e59, z0, o1, i1, eq_b1, if_pos rfl]
