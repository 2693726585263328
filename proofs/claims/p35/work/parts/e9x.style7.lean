theorem FLS_bd {M : Ob} {E : Ev} {L wd : Nat → Nat} {n m i : Nat} (h : i < (FLS M E L wd n m).length) : (FLS M E L wd n m).getD i 0 < 10 * n + m := by
  have hm : (FLS M E L wd n m).getD i 0 ∈ FLS M E L wd n m := by
    rw [List.getD_eq_getElem?_getD, List.getElem?_eq_getElem h]
    exact List.getElem_mem h
  generalize (FLS M E L wd n m).getD i 0 = x at hm
  unfold FLS SLk at hm
  rw [List.mem_flatMap] at hm
  obtain ⟨p, hp, hx⟩ := hm
  rw [List.mem_map] at hx
  obtain ⟨k, hk, rfl⟩ := hx
  have hk := List.mem_range.mp (List.mem_filter.mp hk).1
  have hp := List.mem_range.mp hp
  omega
theorem op_styleFault {j : Nat} {K : Nat → Ob} {M : Ob} (h : RI j K M) (p1 p2 : Int32) : Op_styleFault RI j K M p1 p2 := by
  obtain ⟨n, hn12, e59, k59⟩ := RI_pat h
  rcases in_or p1 (show 4 < 2147483648 by decide) with ⟨s, hs, e⟩ | hn
  · subst e
    obtain ⟨K', e1, c1, c2, c3, c4⟩ := X10_asN h hs
    have h4 := RI_67 (iN 0) h
    have hw : ∀ p, p < eL (evS M s) → K' (9 + s) 1 p = iN (evw M s p) ∧ evw M s p < 40 := fun p hp => by
      refine ⟨by rw [c3]; exact (h.2.2.1 s hs).1.2.2 p hp, ?_⟩
      exact Nat.lt_of_lt_of_le ((WTxt_at h.1.2.1 hs).2.2 p hp).1 (WLex_nw h.1.1)
    have hlen := FLS_len (M := M) (E := evS M s) (L := Lk (sr M) M s) (wd := evw M s) (n := n) (evn M s)
    have h6 := (RI_len h hs).2.2
    have hmul : n * evn M s ≤ 12 * 6 := Nat.mul_le_mul hn12 h6
    have hbd := fun i => FLS_bd (M := M) (E := evS M s) (L := Lk (sr M) M s) (wd := evw M s) (n := n) (m := evn M s) (i := i)
    obtain ⟨r8, e8, hc⟩ := X8_number (wd := evw M s) c1.2.1.2.2.2.2 e59 hn12 c2 (WM_E h.1 hs).1 (WM_E h.1 hs).2 hw p2
    rw [evS_L] at hc
    have eF := FLS_67 M s n
    have eT : f_X10_styleFault K (iN s) p2 = if r8 = (-1) then some (1, 0, K') else some (0, r8, K') := by
      simp only [f_X10_styleFault, X10_sAt K hs, eq_grd, eq_lb, eq_b1, eq_b2, eq_b3, eq_b4, eq_b5, if_true, hs, decide_true, e1, e8, ↓nM_lit, iN_lit, iN_add, iN_mul, iN_lt, iN_le, iN_eq, iN_c, gd_iN, iN_nM, nM_iN, iN_ltM, nM_lt, nM_le, iN_leM, iN_0M, nM_p1, iN_0s1, decide_true, decide_eq_true_eq, Nat.not_lt_zero, if_true, if_false]
    have eM : f_X11_styleFault M (iN s) p2 = if (0 : Int32) ≤ p2 then bnd2 (f_X11_styleOf (upo M 67 0 (iN 0)) (iN s) p2) (fun r8 x_o9 => f_X11_styleFault_J27 x_o9 r8) else f_X11_styleFault_J27 (upo M 67 0 (iN 0)) (-1) := by
      simp only [f_X11_styleFault, isS_y hs, may_1, eq_grd, eq_lb, eq_b1, eq_b2, eq_b3, eq_b4, eq_b5, show ¬ (iN 1 = 0) by decide, if_false]
    generalize FLS M (evS M s) (Lk (sr M) M s) (evw M s) n (evn M s) = fl at *
    have bad : ∀ y, RI j K' y → f_X11_styleFault M (iN s) p2 = f_X11_styleFault_J27 y (-1) → r8 = nM → Op_styleFault RI j K M (iN s) p2 := by
      intro y hy ey hr
      refine ⟨1, 0, K', 0, upo y 67 0 (iN 1), iN 1, ?_, ?_, congrArg some (u67 _ _), Or.inr ⟨rfl, rfl⟩, RI_j (RI_67 _ hy)⟩
      · rw [eT, if_pos (show r8 = -1 from hr)]
      · rw [ey]
        simp (disch := omega) only [f_X11_styleFault_J27, may_0, eq_grd, eq_lb, eq_b1, eq_b2, eq_b3, eq_b4, eq_b5, ↓nM_lit, iN_lit, iN_add, iN_mul, iN_lt, iN_le, iN_eq, iN_c, gd_iN, iN_nM, nM_iN, iN_ltM, nM_lt, nM_le, iN_leM, iN_0M, nM_p1, iN_0s1, decide_true, decide_eq_true_eq, Nat.not_lt_zero, if_true, if_false, if_true]
    by_cases h0 : (0 : Int32) ≤ p2
    · rw [if_pos h0] at eM
      obtain ⟨⟨r, y⟩, e2, d1, d2⟩ := X11_sty h4.1 hs ⟨_, h4.2.1.2.2.2.2⟩ (by rw [upo_ne (by decide)]; exact e59) hn12 p2
      simp only at d1 d2
      rw [eF] at d2
      have hy : RI j K' y := RI_cg (fun k hk => d1 k (by omega) (by omega) (by omega) (by omega) (by omega)) (RI_67 (iN 0) c1)
      rw [e2, eq_b2] at eM
      simp only at eM
      rcases d2 with ⟨hno, d2⟩ | ⟨i, hi, hv, d2⟩
      · have hp : p2 ≠ nM := by
          intro hp; rw [hp] at h0; exact absurd h0 (by decide)
        rw [if_neg hp] at d2
        refine bad y hy (by rw [eM, d2]; rfl) ?_
        rcases hc with ⟨-, hc⟩ | ⟨i, hi, hv, -⟩
        · exact hc
        · exact absurd hv (hno i hi)
      · rcases hc with ⟨hno, -⟩ | ⟨i', hi', hv', hc⟩
        · exact absurd hv (hno i hi)
        · have hii : i = i' := by
            have := hv.symm.trans hv'
            rw [iN_eq (by omega) (by omega)] at this
            exact this
          subst hii
          have hb := hbd i hi
          have hne : ¬ (iN (fl.getD i 0) = -1) := by
            show ¬ (iN (fl.getD i 0) = nM)
            rw [iN_nM (by omega)]; exact id
          refine ⟨0, r8, K', r, upo y 67 0 (iN 0), iN 0, ?_, ?_, congrArg some (u67 _ _), Or.inl ⟨rfl, rfl, ?_⟩, RI_j (RI_67 _ hy)⟩
          · rw [eT, hc, if_neg hne]
          · rw [eM, f_X11_styleFault_J27, d2, if_neg hne]
            have e1' : f_X11_may y 1 = some (iN 1, upo y 67 0 (iN 0)) := may_1 y
            rw [e1', eq_b2, if_neg (show ¬ ((iN 1, upo y 67 0 (iN 0)).1 = 0) from (by decide : ¬ (iN 1 = 0)))]
          · rw [hc, d2]
    · rw [if_neg h0] at eM
      refine bad _ (RI_67 (iN 0) c1) eM ?_
      rcases hc with ⟨-, hc⟩ | ⟨i, hi, hv, -⟩
      · exact hc
      · exfalso; apply h0; rw [hv]
        show iN 0 ≤ iN i
        rw [iN_le (by omega) (by omega)]; exact Nat.zero_le i
  · refine ⟨1, 0, K, 0, upo M 67 0 (iN 1), iN 1, ?_, ?_, congrArg some (u67 _ _), Or.inr ⟨rfl, rfl⟩, RI_j (RI_67 _ h)⟩
    · simp only [f_X10_styleFault, sAt_n hn K, eq_grd, eq_lb, eq_b1, eq_b2, eq_b3, eq_b4, eq_b5]; rfl
    · simp (disch := omega) only [f_X11_styleFault, isS_n hn, may_0, eq_grd, eq_lb, eq_b1, eq_b2, eq_b3, eq_b4, eq_b5, ↓nM_lit, iN_lit, iN_add, iN_mul, iN_lt, iN_le, iN_eq, iN_c, gd_iN, iN_nM, nM_iN, iN_ltM, nM_lt, nM_le, iN_leM, iN_0M, nM_p1, iN_0s1, decide_true, decide_eq_true_eq, Nat.not_lt_zero, if_true, if_false, if_true]
