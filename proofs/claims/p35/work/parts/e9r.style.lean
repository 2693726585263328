/-! Patterns: told, switched. -/
theorem RI_sty {j : Nat} {K : Nat → Ob} {M M' x : Ob} (h : RI j K M) (hc : ∀ k, (k < 11 ∨ (15 ≤ k ∧ k ≤ 30) ∨ (52 ≤ k ∧ k ≤ 58)) → M' k = M k) (h8 : QX8 x M') : RI j (va_up K 7 x) M' := by
  obtain ⟨h1, h2, h3, h4, h5, h6⟩ := h
  have hcr : cor M M' := fun k hk => hc k (by omega)
  obtain ⟨k1, k2, k3, k4, -⟩ := h2
  refine ⟨WM_cg hcr h1, ⟨by rw [vu_ne (by decide)]; exact RX3_cg (fun k hk => hc k (by omega)) k1, by rw [vu_ne (by decide), sr_cg hcr]; exact k2, by rw [vu_ne (by decide), gr_cg hcr]; exact k3, by rw [vu_ne (by decide), gr_cg hcr]; exact k4, by rw [vu_eq]; exact h8⟩, ?_, ?_, by rw [vu_ne (by decide), hc 53 (by omega)]; exact h5, ZE_cg (hc 21 (by omega)) (hc 26 (by omega)) h6⟩
  · intro s hs
    rw [vu_ne (by omega), vu_ne (by omega)]
    refine RSen_cg hcr ?_ ?_ (h3 s hs)
    · rw [hc 52 (by omega), hc 54 (by omega), hc 55 (by omega), hc 56 (by omega)]; exact ⟨rfl, rfl, rfl, rfl⟩
    · intro p _
      rw [hc 57 (by omega), hc 58 (by omega)]; exact ⟨rfl, rfl⟩
  · unfold VR
    rw [hc 52 (by omega), hc 54 (by omega), hc 55 (by omega), hc 56 (by omega)]; exact h4
theorem RI_pat {j : Nat} {K : Nat → Ob} {M : Ob} (h : RI j K M) : ∃ n, n ≤ 12 ∧ M 59 0 = iN n ∧ K 7 0 0 = iN n := by
  obtain ⟨⟨a, ha, e⟩, e0, -⟩ := h.2.1.2.2.2.2
  exact ⟨a, ha, e, by rw [e0]; exact e⟩
theorem isPa_or (p : Int32) : (f_X10_isCategoryOrNone p = some (iN 1) ∧ f_X11_isPart p = some (iN 1)) ∨ (f_X10_isCategoryOrNone p = some (iN 0) ∧ f_X11_isPart p = some (iN 0)) := by
  rcases cN_or p with ⟨hp, e⟩ | ⟨hne, hn, e⟩
  · refine Or.inl ⟨e, ?_⟩
    rcases hp with hp | ⟨c, hc, hp⟩
    · rw [f_X11_isPart, if_pos (show p = -1 from hp)]; rfl
    · have h3 : ¬ (p = -1) := by
        intro h
        have h2 : iN c = nM := by rw [← hp]; exact h
        rw [iN_nM (by omega)] at h2; exact h2
      rw [f_X11_isPart, if_neg h3, hp, isD_y hc, eq_b1, if_neg (by decide)]; rfl
  · refine Or.inr ⟨e, ?_⟩
    rw [f_X11_isPart, if_neg (show ¬ (p = -1) from hne), isD_n hn, eq_b1, if_pos (show iN 0 = 0 from rfl)]; rfl
theorem pa_or (p1 p2 p3 p4 : Int32) : ((∀ K, f_X10_pattern_J29 K p1 p2 p3 p4 = f_X10_pattern_J73 K p1 p2 p3 p4) ∧ ∀ M, f_X11_pattern M p1 p2 p3 p4 = f_X11_pattern_J36 M p1 p2 p3 p4 (iN 1)) ∨ ((∀ K, f_X10_pattern_J29 K p1 p2 p3 p4 = some (2, 0, K)) ∧ ∀ M, f_X11_pattern M p1 p2 p3 p4 = f_X11_pattern_J36 M p1 p2 p3 p4 (iN 0)) := by
  have z0 : (0 : Int32) = iN 0 := rfl
  have o1 : (1 : Int32) = iN 1 := rfl
  have n1 : ¬ (iN 1 = (0 : Int32)) := by decide
  have y0 : iN 0 = (0 : Int32) := rfl
  rcases in_or p1 (show 10 < 2147483648 by decide) with ⟨a, ha, e1⟩ | hn
  · have q1 : f_X10_isBelow p1 10 = some (iN 1) := by rw [e1]; exact isB_y ha (by decide)
    have w1 : f_X11_isDigit p1 = some (iN 1) := by rw [e1]; exact isD_y ha
    rcases isPa_or p2 with ⟨q2, w2⟩ | ⟨q2, w2⟩
    · rcases isPa_or p3 with ⟨q3, w3⟩ | ⟨q3, w3⟩
      · have kK : ∀ K, f_X10_pattern_J29 K p1 p2 p3 p4 = if p2 = -1 then if p3 = -1 then f_X10_pattern_J73 K p1 p2 p3 p4 else some (2, 0, K) else f_X10_pattern_J73 K p1 p2 p3 p4 := fun K => by
          rw [f_X10_pattern_J29, q1, eq_b1, if_neg n1, q2, eq_b1, if_neg n1, q3, eq_b1, if_neg n1]
        have kM : ∀ M, f_X11_pattern M p1 p2 p3 p4 = if p2 = -1 then if p3 = -1 then f_X11_pattern_J31 M p1 p2 p3 p4 else f_X11_pattern_J35 M p1 p2 p3 p4 else f_X11_pattern_J31 M p1 p2 p3 p4 := fun M => by
          rw [f_X11_pattern, w1, eq_b1, if_neg n1, w2, eq_b1, if_neg n1, w3, eq_b1, if_neg n1]
        by_cases h2 : p2 = -1
        · by_cases h3 : p3 = -1
          · exact Or.inl ⟨fun K => by rw [kK K, if_pos h2, if_pos h3], fun M => by rw [kM M, if_pos h2, if_pos h3, f_X11_pattern_J31, o1]⟩
          · exact Or.inr ⟨fun K => by rw [kK K, if_pos h2, if_neg h3], fun M => by rw [kM M, if_pos h2, if_neg h3, f_X11_pattern_J35, z0]⟩
        · exact Or.inl ⟨fun K => by rw [kK K, if_neg h2], fun M => by rw [kM M, if_neg h2, f_X11_pattern_J31, o1]⟩
      · refine Or.inr ⟨fun K => ?_, fun M => ?_⟩
        · rw [f_X10_pattern_J29, q1, eq_b1, if_neg n1, q2, eq_b1, if_neg n1, q3, eq_b1, if_pos y0]
        · rw [f_X11_pattern, w1, eq_b1, if_neg n1, w2, eq_b1, if_neg n1, w3, eq_b1, if_pos y0, f_X11_pattern_J35, z0]
    · refine Or.inr ⟨fun K => ?_, fun M => ?_⟩
      · rw [f_X10_pattern_J29, q1, eq_b1, if_neg n1, q2, eq_b1, if_pos y0]
      · rw [f_X11_pattern, w1, eq_b1, if_neg n1, w2, eq_b1, if_pos y0, f_X11_pattern_J35, z0]
  · have q1 : f_X10_isBelow p1 10 = some (iN 0) := isB_n hn
    refine Or.inr ⟨fun K => ?_, fun M => ?_⟩
    · rw [f_X10_pattern_J29, q1, eq_b1, if_pos y0]
    · rw [f_X11_pattern, isD_n hn, eq_b1, if_pos y0, f_X11_pattern_J35, z0]
def M9p (N : Ob) (n : Nat) (a b c d : Int32) : Ob := upo (upo (upo (upo (upo N 60 n a) 61 n b) 62 n c) 63 n d) 59 0 (iN (n + 1))
theorem J81_111 {M : Ob} {n : Nat} (hn : n < 12) (e : M 59 0 = iN n) (p1 p2 p3 p4 : Int32) : f_X11_pattern_J81 M p1 p2 p3 p4 (iN 1) (iN 1) (iN 1) = some (iN n, M9p (upo M 67 0 (iN 0)) n p1 p2 p3 p4) := by
  have n2 : upo M 67 0 (iN 0) 59 0 = iN n := by rw [upo_ne (by decide)]; exact e
  generalize hNe : upo M 67 0 (iN 0) = N at n2
  rw [f_X11_pattern_J81, mA_111, eq_b2, hNe, if_neg (show ¬ ((iN 1, N).1 = 0) from (by decide : ¬ (iN 1 = 0)))]
  simp (disch := omega) only [eq_grd, eq_lb, eq_b1, eq_b2, eq_b3, eq_b4, eq_b5, ↓nM_lit, iN_lit, iN_add, iN_mul, iN_lt, iN_le, iN_eq, iN_c, gd_iN, iN_nM, nM_iN, iN_ltM, nM_lt, nM_le, iN_leM, iN_0M, nM_p1, iN_0s1, decide_true, decide_eq_true_eq, Nat.not_lt_zero, if_true, if_false, hn, n2, upo_ne, up_s, iN_s1 (show 0 < n + 1 by omega), Nat.add_sub_cancel, M9p]
theorem J65_0 (x : Ob) (p1 p2 p3 p4 v5 : Int32) : f_X11_pattern_J65 x p1 p2 p3 p4 v5 (iN 0) = some (0, upo x 67 0 (iN 1)) := by
  rw [f_X11_pattern_J65, f_X11_pattern_J81, f_X11_pattern_J81, mA_0, mA_0, eq_b2]
  split <;> exact if_pos rfl
theorem J65_10 (x : Ob) (p1 p2 p3 p4 : Int32) : f_X11_pattern_J65 x p1 p2 p3 p4 (iN 0) (iN 1) = some (0, upo x 67 0 (iN 2)) := by
  rw [f_X11_pattern_J65, f_X11_pattern_J81, f_X11_pattern_J81, mA_10, mA_10, eq_b2]
  split <;> exact if_pos rfl
theorem J65_11 {x : Ob} {n : Nat} (hn : n ≤ 12) (e : x 59 0 = iN n) (p1 p2 p3 p4 : Int32) : f_X11_pattern_J65 x p1 p2 p3 p4 (iN 1) (iN 1) = if n = 12 then some (0, upo x 67 0 (iN 3)) else some (iN n, M9p (upo x 67 0 (iN 0)) n p1 p2 p3 p4) := by
  rw [f_X11_pattern_J65, e]
  by_cases h : n = 12
  · subst h
    rw [if_pos (by decide), if_pos rfl, show (0 : Int32) = iN 0 from rfl, f_X11_pattern_J81, mA_110, eq_b2]
    exact if_pos rfl
  · rw [if_neg h, if_neg (show ¬ ((12 : Int32) ≤ iN n) from (by rw [iN_le (by decide) (by omega)]; omega : ¬ (iN 12 ≤ iN n)))]
    rw [show (1 : Int32) = iN 1 from rfl, J81_111 (by omega) e]
theorem hasP_y {x : Ob} {n a : Nat} (h0 : x 0 0 = iN n) (hn : n < 2147483648) (ha : a < n) : f_X8_hasPattern x (iN a) = some (iN 1) := by
  simp only [f_X8_hasPattern, h0, isB_y ha hn, eq_grd, eq_lb, eq_b1, eq_b2, eq_b3, eq_b4, eq_b5, isb_1]
theorem hasP_n {x : Ob} {n : Nat} {p : Int32} (h0 : x 0 0 = iN n) (ha : nb p n) : f_X8_hasPattern x p = some (iN 0) := by
  simp only [f_X8_hasPattern, h0, isB_n ha, eq_grd, eq_lb, eq_b1, eq_b2, eq_b3, eq_b4, eq_b5, isb_0]
theorem op_pattern {j : Nat} {K : Nat → Ob} {M : Ob} (h : RI j K M) (p1 p2 p3 p4 : Int32) : Op_pattern RI j K M p1 p2 p3 p4 := by
  obtain ⟨n, hn12, e59, k59⟩ := RI_pat h
  have z0 : (0 : Int32) = iN 0 := rfl
  have o1 : (1 : Int32) = iN 1 := rfl
  have n1 : ¬ (iN 1 = (0 : Int32)) := by decide
  have y0 : iN 0 = (0 : Int32) := rfl
  by_cases hof : p4 = nM ∨ ∃ b, b < n ∧ p4 = iN b
  · have kK : f_X10_pattern K p1 p2 p3 p4 = f_X10_pattern_J29 K p1 p2 p3 p4 := by
      rw [f_X10_pattern]
      by_cases h4 : p4 = -1
      · rw [if_pos h4]
      · rw [if_neg h4]
        rcases hof with e | ⟨b, hb, e⟩
        · exact absurd e h4
        · rw [e, hasP_y k59 (by omega) hb, eq_b1, if_neg n1]
    have kM : ∀ s0, f_X11_pattern_J36 M p1 p2 p3 p4 s0 = f_X11_pattern_J65 M p1 p2 p3 p4 s0 (iN 1) := by
      intro s0
      rw [f_X11_pattern_J36]
      by_cases h4 : p4 = -1
      · rw [if_pos h4, f_X11_pattern_J60, o1]
      · rw [if_neg h4]
        rcases hof with e | ⟨b, hb, e⟩
        · exact absurd e h4
        · have i1 := isI_y hb (show n < 2147483648 by omega)
          rw [e59, e, z0, o1, i1, eq_b1, if_neg (show ¬ (iN 1 = iN 0) by decide), f_X11_pattern_J60, o1]
    rcases pa_or p1 p2 p3 p4 with ⟨fK, fM⟩ | ⟨fK, fM⟩
    · have m1 := fM M
      rw [kM, J65_11 hn12 e59] at m1
      by_cases h12 : n = 12
      · refine ⟨3, 0, K, 0, upo M 67 0 (iN 3), iN 3, ?_, by rw [m1, if_pos h12], congrArg some (u67 _ _), Or.inr (Or.inr (Or.inr ⟨rfl, rfl⟩)), RI_j (RI_67 _ h)⟩
        rw [kK, fK K]
        subst h12
        simp (disch := omega) only [f_X10_pattern_J73, f_X8_isFull, k59, eq_grd, eq_lb, eq_b1, eq_b2, eq_b3, eq_b4, eq_b5, ↓nM_lit, iN_lit, iN_add, iN_mul, iN_lt, iN_le, iN_eq, iN_c, gd_iN, iN_nM, nM_iN, iN_ltM, nM_lt, nM_le, iN_leM, iN_0M, nM_p1, iN_0s1, decide_true, decide_eq_true_eq, Nat.not_lt_zero, if_true, if_false, show ¬ (12 < 12) by decide, if_false, show ¬ (1 = 0) by decide]
      · rw [if_neg h12] at m1
        have hN := RI_67 (iN 0) h
        have n67 : upo M 67 0 (iN 0) 67 0 = iN 0 := u67 _ _
        have n59 : upo M 67 0 (iN 0) 59 0 = iN n := by rw [upo_ne (by decide)]; exact e59
        generalize upo M 67 0 (iN 0) = N at m1 hN n67 n59
        have hn : n < 12 := by omega
        refine ⟨0, iN n, va_up K 7 (upo (upo (upo (upo (upo (K 7) 1 (n * 3) p1) 1 (n * 3 + 1) p2) 1 (n * 3 + 2) p3) 2 n p4) 0 0 (iN (n + 1))), iN n, _, iN 0, ?_, m1, ?_, Or.inl ⟨rfl, rfl, rfl⟩, RI_j ?_⟩
        · rw [kK, fK K]
          simp (disch := omega) only [f_X10_pattern_J73, f_X8_isFull, k59, f_X8_addPattern, isB_y hn (show 12 < 2147483648 by decide), eq_grd, eq_lb, eq_b1, eq_b2, eq_b3, eq_b4, eq_b5, ↓nM_lit, iN_lit, iN_add, iN_mul, iN_lt, iN_le, iN_eq, iN_c, gd_iN, iN_nM, nM_iN, iN_ltM, nM_lt, nM_le, iN_leM, iN_0M, nM_p1, iN_0s1, decide_true, decide_eq_true_eq, Nat.not_lt_zero, if_true, if_false, hn, if_true, show ¬ (1 = 0) by decide, if_false, show n * 3 < 36 by omega, show n * 3 + 1 < 36 by omega, show n * 3 + 2 < 36 by omega, upo_ne, up_s, iN_s1 (show 0 < n + 1 by omega), Nat.add_sub_cancel]
        · unfold M9p
          rw [f_X11_thrown, upo_ne (by decide), upo_ne (by decide), upo_ne (by decide), upo_ne (by decide), upo_ne (by decide), n67]
        · refine RI_sty hN ?_ ?_
          · intro k hk
            unfold M9p
            rw [upo_ne (by omega), upo_ne (by omega), upo_ne (by omega), upo_ne (by omega), upo_ne (by omega)]
          · obtain ⟨-, x0, x1, x2, x3⟩ := hN.2.1.2.2.2.2
            have en : nn (N 59 0) = n := by rw [n59, nn, iN_c (by omega)]
            have d59 : M9p N n p1 p2 p3 p4 59 0 = iN (n + 1) := by unfold M9p; rw [up_s]
            have d60 : ∀ i, M9p N n p1 p2 p3 p4 60 i = if i = n then p1 else N 60 i := fun i => by
              unfold M9p; rw [upo_ne (by decide), upo_ne (by decide), upo_ne (by decide), upo_ne (by decide), upo_ap]; simp only [true_and]
            have d61 : ∀ i, M9p N n p1 p2 p3 p4 61 i = if i = n then p2 else N 61 i := fun i => by
              unfold M9p; rw [upo_ne (by decide), upo_ne (by decide), upo_ne (by decide), upo_ap, upo_ne (by decide)]; simp only [true_and]
            have d62 : ∀ i, M9p N n p1 p2 p3 p4 62 i = if i = n then p3 else N 62 i := fun i => by
              unfold M9p; rw [upo_ne (by decide), upo_ne (by decide), upo_ap, upo_ne (by decide), upo_ne (by decide)]; simp only [true_and]
            have d63 : ∀ i, M9p N n p1 p2 p3 p4 63 i = if i = n then p4 else N 63 i := fun i => by
              unfold M9p; rw [upo_ne (by decide), upo_ap, upo_ne (by decide), upo_ne (by decide), upo_ne (by decide)]; simp only [true_and]
            have d64 : M9p N n p1 p2 p3 p4 64 = N 64 := by unfold M9p; rw [upo_ne (by decide), upo_ne (by decide), upo_ne (by decide), upo_ne (by decide), upo_ne (by decide)]
            have d65 : M9p N n p1 p2 p3 p4 65 = N 65 := by unfold M9p; rw [upo_ne (by decide), upo_ne (by decide), upo_ne (by decide), upo_ne (by decide), upo_ne (by decide)]
            have y1 : ∀ i, upo (upo (upo (upo (upo (K 7) 1 (n * 3) p1) 1 (n * 3 + 1) p2) 1 (n * 3 + 2) p3) 2 n p4) 0 0 (iN (n + 1)) 1 i = if i = n * 3 + 2 then p3 else if i = n * 3 + 1 then p2 else if i = n * 3 then p1 else K 7 1 i := fun i => by
              rw [upo_ne (by decide), upo_ne (by decide), upo_ap, upo_ap, upo_ap]; simp only [true_and]
            have y2 : ∀ i, upo (upo (upo (upo (upo (K 7) 1 (n * 3) p1) 1 (n * 3 + 1) p2) 1 (n * 3 + 2) p3) 2 n p4) 0 0 (iN (n + 1)) 2 i = if i = n then p4 else K 7 2 i := fun i => by
              rw [upo_ne (by decide), upo_ap, upo_ne (by decide), upo_ne (by decide), upo_ne (by decide)]; simp only [true_and]
            unfold QX8
            rw [d59, d64, d65, up_s, upo_ne (show (3 : Nat) ≠ 0 by decide), upo_ne (show (3 : Nat) ≠ 2 by decide), upo_ne (show (3 : Nat) ≠ 1 by decide), upo_ne (show (3 : Nat) ≠ 1 by decide), upo_ne (show (3 : Nat) ≠ 1 by decide), upo_ne (show (4 : Nat) ≠ 0 by decide), upo_ne (show (4 : Nat) ≠ 2 by decide), upo_ne (show (4 : Nat) ≠ 1 by decide), upo_ne (show (4 : Nat) ≠ 1 by decide), upo_ne (show (4 : Nat) ≠ 1 by decide)]
            refine ⟨⟨n + 1, by omega, rfl⟩, rfl, ?_, x2, x3⟩
            intro k hk
            rw [nn, iN_c (by omega)] at hk
            have w0 := y1 (3 * k)
            have w1 := y1 (3 * k + 1)
            have w2 := y1 (3 * k + 2)
            rw [y2, d60, d61, d62, d63]
            by_cases e : k = n
            · rw [if_neg (show ¬ (3 * k = n * 3 + 2) by omega), if_neg (show ¬ (3 * k = n * 3 + 1) by omega), if_pos (show 3 * k = n * 3 by omega)] at w0
              rw [if_neg (show ¬ (3 * k + 1 = n * 3 + 2) by omega), if_pos (show 3 * k + 1 = n * 3 + 1 by omega)] at w1
              rw [if_pos (show 3 * k + 2 = n * 3 + 2 by omega)] at w2
              rw [w0, w1, w2]
              simp only [e, if_true]
              refine ⟨trivial, trivial, trivial, trivial, ?_⟩
              exact hof
            · rw [if_neg (show ¬ (3 * k = n * 3 + 2) by omega), if_neg (show ¬ (3 * k = n * 3 + 1) by omega), if_neg (show ¬ (3 * k = n * 3) by omega)] at w0
              rw [if_neg (show ¬ (3 * k + 1 = n * 3 + 2) by omega), if_neg (show ¬ (3 * k + 1 = n * 3 + 1) by omega), if_neg (show ¬ (3 * k + 1 = n * 3) by omega)] at w1
              rw [if_neg (show ¬ (3 * k + 2 = n * 3 + 2) by omega), if_neg (show ¬ (3 * k + 2 = n * 3 + 1) by omega), if_neg (show ¬ (3 * k + 2 = n * 3) by omega)] at w2
              rw [w0, w1, w2]
              simp only [e, if_false]
              exact x1 k (by rw [en]; omega)
    · have m1 := fM M
      rw [kM, J65_10] at m1
      exact ⟨2, 0, K, 0, upo M 67 0 (iN 2), iN 2, by rw [kK, fK K], m1, congrArg some (u67 _ _), Or.inr (Or.inr (Or.inl ⟨rfl, rfl⟩)), RI_j (RI_67 _ h)⟩
  · have h4 : ¬ (p4 = -1) := fun e => hof (Or.inl e)
    have hnb : nb p4 n := by
      rcases in_or p4 (show n < 2147483648 by omega) with ⟨b, hb, e⟩ | hn
      · exact absurd (Or.inr ⟨b, hb, e⟩) hof
      · exact hn
    have i1 := isI_n hnb (show n < 2147483648 by omega)
    have kM : ∀ s0, f_X11_pattern_J36 M p1 p2 p3 p4 s0 = f_X11_pattern_J65 M p1 p2 p3 p4 s0 (iN 0) := by
      intro s0
      rw [f_X11_pattern_J36, if_neg h4, e59, z0, o1, i1, eq_b1, if_pos rfl]
    refine ⟨1, 0, K, 0, upo M 67 0 (iN 1), iN 1, ?_, ?_, congrArg some (u67 _ _), Or.inr (Or.inl ⟨rfl, rfl⟩), RI_j (RI_67 _ h)⟩
    · rw [f_X10_pattern, if_neg h4, hasP_n k59 hnb, eq_b1, if_pos y0]
    · rcases pa_or p1 p2 p3 p4 with ⟨-, fM⟩ | ⟨-, fM⟩ <;> rw [fM M, kM, J65_0]
