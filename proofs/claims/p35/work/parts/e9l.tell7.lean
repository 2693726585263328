/-! rule. -/
def M9u (N : Ob) (n : Nat) (p l r hd : Int32) : Ob := upo (upo (upo (upo (upo (upo N 22 n p) 23 n l) 24 n r) 25 n hd) 21 0 (iN (n + 1))) 52 0 (N 52 0 + iN 1)
theorem M9u_o {N : Ob} {n : Nat} {p l r hd : Int32} (k : Nat) (h : (k < 21 ∨ 25 < k) ∧ k ≠ 52) : M9u N n p l r hd k = N k := by
  unfold M9u
  rw [upo_ne (by omega), upo_ne (by omega), upo_ne (by omega), upo_ne (by omega), upo_ne (by omega), upo_ne (by omega)]
theorem M9u_k {N : Ob} {n : Nat} {p l r hd : Int32} (i : Nat) : M9u N n p l r hd 21 0 = iN (n + 1) ∧ M9u N n p l r hd 22 i = (if i = n then p else N 22 i) ∧ M9u N n p l r hd 23 i = (if i = n then l else N 23 i) ∧ M9u N n p l r hd 24 i = (if i = n then r else N 24 i) ∧ M9u N n p l r hd 25 i = (if i = n then hd else N 25 i) := by
  unfold M9u
  refine ⟨by rw [upo_ne (by decide), up_s], ?_, ?_, ?_, ?_⟩
  · rw [upo_ne (by decide), upo_ne (by decide), upo_ne (by decide), upo_ne (by decide), upo_ne (by decide), upo_ap]; simp only [true_and]
  · rw [upo_ne (by decide), upo_ne (by decide), upo_ne (by decide), upo_ne (by decide), upo_ap, upo_ne (by decide)]; simp only [true_and]
  · rw [upo_ne (by decide), upo_ne (by decide), upo_ne (by decide), upo_ap, upo_ne (by decide), upo_ne (by decide)]; simp only [true_and]
  · rw [upo_ne (by decide), upo_ne (by decide), upo_ap, upo_ne (by decide), upo_ne (by decide), upo_ne (by decide)]; simp only [true_and]
theorem M9u_52 {N : Ob} {n : Nat} {p l r hd : Int32} : M9u N n p l r hd 52 0 = N 52 0 + iN 1 := by
  unfold M9u; rw [up_s]
theorem Jr74_0 (x : Ob) (p1 p2 p3 p4 b : Int32) : f_X11_rule_J74 x p1 p2 p3 p4 (iN 0) b = some (0, upo x 67 0 (iN 1)) := by
  rw [f_X11_rule_J74, mB_0, eq_b2]; exact if_pos rfl
theorem Jr74_10 (x : Ob) (p1 p2 p3 p4 : Int32) : f_X11_rule_J74 x p1 p2 p3 p4 (iN 1) (iN 0) = some (0, upo x 67 0 (iN 2)) := by
  rw [f_X11_rule_J74, mB_10, eq_b2]; exact if_pos rfl
theorem Jr74_11 {M : Ob} {n : Nat} (hn : n < 16) (e : M 21 0 = iN n) (p1 p2 p3 p4 : Int32) : f_X11_rule_J74 M p1 p2 p3 p4 (iN 1) (iN 1) = some (iN n, M9u (upo M 67 0 (iN 0)) n p1 p2 p3 p4) := by
  have n21 : upo M 67 0 (iN 0) 21 0 = iN n := by rw [upo_ne (by decide)]; exact e
  generalize hNe : upo M 67 0 (iN 0) = N at n21
  rw [f_X11_rule_J74, mB_11, eq_b2, hNe, if_neg (show ¬ ((iN 1, N).1 = 0) from (by decide : ¬ (iN 1 = 0)))]
  simp (disch := omega) only [eq_grd, eq_lb, eq_b1, eq_b2, eq_b3, eq_b4, eq_b5, ↓nM_lit, iN_lit, iN_add, iN_mul, iN_lt, iN_le, iN_eq, iN_c, gd_iN, iN_nM, nM_iN, iN_ltM, nM_lt, nM_le, iN_leM, iN_0M, nM_p1, iN_0s1, decide_true, decide_eq_true_eq, Nat.not_lt_zero, if_true, if_false, hn, n21, upo_ne, up_s, iN_s1 (show 0 < n + 1 by omega), Nat.add_sub_cancel, M9u]
theorem Jr55_0 (x : Ob) (p1 p2 p3 p4 : Int32) : f_X11_rule_J55 x p1 p2 p3 p4 (iN 0) = some (0, upo x 67 0 (iN 1)) := by
  rw [f_X11_rule_J55, Jr74_0, Jr74_0]; split <;> rfl
theorem Jr55_1 {x : Ob} {n : Nat} (hn : n ≤ 16) (e : x 21 0 = iN n) (p1 p2 p3 p4 : Int32) : f_X11_rule_J55 x p1 p2 p3 p4 (iN 1) = if n = 16 then some (0, upo x 67 0 (iN 2)) else some (iN n, M9u (upo x 67 0 (iN 0)) n p1 p2 p3 p4) := by
  rw [f_X11_rule_J55, e]
  by_cases h : n = 16
  · subst h
    rw [if_pos (by decide), if_pos rfl, show (0 : Int32) = iN 0 from rfl, Jr74_10]
    rfl
  · rw [if_neg h, if_neg (show ¬ ((16 : Int32) ≤ iN n) from (by rw [iN_le (by decide) (by omega)]; omega : ¬ (iN 16 ≤ iN n)))]
    rw [show (1 : Int32) = iN 1 from rfl, Jr74_11 (by omega) e]
def RG1 (p1 p2 p3 p4 : Int32) : Prop := ∃ a b, a < 10 ∧ b < 10 ∧ p1 = iN a ∧ p2 = iN b ∧ ((p3 = nM ∧ b < a ∧ p4 = iN 1) ∨ ∃ c, c < 10 ∧ p3 = iN c ∧ (p4 = iN 1 ∨ p4 = iN 2))
theorem rl_or (p1 p2 p3 p4 : Int32) : (RG1 p1 p2 p3 p4 ∧ (∀ K, f_X10_rule K p1 p2 p3 p4 = f_X10_rule_J85 K p1 p2 p3 p4) ∧ ∀ M, f_X11_rule M p1 p2 p3 p4 = f_X11_rule_J55 M p1 p2 p3 p4 (iN 1)) ∨ ((∀ K, f_X10_rule K p1 p2 p3 p4 = some (2, 0, K)) ∧ ∀ M, f_X11_rule M p1 p2 p3 p4 = f_X11_rule_J55 M p1 p2 p3 p4 (iN 0)) := by
  have z0 : (0 : Int32) = iN 0 := rfl
  have o1 : (1 : Int32) = iN 1 := rfl
  have k29 : ∀ K, f_X10_rule_J29 K p1 p2 p3 p4 = some (2, 0, K) := fun K => by rw [f_X10_rule_J29, f_X10_rule_J30, if_pos rfl]
  rcases in_or p1 (show 10 < 2147483648 by decide) with ⟨a, ha, e1⟩ | hn
  · rcases in_or p2 (show 10 < 2147483648 by decide) with ⟨b, hb, e2⟩ | hn
    · rcases cN_or p3 with ⟨hp3, e3⟩ | ⟨hne, hn, e3⟩
      · have kK : ∀ K, f_X10_rule K p1 p2 p3 p4 = f_X10_rule_J30 K p1 p2 p3 p4 (iN 1) := fun K => by
          subst e1; subst e2
          simp (disch := omega) only [f_X10_rule, isB_y ha (show 10 < 2147483648 by decide), isB_y hb (show 10 < 2147483648 by decide), e3, eq_grd, eq_lb, eq_b1, eq_b2, eq_b3, eq_b4, eq_b5, ↓nM_lit, iN_lit, iN_add, iN_mul, iN_lt, iN_le, iN_eq, iN_c, gd_iN, iN_nM, nM_iN, iN_ltM, nM_lt, nM_le, iN_leM, iN_0M, nM_p1, iN_0s1, decide_true, decide_eq_true_eq, Nat.not_lt_zero, if_true, if_false, show ¬ (1 = 0) by decide, if_false]
        rcases hp3 with hp3 | ⟨c, hc, hp3⟩
        · have kM : ∀ M, f_X11_rule M p1 p2 p3 p4 = if p1 ≤ p2 then f_X11_rule_J54 M p1 p2 p3 p4 else if p4 = 1 then f_X11_rule_J50 M p1 p2 p3 p4 else f_X11_rule_J54 M p1 p2 p3 p4 := fun M => by
            rw [f_X11_rule, e1, isD_y ha, eq_b1, if_neg (by decide), e2, isD_y hb, eq_b1, if_neg (by decide), if_pos (show p3 = -1 from hp3)]
          by_cases hab : b < a
          · have hle : ¬ (p1 ≤ p2) := by rw [e1, e2, iN_le (by omega) (by omega)]; omega
            by_cases h4 : p4 = 1
            · refine Or.inl ⟨⟨a, b, ha, hb, e1, e2, Or.inl ⟨hp3, hab, h4⟩⟩, fun K => ?_, fun M => ?_⟩
              · rw [kK K, f_X10_rule_J30, if_neg (by decide), if_pos h4, f_X10_rule_J59, if_pos (show p3 = -1 from hp3), if_neg hle, if_pos h4]
              · rw [kM M, if_neg hle, if_pos h4, f_X11_rule_J50, o1]
            · refine Or.inr ⟨fun K => ?_, fun M => ?_⟩
              · rw [kK K, f_X10_rule_J30, if_neg (by decide), if_neg h4]
                by_cases h2 : p4 = 2
                · rw [if_pos h2, f_X10_rule_J59, if_pos (show p3 = -1 from hp3), if_neg hle, if_neg h4]
                · rw [if_neg h2]
              · rw [kM M, if_neg hle, if_neg h4, f_X11_rule_J54, z0]
          · have hle : p1 ≤ p2 := by rw [e1, e2, iN_le (by omega) (by omega)]; omega
            refine Or.inr ⟨fun K => ?_, fun M => ?_⟩
            · have k59 : f_X10_rule_J59 K p1 p2 p3 p4 = some (2, 0, K) := by rw [f_X10_rule_J59, if_pos (show p3 = -1 from hp3), if_pos hle]
              rw [kK K, f_X10_rule_J30, if_neg (by decide), k59]
              split
              · rfl
              · split <;> rfl
            · rw [kM M, if_pos hle, f_X11_rule_J54, z0]
        · have h3 : ¬ (p3 = -1) := by
            intro h
            have h2 : iN c = nM := by rw [← hp3]; exact h
            rw [iN_nM (by omega)] at h2; exact h2
          have kM : ∀ M, f_X11_rule M p1 p2 p3 p4 = bnd1 (f_X11_isIn p4 1 2) (fun r26 => if r26 = 0 then f_X11_rule_J54 M p1 p2 p3 p4 else f_X11_rule_J50 M p1 p2 p3 p4) := fun M => by
            rw [f_X11_rule, e1, isD_y ha, eq_b1, if_neg (by decide), e2, isD_y hb, eq_b1, if_neg (by decide), if_neg h3, hp3, isD_y hc, eq_b1, if_neg (by decide)]
          rcases w_or p4 (show 2 < 2147483648 by decide) with ⟨w, hw1, hw2, e4⟩ | hbad
          · have i4 : f_X11_isIn p4 1 2 = some (iN 1) := by
              subst e4
              simp (disch := omega) only [f_X11_isIn, ↓nM_lit, iN_lit, iN_add, iN_mul, iN_lt, iN_le, iN_eq, iN_c, gd_iN, iN_nM, nM_iN, iN_ltM, nM_lt, nM_le, iN_leM, iN_0M, nM_p1, iN_0s1, decide_true, decide_eq_true_eq, Nat.not_lt_zero, if_true, if_false, show ¬ (w < 1) by omega, show ¬ (2 < w) by omega]
            have h12 : p4 = iN 1 ∨ p4 = iN 2 := by
              rw [e4]
              have : w = 1 ∨ w = 2 := by omega
              rcases this with h | h
              · exact Or.inl (by rw [h])
              · exact Or.inr (by rw [h])
            refine Or.inl ⟨⟨a, b, ha, hb, e1, e2, Or.inr ⟨c, hc, hp3, h12⟩⟩, fun K => ?_, fun M => ?_⟩
            · have k59 : f_X10_rule_J59 K p1 p2 p3 p4 = f_X10_rule_J85 K p1 p2 p3 p4 := by rw [f_X10_rule_J59, if_neg h3]
              rw [kK K, f_X10_rule_J30, if_neg (by decide), k59]
              rcases h12 with h | h
              · rw [if_pos (show p4 = 1 from h)]
              · have hh : ¬ (p4 = 1) := by rw [h]; decide
                rw [if_neg hh, if_pos (show p4 = 2 from h)]
            · rw [kM M, i4, eq_b1, if_neg (by decide), f_X11_rule_J50, o1]
          · have i4 : f_X11_isIn p4 1 2 = some (iN 0) := by
              rw [f_X11_isIn]
              rcases hbad with h | h
              · rw [if_pos (show p4 < 1 from h)]; rfl
              · by_cases h0 : p4 < 1
                · rw [if_pos h0]; rfl
                · rw [if_neg h0, if_pos (show 2 < p4 from h)]; rfl
            have n1 : ¬ (p4 = 1) := by
              intro h
              subst h
              rcases hbad with h | h
              · exact absurd h (by decide)
              · exact absurd h (by decide)
            have n2 : ¬ (p4 = 2) := by
              intro h
              subst h
              rcases hbad with h | h
              · exact absurd h (by decide)
              · exact absurd h (by decide)
            refine Or.inr ⟨fun K => ?_, fun M => ?_⟩
            · rw [kK K, f_X10_rule_J30, if_neg (by decide), if_neg n1, if_neg n2]
            · rw [kM M, i4, eq_b1, if_pos (show iN 0 = 0 from rfl), f_X11_rule_J54, z0]
      · refine Or.inr ⟨fun K => ?_, fun M => ?_⟩
        · subst e1; subst e2
          simp (disch := omega) only [f_X10_rule, isB_y ha (show 10 < 2147483648 by decide), isB_y hb (show 10 < 2147483648 by decide), e3, k29, eq_grd, eq_lb, eq_b1, eq_b2, eq_b3, eq_b4, eq_b5, ↓nM_lit, iN_lit, iN_add, iN_mul, iN_lt, iN_le, iN_eq, iN_c, gd_iN, iN_nM, nM_iN, iN_ltM, nM_lt, nM_le, iN_leM, iN_0M, nM_p1, iN_0s1, decide_true, decide_eq_true_eq, Nat.not_lt_zero, if_true, if_false, show ¬ (1 = 0) by decide, if_false, if_true]
        · rw [f_X11_rule, e1, isD_y ha, eq_b1, if_neg (by decide), e2, isD_y hb, eq_b1, if_neg (by decide), if_neg (show ¬ (p3 = -1) from hne), isD_n hn, eq_b1, if_pos (show iN 0 = 0 from rfl), f_X11_rule_J54, z0]
    · refine Or.inr ⟨fun K => ?_, fun M => ?_⟩
      · subst e1
        simp (disch := omega) only [f_X10_rule, isB_y ha (show 10 < 2147483648 by decide), isB_n hn, k29, eq_grd, eq_lb, eq_b1, eq_b2, eq_b3, eq_b4, eq_b5, ↓nM_lit, iN_lit, iN_add, iN_mul, iN_lt, iN_le, iN_eq, iN_c, gd_iN, iN_nM, nM_iN, iN_ltM, nM_lt, nM_le, iN_leM, iN_0M, nM_p1, iN_0s1, decide_true, decide_eq_true_eq, Nat.not_lt_zero, if_true, if_false, show ¬ (1 = 0) by decide, if_false, if_true]
      · rw [f_X11_rule, e1, isD_y ha, eq_b1, if_neg (by decide), isD_n hn, eq_b1, if_pos (show iN 0 = 0 from rfl), f_X11_rule_J54, z0]
  · refine Or.inr ⟨fun K => ?_, fun M => ?_⟩
    · simp (disch := omega) only [f_X10_rule, isB_n hn, k29, eq_grd, eq_lb, eq_b1, eq_b2, eq_b3, eq_b4, eq_b5, ↓nM_lit, iN_lit, iN_add, iN_mul, iN_lt, iN_le, iN_eq, iN_c, gd_iN, iN_nM, nM_iN, iN_ltM, nM_lt, nM_le, iN_leM, iN_0M, nM_p1, iN_0s1, decide_true, decide_eq_true_eq, Nat.not_lt_zero, if_true, if_false, if_true]
    · rw [f_X11_rule, isD_n hn, eq_b1, if_pos (show iN 0 = 0 from rfl), f_X11_rule_J54, z0]
