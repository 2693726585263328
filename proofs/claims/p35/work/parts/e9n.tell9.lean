/-! equate. -/
def M9e (N : Ob) (g e : Nat) (f a b c : Int32) : Ob := upo (upo (upo (upo (upo (upo N 27 (3 * g + e) f) 28 (3 * g + e) a) 29 (3 * g + e) b) 30 (3 * g + e) c) 26 g (iN (e + 1))) 52 0 (N 52 0 + iN 1)
theorem M9e_o {N : Ob} {g e : Nat} {f a b c : Int32} (k : Nat) (h : (k < 26 ∨ 30 < k) ∧ k ≠ 52) : M9e N g e f a b c k = N k := by
  unfold M9e
  rw [upo_ne (by omega), upo_ne (by omega), upo_ne (by omega), upo_ne (by omega), upo_ne (by omega), upo_ne (by omega)]
theorem M9e_k {N : Ob} {g e : Nat} {f a b c : Int32} (i : Nat) : M9e N g e f a b c 26 i = (if i = g then iN (e + 1) else N 26 i) ∧ M9e N g e f a b c 27 i = (if i = 3 * g + e then f else N 27 i) ∧ M9e N g e f a b c 28 i = (if i = 3 * g + e then a else N 28 i) ∧ M9e N g e f a b c 29 i = (if i = 3 * g + e then b else N 29 i) ∧ M9e N g e f a b c 30 i = (if i = 3 * g + e then c else N 30 i) := by
  unfold M9e
  refine ⟨?_, ?_, ?_, ?_, ?_⟩
  · rw [upo_ne (by decide), upo_ap, upo_ne (by decide), upo_ne (by decide), upo_ne (by decide), upo_ne (by decide)]; simp only [true_and]
  · rw [upo_ne (by decide), upo_ne (by decide), upo_ne (by decide), upo_ne (by decide), upo_ne (by decide), upo_ap]; simp only [true_and]
  · rw [upo_ne (by decide), upo_ne (by decide), upo_ne (by decide), upo_ne (by decide), upo_ap, upo_ne (by decide)]; simp only [true_and]
  · rw [upo_ne (by decide), upo_ne (by decide), upo_ne (by decide), upo_ap, upo_ne (by decide), upo_ne (by decide)]; simp only [true_and]
  · rw [upo_ne (by decide), upo_ne (by decide), upo_ap, upo_ne (by decide), upo_ne (by decide), upo_ne (by decide)]; simp only [true_and]
theorem M9e_52 {N : Ob} {g e : Nat} {f a b c : Int32} : M9e N g e f a b c 52 0 = N 52 0 + iN 1 := by
  unfold M9e; rw [up_s]
theorem Je114_0 (x : Ob) (v p2 p3 p4 p5 b c : Int32) : f_X11_equate_J114 x v p2 p3 p4 p5 (iN 0) b c = some (0, upo x 67 0 (iN 1)) := by
  rw [f_X11_equate_J114, mA_0, eq_b2]; exact if_pos rfl
theorem Je114_10 (x : Ob) (v p2 p3 p4 p5 c : Int32) : f_X11_equate_J114 x v p2 p3 p4 p5 (iN 1) (iN 0) c = some (0, upo x 67 0 (iN 2)) := by
  rw [f_X11_equate_J114, mA_10, eq_b2]; exact if_pos rfl
theorem Je114_110 (x : Ob) (v p2 p3 p4 p5 : Int32) : f_X11_equate_J114 x v p2 p3 p4 p5 (iN 1) (iN 1) (iN 0) = some (0, upo x 67 0 (iN 3)) := by
  rw [f_X11_equate_J114, mA_110, eq_b2]; exact if_pos rfl
theorem Je114_111 {M : Ob} {g e : Nat} (hg : g < 16) (he : e < 3) (e2 : M 26 g = iN e) (p2 p3 p4 p5 : Int32) :
    f_X11_equate_J114 M (iN g) p2 p3 p4 p5 (iN 1) (iN 1) (iN 1) = some (iN e, M9e (upo M 67 0 (iN 0)) g e p2 p3 p4 p5) := by
  have n2 : upo M 67 0 (iN 0) 26 g = iN e := by rw [upo_ne (by decide)]; exact e2
  generalize hNe : upo M 67 0 (iN 0) = N at n2
  rw [f_X11_equate_J114, mA_111, eq_b2, hNe, if_neg (show ¬ ((iN 1, N).1 = 0) from (by decide : ¬ (iN 1 = 0)))]
  simp (disch := omega) only [eq_grd, eq_lb, eq_b1, eq_b2, eq_b3, eq_b4, eq_b5, ↓nM_lit, iN_lit, iN_add, iN_mul, iN_lt, iN_le, iN_eq, iN_c, gd_iN, iN_nM, nM_iN, iN_ltM, nM_lt, nM_le, iN_leM, iN_0M, nM_p1, iN_0s1, decide_true, decide_eq_true_eq, Nat.not_lt_zero, if_true, if_false, hg, n2, show 3 * g + e < 48 by omega, upo_ne, up_s, iN_s1 (show 0 < e + 1 by omega), Nat.add_sub_cancel, M9e]
theorem Je87_0 (x : Ob) (v p2 p3 p4 p5 s0 : Int32) : f_X11_equate_J87 x v p2 p3 p4 p5 (iN 0) s0 = some (0, upo x 67 0 (iN 1)) := by
  rw [f_X11_equate_J87, if_pos (by rfl), f_X11_equate_J113, Je114_0]
theorem Je87_1 {x : Ob} {g e : Nat} (hg : g < 16) (he : e ≤ 3) (e2 : x 26 g = iN e) (p2 p3 p4 p5 s0 : Int32) : f_X11_equate_J87 x (iN g) p2 p3 p4 p5 (iN 1) s0 = if e = 3 then f_X11_equate_J114 x (iN g) p2 p3 p4 p5 (iN 1) s0 (iN 0) else f_X11_equate_J114 x (iN g) p2 p3 p4 p5 (iN 1) s0 (iN 1) := by
  rw [f_X11_equate_J87, if_neg (by decide), gd_iN (by omega), decide_eq_true hg, eq_grd, iN_c (by omega), e2]
  by_cases h : e = 3
  · subst h
    rw [if_pos rfl, if_pos (by decide), f_X11_equate_J113]; rfl
  · rw [if_neg h, if_neg (show ¬ ((3 : Int32) ≤ iN e) from (by rw [iN_le (by decide) (by omega)]; omega : ¬ (iN 3 ≤ iN e))), iN_1]
theorem isI_or (p a b : Int32) : f_X11_isIn p a b = some (iN 1) ∨ f_X11_isIn p a b = some (iN 0) := by
  rw [f_X11_isIn]
  by_cases h1 : p < a
  · rw [if_pos h1]; exact Or.inr rfl
  · rw [if_neg h1]
    by_cases h2 : b < p
    · rw [if_pos h2]; exact Or.inr rfl
    · rw [if_neg h2]; exact Or.inl rfl
theorem Je33_or (M : Ob) (p1 p2 p3 p4 p5 v6 most : Int32) : f_X11_equate_J33 M p1 p2 p3 p4 p5 v6 most = f_X11_equate_J87 M p1 p2 p3 p4 p5 v6 (iN 0) ∨ f_X11_equate_J33 M p1 p2 p3 p4 p5 v6 most = f_X11_equate_J87 M p1 p2 p3 p4 p5 v6 (iN 1) := by
  rw [f_X11_equate_J33, f_X11_equate_J86]
  rcases isI_or p2 0 2 with h | h
  · rw [h, eq_b1, if_neg (by decide)]
    rcases isI_or p3 0 most with h | h
    · rw [h, eq_b1, if_neg (by decide)]
      rcases isI_or p4 0 most with h | h
      · rw [h, eq_b1, if_neg (by decide)]
        by_cases he : p3 = p4
        · rw [if_pos he]; exact Or.inl rfl
        · rw [if_neg he]
          rcases isI_or p5 0 20 with h | h
          · rw [h, eq_b1, if_neg (by decide)]; exact Or.inr rfl
          · rw [h, eq_b1, if_pos (show iN 0 = 0 from rfl)]; exact Or.inl rfl
      · rw [h, eq_b1, if_pos (show iN 0 = 0 from rfl)]; exact Or.inl rfl
    · rw [h, eq_b1, if_pos (show iN 0 = 0 from rfl)]; exact Or.inl rfl
  · rw [h, eq_b1, if_pos (show iN 0 = 0 from rfl)]; exact Or.inl rfl
theorem nb_mono {p : Int32} {n m : Nat} (h : nb p m) (hnm : n ≤ m) (hm : m < 2147483648) : nb p n := by
  rcases i32_cases p with h0 | ⟨a, ha, e⟩
  · exact Or.inl h0
  · subst e
    rcases h with h | h
    · exact Or.inl h
    · rw [iN_le hm ha] at h
      exact Or.inr (by rw [iN_le (by omega) ha]; omega)
/-- the arguments of an equation of a rule that is there -/
theorem eq_or {K : Nat → Ob} {r : Int32} {g : Nat} {most : Nat} (hh : f_X2_hasRule (K 3) (iN g) = some (iN 1)) (hr : f_X2_rightOf (K 3) (iN g) = some r) (hm : (r = nM ∧ most = 1) ∨ (r ≠ nM ∧ most = 2)) (M : Ob) (p2 p3 p4 p5 : Int32) :
    (∃ f a b c, f < 3 ∧ a ≤ most ∧ b ≤ most ∧ a ≠ b ∧ c ≤ 20 ∧ p2 = iN f ∧ p3 = iN a ∧ p4 = iN b ∧ p5 = iN c ∧ f_X10_equate K (iN g) p2 p3 p4 p5 = f_X10_equate_J105 K (iN g) p2 p3 p4 p5 ∧ f_X11_equate_J33 M (iN g) p2 p3 p4 p5 (iN 1) (iN most) = f_X11_equate_J87 M (iN g) p2 p3 p4 p5 (iN 1) (iN 1)) ∨
    (f_X10_equate K (iN g) p2 p3 p4 p5 = some (2, 0, K) ∧ f_X11_equate_J33 M (iN g) p2 p3 p4 p5 (iN 1) (iN most) = f_X11_equate_J87 M (iN g) p2 p3 p4 p5 (iN 1) (iN 0)) := by
  have z0 : (0 : Int32) = iN 0 := rfl
  have hm2 : most ≤ 2 := by rcases hm with ⟨-, h⟩ | ⟨-, h⟩ <;> omega
  have kcl : f_X10_equate K (iN g) p2 p3 p4 p5 = bnd1 (f_X10_isBelow p2 3) (fun r4 => if r4 = 0 then some (2, 0, K) else bnd1 (f_X10_isBelow p3 3) (fun r7 => if r7 = 0 then some (2, 0, K) else bnd1 (f_X10_isBelow p4 3) (fun r10 => if r10 = 0 then some (2, 0, K) else if p3 = p4 then some (2, 0, K) else bnd1 (f_X10_isBelow p5 21) (fun r14 => if r14 = 0 then some (2, 0, K) else if p3 = 2 then f_X10_equate_J83 K (iN g) p2 p3 p4 p5 else if p4 = 2 then f_X10_equate_J83 K (iN g) p2 p3 p4 p5 else f_X10_equate_J105 K (iN g) p2 p3 p4 p5)))) := by
    rw [f_X10_equate, hh, eq_b1, if_neg (show ¬ (iN 1 = 0) by decide)]
  rw [kcl, f_X11_equate_J33, f_X11_equate_J86]
  rcases in_or p2 (show 3 < 2147483648 by decide) with ⟨f, hf, e2⟩ | hn
  · have q2 : f_X10_isBelow p2 3 = some (iN 1) := by rw [e2]; exact isB_y hf (by decide)
    have w2 : f_X11_isIn p2 0 2 = some (iN 1) := by rw [e2]; exact isI_y2 (show f ≤ 2 by omega) (by decide)
    rw [q2, w2, eq_b1, eq_b1, if_neg (show ¬ (iN 1 = 0) by decide), if_neg (show ¬ (iN 1 = 0) by decide)]
    rcases in_or p3 (show 3 < 2147483648 by decide) with ⟨a, ha, e3⟩ | hn
    · have q3 : f_X10_isBelow p3 3 = some (iN 1) := by rw [e3]; exact isB_y ha (by decide)
      rw [q3, eq_b1, if_neg (show ¬ (iN 1 = 0) by decide)]
      by_cases ham : a ≤ most
      · have w3 : f_X11_isIn p3 0 (iN most) = some (iN 1) := by rw [e3]; exact isI_y2 ham (by omega)
        rw [w3, eq_b1, if_neg (show ¬ (iN 1 = 0) by decide)]
        rcases in_or p4 (show 3 < 2147483648 by decide) with ⟨b, hb, e4⟩ | hn
        · have q4 : f_X10_isBelow p4 3 = some (iN 1) := by rw [e4]; exact isB_y hb (by decide)
          rw [q4, eq_b1, if_neg (show ¬ (iN 1 = 0) by decide)]
          by_cases hbm : b ≤ most
          · have w4 : f_X11_isIn p4 0 (iN most) = some (iN 1) := by rw [e4]; exact isI_y2 hbm (by omega)
            rw [w4, eq_b1, if_neg (show ¬ (iN 1 = 0) by decide)]
            by_cases hab : p3 = p4
            · rw [if_pos hab, if_pos hab]; exact Or.inr ⟨rfl, rfl⟩
            · rw [if_neg hab, if_neg hab]
              rcases in_or p5 (show 21 < 2147483648 by decide) with ⟨c, hc, e5⟩ | hn
              · have q5 : f_X10_isBelow p5 21 = some (iN 1) := by rw [e5]; exact isB_y hc (by decide)
                have w5 : f_X11_isIn p5 0 20 = some (iN 1) := by rw [e5]; exact isI_y2 (show c ≤ 20 by omega) (by decide)
                rw [q5, w5, eq_b1, eq_b1, if_neg (show ¬ (iN 1 = 0) by decide), if_neg (show ¬ (iN 1 = 0) by decide)]
                refine Or.inl ⟨f, a, b, c, hf, ham, hbm, fun h => hab (by rw [e3, e4, h]), by omega, e2, e3, e4, e5, ?_, rfl⟩
                by_cases h2 : p3 = 2 ∨ p4 = 2
                · have hbin : r ≠ nM := by
                    rcases hm with ⟨-, h1⟩ | ⟨h1, -⟩
                    · exfalso
                      rcases h2 with h2 | h2
                      · have : iN a = iN 2 := by rw [← e3]; exact h2
                        rw [iN_eq (by omega) (by omega)] at this; omega
                      · have : iN b = iN 2 := by rw [← e4]; exact h2
                        rw [iN_eq (by omega) (by omega)] at this; omega
                    · exact h1
                  have k83 : f_X10_equate_J83 K (iN g) p2 p3 p4 p5 = f_X10_equate_J105 K (iN g) p2 p3 p4 p5 := by
                    rw [f_X10_equate_J83, hr, eq_b1, if_neg (show ¬ (r = -1) from hbin)]
                  rw [k83]
                  rcases h2 with h2 | h2
                  · rw [if_pos h2]
                  · by_cases h3 : p3 = 2
                    · rw [if_pos h3]
                    · rw [if_neg h3, if_pos h2]
                · rw [if_neg (fun h => h2 (Or.inl h)), if_neg (fun h => h2 (Or.inr h))]
              · have q5 : f_X10_isBelow p5 21 = some (iN 0) := isB_n hn
                have w5 : f_X11_isIn p5 0 20 = some (iN 0) := isI_n2 (n := 20) hn (by decide)
                rw [q5, w5, eq_b1, eq_b1, if_pos (show iN 0 = 0 from rfl), if_pos (show iN 0 = 0 from rfl)]; exact Or.inr ⟨rfl, rfl⟩
          · have w4 : f_X11_isIn p4 0 (iN most) = some (iN 0) := isI_n2 (by rw [e4]; exact Or.inr (by rw [iN_le (by omega) (by omega)]; omega)) (by omega)
            have hu : r = nM := by rcases hm with ⟨h1, h2⟩ | ⟨-, h2⟩; exact h1; omega
            have h2 : p4 = 2 := by rw [e4]; have : b = 2 := by { rcases hm with ⟨-, h2⟩ | ⟨-, h2⟩ <;> omega }; rw [this]; rfl
            have k83 : f_X10_equate_J83 K (iN g) p2 p3 p4 p5 = some (2, 0, K) := by rw [f_X10_equate_J83, hr, eq_b1, if_pos (show r = -1 from hu)]
            rw [w4, eq_b1, if_pos (show iN 0 = 0 from rfl), k83]
            refine Or.inr ⟨?_, rfl⟩
            by_cases hab : p3 = p4
            · rw [if_pos hab]
            · rw [if_neg hab]
              rcases in_or p5 (show 21 < 2147483648 by decide) with ⟨c, hc, e5⟩ | hn
              · have q5 : f_X10_isBelow p5 21 = some (iN 1) := by rw [e5]; exact isB_y hc (by decide)
                rw [q5, eq_b1, if_neg (show ¬ (iN 1 = 0) by decide), if_pos h2]; split <;> rfl
              · have q5 : f_X10_isBelow p5 21 = some (iN 0) := isB_n hn
                rw [q5, eq_b1, if_pos (show iN 0 = 0 from rfl)]
        · have q4 : f_X10_isBelow p4 3 = some (iN 0) := isB_n hn
          have w4 : f_X11_isIn p4 0 (iN most) = some (iN 0) := isI_n2 (nb_mono hn (by omega) (by decide)) (by omega)
          rw [q4, w4, eq_b1, eq_b1, if_pos (show iN 0 = 0 from rfl), if_pos (show iN 0 = 0 from rfl)]; exact Or.inr ⟨rfl, rfl⟩
      · have w3 : f_X11_isIn p3 0 (iN most) = some (iN 0) := isI_n2 (by rw [e3]; exact Or.inr (by rw [iN_le (by omega) (by omega)]; omega)) (by omega)
        have hu : r = nM := by rcases hm with ⟨h1, h2⟩ | ⟨-, h2⟩; exact h1; omega
        have h2 : p3 = 2 := by rw [e3]; have : a = 2 := by { rcases hm with ⟨-, h2⟩ | ⟨-, h2⟩ <;> omega }; rw [this]; rfl
        have k83 : f_X10_equate_J83 K (iN g) p2 p3 p4 p5 = some (2, 0, K) := by rw [f_X10_equate_J83, hr, eq_b1, if_pos (show r = -1 from hu)]
        rw [w3, eq_b1, if_pos (show iN 0 = 0 from rfl), k83]
        refine Or.inr ⟨?_, rfl⟩
        rcases in_or p4 (show 3 < 2147483648 by decide) with ⟨b, hb, e4⟩ | hn
        · have q4 : f_X10_isBelow p4 3 = some (iN 1) := by rw [e4]; exact isB_y hb (by decide)
          rw [q4, eq_b1, if_neg (show ¬ (iN 1 = 0) by decide)]
          by_cases hab : p3 = p4
          · rw [if_pos hab]
          · rw [if_neg hab]
            rcases in_or p5 (show 21 < 2147483648 by decide) with ⟨c, hc, e5⟩ | hn
            · have q5 : f_X10_isBelow p5 21 = some (iN 1) := by rw [e5]; exact isB_y hc (by decide)
              rw [q5, eq_b1, if_neg (show ¬ (iN 1 = 0) by decide), if_pos h2]
            · have q5 : f_X10_isBelow p5 21 = some (iN 0) := isB_n hn
              rw [q5, eq_b1, if_pos (show iN 0 = 0 from rfl)]
        · have q4 : f_X10_isBelow p4 3 = some (iN 0) := isB_n hn
          rw [q4, eq_b1, if_pos (show iN 0 = 0 from rfl)]
    · have q3 : f_X10_isBelow p3 3 = some (iN 0) := isB_n hn
      have w3 : f_X11_isIn p3 0 (iN most) = some (iN 0) := isI_n2 (nb_mono hn (by omega) (by decide)) (by omega)
      rw [q3, w3, eq_b1, eq_b1, if_pos (show iN 0 = 0 from rfl), if_pos (show iN 0 = 0 from rfl)]; exact Or.inr ⟨rfl, rfl⟩
  · have q2 : f_X10_isBelow p2 3 = some (iN 0) := isB_n hn
    have w2 : f_X11_isIn p2 0 2 = some (iN 0) := isI_n2 (n := 2) hn (by decide)
    rw [q2, w2, eq_b1, eq_b1, if_pos (show iN 0 = 0 from rfl), if_pos (show iN 0 = 0 from rfl)]; exact Or.inr ⟨rfl, rfl⟩
