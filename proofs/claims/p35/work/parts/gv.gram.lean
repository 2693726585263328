/-! Rules of striking, of grammar, equations told. -/
theorem an_sure {j : Nat} {K : Nat → Ob} {M : Ob} (hj : j < 1000000) (h : RI j K M) {n c o : Nat} {st : Int32} (hn : n < 8) (e15 : M 15 0 = iN n) (hc : c < 10) (ho : o < 10) (s1 : ¬ (st < -5)) (s2 : ¬ (5 < st)) (s3 : ¬ (st = 0)) (z : Int32) : ∃ K', f_L_four K (iN 0) (iN c) st (iN o) z = some (iN n, K') ∧ RI (j + 1) K' (M9s (upo M 67 0 (iN 0)) n (iN 0) (iN c) st (iN o) nM) := by
  have n15 : upo M 67 0 (iN 0) 15 0 = iN n := by rw [upo_ne (by decide)]; exact e15
  have e2 : f_X11_sure M (iN c) st (iN o) = some (iN n, M9s (upo M 67 0 (iN 0)) n (iN 0) (iN c) st (iN o) nM) := by
    have e3 : f_X11_sure M (iN c) st (iN o) = f_X11_sure_J34 M (iN c) st (iN o) (iN 1) := by
      rw [f_X11_sure, isD_y hc, eq_b1, if_neg (by decide), f_X11_isIn, if_neg s1, if_neg s2, eq_b1, if_neg (by decide), if_neg s3, isD_y ho, eq_b1, if_neg (by decide)]; rfl
    rw [e3, J34_1 (by omega) e15, if_neg (by omega), X11_str hn n15 (Or.inl rfl), eq_b2]
  obtain ⟨k, r, K', b', M', t, f1, f2, f3, f4, f5⟩ := op_sure hj h (iN c) st (iN o)
  rw [e2] at f2
  obtain ⟨rfl, rfl⟩ := Prod.mk.inj (Option.some.inj f2)
  have ht : t = iN 0 := by
    rw [f_X11_thrown] at f3
    have := Option.some.inj f3
    rw [← this, M9s_o 67 (by omega), up_s]
  refine ⟨K', ?_, f5⟩
  rcases f4 with ⟨rfl, -, rfl⟩ | ⟨-, h1⟩ | ⟨-, h1⟩
  · rw [f_L_four, if_pos (show iN 0 = 0 from rfl), f1, eq_b3, kt_0, eq_b1]
  · rw [ht] at h1; exact absurd h1 (by decide)
  · rw [ht] at h1; exact absurd h1 (by decide)
theorem an_sure_0 {K : Nat → Ob} (p1 p3 z : Int32) : f_L_four K (iN 0) p1 (iN 0) p3 z = some (-1002, K) := by
  have e1 : f_X10_sure K p1 (iN 0) p3 = some (2, 0, K) := by
    rw [f_X10_sure, if_neg (by decide), if_neg (by decide), if_pos (show iN 0 = 0 from rfl), J19_n]
  rw [f_L_four, if_pos (show iN 0 = 0 from rfl), e1, eq_b3, kt123_2, eq_b1]
theorem an_seen {j : Nat} {K : Nat → Ob} {M : Ob} (hj : j < 1000000) (h : RI j K M) {n c o : Nat} {st b : Int32} (hn : n < 8) (e15 : M 15 0 = iN n) (hc : c < 10) (ho : o < 10) (hst : st = nM ∨ st = iN 1) (hb : b = nM ∨ ∃ q, q < 10 ∧ b = iN q) : ∃ K', f_L_four K (iN 1) (iN c) st (iN o) b = some (iN n, K') ∧ RI (j + 1) K' (M9s (upo M 67 0 (iN 0)) n (iN 1) (iN c) st (iN o) b) := by
  have n15 : upo M 67 0 (iN 0) 15 0 = iN n := by rw [upo_ne (by decide)]; exact e15
  have e2 : f_X11_seen M (iN c) st (iN o) b = some (iN n, M9s (upo M 67 0 (iN 0)) n (iN 1) (iN c) st (iN o) b) := by
    have e3 : f_X11_seen M (iN c) st (iN o) b = f_X11_seen_J17 M (iN c) st (iN o) b := by
      rw [f_X11_seen, isD_y hc, eq_b1, if_neg (by decide)]
      rcases hst with e | e
      · rw [if_pos (show st = -1 from e)]
      · rw [e, if_neg (by decide), if_pos (show iN 1 = 1 from rfl)]
    have e4 : f_X11_seen_J17 M (iN c) st (iN o) b = f_X11_seen_J43 M (iN c) st (iN o) b (iN 1) := by
      rw [f_X11_seen_J17, isD_y ho, eq_b1, if_neg (by decide)]
      rcases hb with e | ⟨q, hq, e⟩
      · rw [if_pos (show b = -1 from e), f_X11_seen_J38]; rfl
      · have : ¬ (b = -1) := by
          intro h1
          have h2 : iN q = nM := by rw [← e]; exact h1
          rw [iN_nM (by omega)] at h2; exact h2
        rw [if_neg this, e, isD_y hq, eq_b1, if_neg (by decide), f_X11_seen_J38]; rfl
    rw [e3, e4, J43_1 (by omega) e15, if_neg (by omega), X11_str hn n15 (Or.inr rfl), eq_b2]
  obtain ⟨k, r, K', b', M', t, f1, f2, f3, f4, f5⟩ := op_seen hj h (iN c) st (iN o) b
  rw [e2] at f2
  obtain ⟨rfl, rfl⟩ := Prod.mk.inj (Option.some.inj f2)
  have ht : t = iN 0 := by
    rw [f_X11_thrown] at f3
    have := Option.some.inj f3
    rw [← this, M9s_o 67 (by omega), up_s]
  refine ⟨K', ?_, f5⟩
  rcases f4 with ⟨rfl, -, rfl⟩ | ⟨-, h1⟩ | ⟨-, h1⟩
  · rw [f_L_four, if_neg (show ¬ (iN 1 = 0) by decide), if_pos (show iN 1 = 1 from rfl), f1, eq_b3, kt_0, eq_b1]
  · rw [ht] at h1; exact absurd h1 (by decide)
  · rw [ht] at h1; exact absurd h1 (by decide)
theorem an_rule {j : Nat} {K : Nat → Ob} {M : Ob} (hj : j < 1000000) (h : RI j K M) {n : Nat} {p1 p2 p3 p4 : Int32} (hn : n < 16) (e21 : M 21 0 = iN n) (hr : RG1 p1 p2 p3 p4) : ∃ K', f_L_four K (iN 2) p1 p2 p3 p4 = some (iN n, K') ∧ RI (j + 1) K' (M9u (upo M 67 0 (iN 0)) n p1 p2 p3 p4) := by
  have e2 : f_X11_rule M p1 p2 p3 p4 = some (iN n, M9u (upo M 67 0 (iN 0)) n p1 p2 p3 p4) := by
    have e3 : f_X11_rule M p1 p2 p3 p4 = f_X11_rule_J55 M p1 p2 p3 p4 (iN 1) := by
      obtain ⟨a, b, ha, hb, e1, e2, hc⟩ := hr
      rw [f_X11_rule, e1, isD_y ha, eq_b1, if_neg (by decide), e2, isD_y hb, eq_b1, if_neg (by decide)]
      rcases hc with ⟨c1, c2, c3⟩ | ⟨c, hc, c1, c2⟩
      · rw [if_pos (show p3 = -1 from c1), if_neg (by rw [iN_le (by omega) (by omega)]; omega), if_pos (show p4 = 1 from c3), f_X11_rule_J50]; rfl
      · have h3 : ¬ (p3 = -1) := by
          intro h
          have h2 : iN c = nM := by rw [← c1]; exact h
          rw [iN_nM (by omega)] at h2; exact h2
        have i4 : f_X11_isIn p4 1 2 = some (iN 1) := by
          rcases c2 with c2 | c2
          · rw [c2]; rfl
          · rw [c2]; rfl
        rw [if_neg h3, c1, isD_y hc, eq_b1, if_neg (by decide), i4, eq_b1, if_neg (by decide), f_X11_rule_J50]; rfl
    rw [e3, Jr55_1 (by omega) e21, if_neg (by omega)]
  obtain ⟨k, r, K', b', M', t, f1, f2, f3, f4, f5⟩ := op_rule hj h p1 p2 p3 p4
  rw [e2] at f2
  obtain ⟨rfl, rfl⟩ := Prod.mk.inj (Option.some.inj f2)
  have ht : t = iN 0 := by
    rw [f_X11_thrown] at f3
    have := Option.some.inj f3
    rw [← this, M9u_o 67 (by omega), up_s]
  refine ⟨K', ?_, f5⟩
  rcases f4 with ⟨rfl, -, rfl⟩ | ⟨-, h1⟩ | ⟨-, h1⟩
  · rw [f_L_four, if_neg (show ¬ (iN 2 = 0) by decide), if_neg (show ¬ (iN 2 = 1) by decide), if_pos (show iN 2 = 2 from rfl), f1, eq_b3, kt_0, eq_b1]
  · rw [ht] at h1; exact absurd h1 (by decide)
  · rw [ht] at h1; exact absurd h1 (by decide)
theorem an_rule_n {K : Nat → Ob} {a b : Nat} (ha : a < 10) (hb : b < 10) (hab : a ≤ b) : f_L_four K (iN 2) (iN a) (iN b) nM (iN 1) = some (-1002, K) := by
  have q3 : f_X10_isCategoryOrNone nM = some (iN 1) := rfl
  have q1 : f_X10_isBelow (iN a) 10 = some (iN 1) := isB_y ha (by decide)
  have q2 : f_X10_isBelow (iN b) 10 = some (iN 1) := isB_y hb (by decide)
  have e1 : f_X10_rule K (iN a) (iN b) nM (iN 1) = some (2, 0, K) := by
    rw [f_X10_rule, q1, eq_b1, if_neg (by decide), q2, eq_b1, if_neg (by decide), q3, eq_b1, if_neg (by decide), f_X10_rule_J30, if_neg (by decide), if_pos (show iN 1 = 1 from rfl), f_X10_rule_J59, if_pos (show nM = -1 from rfl), if_pos (by rw [iN_le (by omega) (by omega)]; exact hab)]
  rw [f_L_four, if_neg (show ¬ (iN 2 = 0) by decide), if_neg (show ¬ (iN 2 = 1) by decide), if_pos (show iN 2 = 2 from rfl), e1, eq_b3, kt123_2, eq_b1]
theorem eqM {j : Nat} {K : Nat → Ob} {M : Ob} (h : RI j K M) {g f a b c e : Nat} (hg : g < nn (M 21 0)) (e26 : M 26 g = iN e) (he : e ≤ 3) (hf : f < 3) (ha : a ≤ 2) (hb : b ≤ 2) (hab : a ≠ b) (hc : c ≤ 20) (hu : M 24 g = nM → a ≤ 1 ∧ b ≤ 1) : f_X11_equate M (iN g) (iN f) (iN a) (iN b) (iN c) = if e = 3 then some (0, upo M 67 0 (iN 3)) else some (iN e, M9e (upo M 67 0 (iN 0)) g e (iN f) (iN a) (iN b) (iN c)) := by
  obtain ⟨n, hn16, e21, k21⟩ := RI_rul h
  have en : nn (M 21 0) = n := by rw [e21, nn, iN_c (by omega)]
  rw [en] at hg
  have z2 : (2 : Int32) = iN 2 := rfl
  have o1 : (1 : Int32) = iN 1 := rfl
  have z0 : (0 : Int32) = iN 0 := rfl
  obtain ⟨most, hm⟩ : ∃ most, (M 24 g = nM ∧ most = 1) ∨ (M 24 g ≠ nM ∧ most = 2) := by
    by_cases hu : M 24 g = nM
    · exact ⟨1, Or.inl ⟨hu, rfl⟩⟩
    · exact ⟨2, Or.inr ⟨hu, rfl⟩⟩
  have hmM : f_X11_equate M (iN g) (iN f) (iN a) (iN b) (iN c) = f_X11_equate_J33 M (iN g) (iN f) (iN a) (iN b) (iN c) (iN 1) (iN most) := by
    have i1 := isI_y hg (show n < 2147483648 by omega)
    rw [f_X11_equate, e21, z0, o1, i1, eq_b1, if_neg (show ¬ (iN 1 = iN 0) by decide), gd_iN (by omega), decide_eq_true (show g < 16 by omega), eq_grd, iN_c (by omega)]
    rcases hm with ⟨hu, hm1⟩ | ⟨hu, hm1⟩
    · rw [if_pos (show M 24 g = -iN 1 from hu), hm1]
    · rw [if_neg (show ¬ (M 24 g = -iN 1) from hu), hm1, f_X11_equate_J32, z2]
  have ham : a ≤ most ∧ b ≤ most := by
    rcases hm with ⟨h1, h2⟩ | ⟨-, h2⟩
    · have := hu h1; omega
    · omega
  have hm2 : most ≤ 2 := by rcases hm with ⟨-, h⟩ | ⟨-, h⟩ <;> omega
  have w2 : f_X11_isIn (iN f) 0 2 = some (iN 1) := isI_y2 (show f ≤ 2 by omega) (by decide)
  have w3 : f_X11_isIn (iN a) 0 (iN most) = some (iN 1) := isI_y2 ham.1 (by omega)
  have w4 : f_X11_isIn (iN b) 0 (iN most) = some (iN 1) := isI_y2 ham.2 (by omega)
  have w5 : f_X11_isIn (iN c) 0 20 = some (iN 1) := isI_y2 (show c ≤ 20 by omega) (by decide)
  have hne : ¬ (iN a = iN b) := by rw [iN_eq (by omega) (by omega)]; exact hab
  have e33 : f_X11_equate_J33 M (iN g) (iN f) (iN a) (iN b) (iN c) (iN 1) (iN most) = f_X11_equate_J87 M (iN g) (iN f) (iN a) (iN b) (iN c) (iN 1) (iN 1) := by
    rw [f_X11_equate_J33, w2, eq_b1, if_neg (show ¬ (iN 1 = 0) by decide), w3, eq_b1, if_neg (show ¬ (iN 1 = 0) by decide), w4, eq_b1, if_neg (show ¬ (iN 1 = 0) by decide), if_neg hne, w5, eq_b1, if_neg (show ¬ (iN 1 = 0) by decide)]; rfl
  rw [hmM, e33, Je87_1 (show g < 16 by omega) he e26]
  by_cases h3 : e = 3
  · rw [if_pos h3, if_pos h3, Je114_110]
  · rw [if_neg h3, if_neg h3, Je114_111 (show g < 16 by omega) (by omega) e26]
theorem an_equates {j : Nat} {K : Nat → Ob} {M : Ob} (hj : j < 1000000) (h : RI j K M) {g f a b c e : Nat} (hg : g < nn (M 21 0)) (e26 : M 26 g = iN e) (he : e < 3) (hf : f < 3) (ha : a ≤ 2) (hb : b ≤ 2) (hab : a ≠ b) (hc : c ≤ 20) (hu : M 24 g = nM → a ≤ 1 ∧ b ≤ 1) : ∃ K', f_L_equates K (iN g) (iN f) (iN a) (iN b) (iN c) = some (iN e, K') ∧ RI (j + 1) K' (M9e (upo M 67 0 (iN 0)) g e (iN f) (iN a) (iN b) (iN c)) := by
  have e2 := eqM h hg e26 (by omega) hf ha hb hab hc hu
  rw [if_neg (by omega)] at e2
  obtain ⟨k, r, K', b', M', t, f1, f2, f3, f4, f5⟩ := op_equate hj h (iN g) (iN f) (iN a) (iN b) (iN c)
  rw [e2] at f2
  obtain ⟨rfl, rfl⟩ := Prod.mk.inj (Option.some.inj f2)
  have ht : t = iN 0 := by
    rw [f_X11_thrown] at f3
    have := Option.some.inj f3
    rw [← this, M9e_o 67 (by omega), up_s]
  refine ⟨K', ?_, f5⟩
  rcases f4 with ⟨rfl, -, rfl⟩ | ⟨-, h1⟩ | ⟨-, h1⟩ | ⟨-, h1⟩
  · rw [f_L_equates, f1, eq_b3, kt_0, eq_b1]
  · rw [ht] at h1; exact absurd h1 (by decide)
  · rw [ht] at h1; exact absurd h1 (by decide)
  · rw [ht] at h1; exact absurd h1 (by decide)
theorem an_equates_3 {j : Nat} {K : Nat → Ob} {M : Ob} (hj : j < 1000000) (h : RI j K M) {g f a b c : Nat} (hg : g < nn (M 21 0)) (e26 : M 26 g = iN 3) (hf : f < 3) (ha : a ≤ 2) (hb : b ≤ 2) (hab : a ≠ b) (hc : c ≤ 20) (hu : M 24 g = nM → a ≤ 1 ∧ b ≤ 1) : ∃ K', f_L_equates K (iN g) (iN f) (iN a) (iN b) (iN c) = some (-1003, K') ∧ RI (j + 1) K' M := by
  have e2 := eqM h hg e26 (by omega) hf ha hb hab hc hu
  rw [if_pos rfl] at e2
  obtain ⟨k, r, K', b', M', t, f1, f2, f3, f4, f5⟩ := op_equate hj h (iN g) (iN f) (iN a) (iN b) (iN c)
  rw [e2] at f2
  obtain ⟨rfl, rfl⟩ := Prod.mk.inj (Option.some.inj f2)
  have ht : t = iN 3 := by
    rw [f_X11_thrown] at f3
    have := Option.some.inj f3
    rw [← this, up_s]
  refine ⟨K', ?_, RI_un67 f5⟩
  rcases f4 with ⟨-, h1, -⟩ | ⟨-, h1⟩ | ⟨-, h1⟩ | ⟨rfl, -⟩
  · rw [ht] at h1; exact absurd h1 (by decide)
  · rw [ht] at h1; exact absurd h1 (by decide)
  · rw [ht] at h1; exact absurd h1 (by decide)
  · rw [f_L_equates, f1, eq_b3, kt123_3, eq_b1]
theorem an_equates_n1 {j : Nat} {K : Nat → Ob} {M : Ob} (h : RI j K M) {g : Nat} (hg : g = nn (M 21 0)) (p2 p3 p4 p5 : Int32) : f_L_equates K (iN g) p2 p3 p4 p5 = some (-1001, K) := by
  obtain ⟨n, hn16, e21, k21⟩ := RI_rul h
  have en : nn (M 21 0) = n := by rw [e21, nn, iN_c (by omega)]
  rw [en] at hg
  subst hg
  have hh : f_X2_hasRule (K 3) (iN g) = some (iN 0) := by
    simp (disch := omega) only [f_X2_hasRule, k21, ↓nM_lit, iN_lit, iN_add, iN_mul, iN_lt, iN_le, iN_eq, iN_c, gd_iN, iN_nM, nM_iN, iN_ltM, nM_lt, nM_le, iN_leM, iN_0M, nM_p1, iN_0s1, decide_true, decide_eq_true_eq, Nat.not_lt_zero, if_true, if_false, Nat.le_refl]
  rw [f_L_equates, f_X10_equate, hh, eq_b1, if_pos (show iN 0 = 0 from rfl), eq_b3, kt123_1, eq_b1]
theorem an_equates_n2 {j : Nat} {K : Nat → Ob} {M : Ob} (h : RI j K M) {g f a b c : Nat} (hg : g < nn (M 21 0)) (hf : f < 3) (ha : a ≤ 2) (hb : b ≤ 2) (hc : c ≤ 20) (hbad : a = b ∨ (M 24 g = nM ∧ (a = 2 ∨ b = 2))) : f_L_equates K (iN g) (iN f) (iN a) (iN b) (iN c) = some (-1002, K) := by
  obtain ⟨n, hn16, e21, k21⟩ := RI_rul h
  have en : nn (M 21 0) = n := by rw [e21, nn, iN_c (by omega)]
  rw [en] at hg
  have hh : f_X2_hasRule (K 3) (iN g) = some (iN 1) := by
    simp (disch := omega) only [f_X2_hasRule, k21, ↓nM_lit, iN_lit, iN_add, iN_mul, iN_lt, iN_le, iN_eq, iN_c, gd_iN, iN_nM, nM_iN, iN_ltM, nM_lt, nM_le, iN_leM, iN_0M, nM_p1, iN_0s1, decide_true, decide_eq_true_eq, Nat.not_lt_zero, if_true, if_false, show ¬ (n ≤ g) by omega]
  have g21 : gr M 21 0 = iN n := by rw [← gr_e (by decide) (by decide)]; exact e21
  have hgn : g < nn (gr M 21 0) := by rw [g21, nn, iN_c (by omega)]; exact hg
  have m24 : M 24 g = gr M 24 g := by rw [← gr_e (show 21 ≤ 24 by decide) (by decide)]
  have hr := (X2_get h.2.1.2.2.1 h.1.2.2.2 hgn).2.2.1
  have q2 : f_X10_isBelow (iN f) 3 = some (iN 1) := isB_y hf (by decide)
  have q3 : f_X10_isBelow (iN a) 3 = some (iN 1) := isB_y (show a < 3 by omega) (by decide)
  have q4 : f_X10_isBelow (iN b) 3 = some (iN 1) := isB_y (show b < 3 by omega) (by decide)
  have q5 : f_X10_isBelow (iN c) 21 = some (iN 1) := isB_y (show c < 21 by omega) (by decide)
  have e1 : f_X10_equate K (iN g) (iN f) (iN a) (iN b) (iN c) = some (2, 0, K) := by
    rw [f_X10_equate, hh, eq_b1, if_neg (show ¬ (iN 1 = 0) by decide), q2, eq_b1, if_neg (show ¬ (iN 1 = 0) by decide), q3, eq_b1, if_neg (show ¬ (iN 1 = 0) by decide), q4, eq_b1, if_neg (show ¬ (iN 1 = 0) by decide)]
    by_cases hab : a = b
    · rw [hab, if_pos rfl]
    · rw [if_neg (by rw [iN_eq (by omega) (by omega)]; exact hab), q5, eq_b1, if_neg (show ¬ (iN 1 = 0) by decide)]
      rcases hbad with hbad | ⟨hu, hbad⟩
      · exact absurd hbad hab
      · rw [m24] at hu
        have k83 : f_X10_equate_J83 K (iN g) (iN f) (iN a) (iN b) (iN c) = some (2, 0, K) := by rw [f_X10_equate_J83, hr, eq_b1, if_pos (show gr M 24 g = -1 from hu)]
        rw [k83]
        rcases hbad with rfl | rfl
        · rw [if_pos (show iN 2 = 2 from rfl)]
        · by_cases h2 : iN a = 2
          · rw [if_pos h2]
          · rw [if_neg h2, if_pos (show iN 2 = 2 from rfl)]
  rw [f_L_equates, e1, eq_b3, kt123_2, eq_b1]
