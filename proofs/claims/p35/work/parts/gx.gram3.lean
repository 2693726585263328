/-! The law's grammar. -/
theorem gr_facts {j : Nat} {K : Nat → Ob} {M : Ob} (hR : RI j K M) {i : Nat} (hi : i < nn (M 21 0)) : (M 24 i = nM ∨ ∃ a, a ≤ 9 ∧ M 24 i = iN a) ∧ ∃ e, e ≤ 3 ∧ M 26 i = iN e := by
  have hG := hR.1.2.2.2
  have g21 : M 21 0 = gr M 21 0 := by rw [← gr_e (show 21 ≤ 21 by decide) (by decide)]
  have g24 : M 24 i = gr M 24 i := by rw [← gr_e (show 21 ≤ 24 by decide) (by decide)]
  have g26 : M 26 i = gr M 26 i := by rw [← gr_e (show 21 ≤ 26 by decide) (by decide)]
  rw [g21] at hi
  obtain ⟨-, -, h24, e, he, ee, -⟩ := hG.2 i hi
  rw [g24, g26]
  refine ⟨?_, e, he, ee⟩
  rcases h24 with ⟨h, -⟩ | ⟨h, -⟩
  · exact Or.inl h
  · exact Or.inr h
theorem L_J647 {j : Nat} {K : Nat → Ob} {c w u x t g q nr h p k : Rw} {M : Ob} (hR : RI j K M) (hj : j < 1000000) (hX : LX c w u x t g q nr h p k M) (he : LXe M) {i is f a b cc fi : Nat} (his : (is = 1 ∧ i < nn (M 21 0)) ∨ (is = 0 ∧ i = nn (M 21 0))) (hf : f < 3) (ha : a < 3) (hb : b < 3) (hc : cc ≤ 20) (hfi : (fi = 1 ∧ (is = 1 → a ≠ b ∧ (M 24 i = nM → a ≤ 1 ∧ b ≤ 1))) ∨ (fi = 0 ∧ (is = 1 → a = b ∨ (M 24 i = nM ∧ (a = 2 ∨ b = 2))))) :
    wp (f_L_grammar_J647 K c t g q nr 0 (iN i) (iN is) (iN f) (iN a) (iN b) (iN cc) (iN fi)) (fun z => z.1 = 1 ∧ UP j z.2.1 z.2.2.1 w u x z.2.2.2.1 z.2.2.2.2.1 z.2.2.2.2.2.1 z.2.2.2.2.2.2 h p k) := by
  have d1 : decide (0 + 1 ≤ 1) = true := rfl
  obtain ⟨m, hm, s2, e21, hg, hg0⟩ := id hX.2.2.2.1
  have emn : nn (M 21 0) = m := by rw [e21, nnI (by omega)]
  rcases his with ⟨rfl, hi⟩ | ⟨rfl, hi⟩
  · obtain ⟨-, e, he3, e26⟩ := gr_facts hR hi
    have hnr : nr i = iN e := by rw [(hg i (by omega)).2.2.2.1]; exact e26
    have hi5 : i < 5 := by omega
    rcases hfi with ⟨rfl, hfi⟩ | ⟨rfl, hfi⟩
    · obtain ⟨hab, hu⟩ := hfi rfl
      by_cases he2 : e = 3
      · subst he2
        obtain ⟨K', t1, t2⟩ := an_equates_3 hj hR hi e26 hf (show a ≤ 2 by omega) (show b ≤ 2 by omega) hab hc hu
        simp (disch := omega) only [f_L_grammar_J647, ↓nM_lit, iN_lit, iN_add, iN_mul, iN_lt, iN_le, iN_eq, iN_c, gd_iN, iN_nM, nM_iN, iN_ltM, nM_lt, nM_le, iN_leM, iN_0M, nM_p1, iN_0s1, decide_true, decide_eq_true_eq, Nat.not_lt_zero, if_true, if_false, wp_some, wp_grd, wp_lb, wp_ite, wp_b1, wp_b2, wp_b3, wp_b4, wp_b5, ↓reduceIte, wp_b6, wp_b7, wp_b8, wp_b9, eq_grd, eq_lb, eq_b1, eq_b2, eq_b3, eq_b4, eq_b5, eq_b6, eq_b7, eq_b8, eq_b9, show ¬ (1 = 0) by decide, hi5, hnr, t1, d1, true_and]
        exact ⟨M, t2, hX, he⟩
      · obtain ⟨K', t1, t2⟩ := an_equates hj hR hi e26 (show e < 3 by omega) hf (show a ≤ 2 by omega) (show b ≤ 2 by omega) hab hc hu
        have h3 : ∀ z, z < nn (M 21 0) → nn (M 26 z) ≤ 3 := by
          intro z hz
          obtain ⟨-, e', h1, h2⟩ := gr_facts hR hz
          rw [h2, nnI (by omega)]; exact h1
        have hX' := LX_equate hX hR.2.2.2.1 hj hi e26 (show e < 3 by omega) h3 (iN f) (iN a) (iN b) (iN cc)
        have u1 : upd nr i (iN (e + 1)) i = iN (e + 1) := upd_eq _ _ _
        simp (disch := omega) only [f_L_grammar_J647, f_L_grammar_J694, f_L_grammar_J769, ↓nM_lit, iN_lit, iN_add, iN_mul, iN_lt, iN_le, iN_eq, iN_c, gd_iN, iN_nM, nM_iN, iN_ltM, nM_lt, nM_le, iN_leM, iN_0M, nM_p1, iN_0s1, decide_true, decide_eq_true_eq, Nat.not_lt_zero, if_true, if_false, wp_some, wp_grd, wp_lb, wp_ite, wp_b1, wp_b2, wp_b3, wp_b4, wp_b5, ↓reduceIte, wp_b6, wp_b7, wp_b8, wp_b9, eq_grd, eq_lb, eq_b1, eq_b2, eq_b3, eq_b4, eq_b5, eq_b6, eq_b7, eq_b8, eq_b9, show ¬ (1 = 0) by decide, hi5, hnr, he2, show 12 * i + e < 60 by omega, show 12 * i + e + 3 < 60 by omega, show 12 * i + e + 6 < 60 by omega, show 12 * i + e + 9 < 60 by omega, t1, d1, u1, iN_s1 (show 0 < e + 1 by omega), Nat.add_sub_cancel, true_and]
        exact ⟨_, t2, hX', LXe_cs (fun k h1 h2 => by rw [M9e_o k ⟨by omega, by omega⟩, upo_ne (by omega)]) he⟩
    · have t1 := an_equates_n2 hR hi hf (show a ≤ 2 by omega) (show b ≤ 2 by omega) hc (hfi rfl)
      simp (disch := omega) only [f_L_grammar_J647, f_L_grammar_J694, f_L_grammar_J769, ↓nM_lit, iN_lit, iN_add, iN_mul, iN_lt, iN_le, iN_eq, iN_c, gd_iN, iN_nM, nM_iN, iN_ltM, nM_lt, nM_le, iN_leM, iN_0M, nM_p1, iN_0s1, decide_true, decide_eq_true_eq, Nat.not_lt_zero, if_true, if_false, wp_some, wp_grd, wp_lb, wp_ite, wp_b1, wp_b2, wp_b3, wp_b4, wp_b5, ↓reduceIte, wp_b6, wp_b7, wp_b8, wp_b9, eq_grd, eq_lb, eq_b1, eq_b2, eq_b3, eq_b4, eq_b5, eq_b6, eq_b7, eq_b8, eq_b9, show ¬ (1 = 0) by decide, t1, d1, true_and]
      exact ⟨M, RI_j hR, hX, he⟩
  · have t1 := an_equates_n1 hR hi (iN f) (iN a) (iN b) (iN cc)
    simp (disch := omega) only [f_L_grammar_J647, f_L_grammar_J694, f_L_grammar_J769, ↓nM_lit, iN_lit, iN_add, iN_mul, iN_lt, iN_le, iN_eq, iN_c, gd_iN, iN_nM, nM_iN, iN_ltM, nM_lt, nM_le, iN_leM, iN_0M, nM_p1, iN_0s1, decide_true, decide_eq_true_eq, Nat.not_lt_zero, if_true, if_false, wp_some, wp_grd, wp_lb, wp_ite, wp_b1, wp_b2, wp_b3, wp_b4, wp_b5, ↓reduceIte, wp_b6, wp_b7, wp_b8, wp_b9, eq_grd, eq_lb, eq_b1, eq_b2, eq_b3, eq_b4, eq_b5, eq_b6, eq_b7, eq_b8, eq_b9, t1, d1, true_and]
    exact ⟨M, RI_j hR, hX, he⟩
theorem L_J604 {j : Nat} {K : Nat → Ob} {c w u x t g q nr h p k : Rw} {M : Ob} (hR : RI j K M) (hj : j < 1000000) (hX : LX c w u x t g q nr h p k M) (he : LXe M) {i is f a b cc : Nat} (his : (is = 1 ∧ i < nn (M 21 0)) ∨ (is = 0 ∧ i = nn (M 21 0))) (hf : f < 3) (ha : a < 3) (hb : b < 3) (hc : cc ≤ 20) :
    wp (f_L_grammar_J604 K c t g q nr 0 (iN i) (iN is) (iN f) (iN a) (iN b) (iN cc)) (fun z => z.1 = 1 ∧ UP j z.2.1 z.2.2.1 w u x z.2.2.2.1 z.2.2.2.2.1 z.2.2.2.2.2.1 z.2.2.2.2.2.2 h p k) := by
  obtain ⟨m, hm, s2, e21, hg, hg0⟩ := id hX.2.2.2.1
  have emn : nn (M 21 0) = m := by rw [e21, nnI (by omega)]
  rw [f_L_grammar_J604]
  by_cases hab : a = b
  · rw [if_pos (by rw [hab]), f_L_grammar_J646]
    exact L_J647 (fi := 0) hR hj hX he his hf ha hb hc (Or.inr ⟨rfl, fun _ => Or.inl hab⟩)
  · rw [if_neg (by rw [iN_eq (by omega) (by omega)]; exact hab)]
    have k630 : ∀ v, wp (f_L_grammar_J646 K c t g q nr 0 (iN i) (iN is) (iN f) (iN a) (iN b) (iN cc)) v → (a = 2 ∨ b = 2) → wp (f_L_grammar_J630 K c t g q nr 0 (iN i) (iN is) (iN f) (iN a) (iN b) (iN cc)) v := by
      intro v h1 h2
      rw [f_L_grammar_J630]
      by_cases h3 : (2 : Int32) ≤ iN a
      · rw [if_pos h3]; exact h1
      · rw [if_neg h3]
        by_cases h4 : (2 : Int32) ≤ iN b
        · rw [if_pos h4]; exact h1
        · exfalso
          rw [show (2 : Int32) = iN 2 from rfl, iN_le (by omega) (by omega)] at h3 h4
          omega
    have m630 : ¬ (a = 2 ∨ b = 2) → f_L_grammar_J630 K c t g q nr 0 (iN i) (iN is) (iN f) (iN a) (iN b) (iN cc) = f_L_grammar_J642 K c t g q nr 0 (iN i) (iN is) (iN f) (iN a) (iN b) (iN cc) := by
      intro h1
      rw [f_L_grammar_J630, if_neg (show ¬ ((2 : Int32) ≤ iN a) from (by rw [iN_le (by omega) (by omega)]; omega : ¬ (iN 2 ≤ iN a))), if_neg (show ¬ ((2 : Int32) ≤ iN b) from (by rw [iN_le (by omega) (by omega)]; omega : ¬ (iN 2 ≤ iN b)))]
    rcases his with ⟨rfl, hi⟩ | ⟨rfl, hi⟩
    · rw [if_neg (show ¬ (iN 1 = 0) by decide)]
      have hi5 : i < 5 := by omega
      obtain ⟨h24, -⟩ := gr_facts hR hi
      have eg : g ((4 : Int32) * iN i + 2).toNatClampNeg = M 24 i := by
        rw [show (4 : Int32) * iN i + 2 = iN (4 * i + 2) by rw [show (4 : Int32) = iN 4 from rfl, show (2 : Int32) = iN 2 from rfl, iN_mul, iN_add], iN_c (by omega)]
        exact (hg i (by omega)).2.2.1
      have gg : gd ((4 : Int32) * iN i + 2) 20 = true := by
        rw [show (4 : Int32) * iN i + 2 = iN (4 * i + 2) by rw [show (4 : Int32) = iN 4 from rfl, show (2 : Int32) = iN 2 from rfl, iN_mul, iN_add], gd_iN (by omega)]
        exact decide_eq_true (by omega)
      rw [gg, eq_grd, eg]
      rcases h24 with h24 | ⟨a0, ha0, h24⟩
      · rw [if_neg (show ¬ ((0 : Int32) ≤ M 24 i) by rw [h24]; decide)]
        by_cases h2 : a = 2 ∨ b = 2
        · refine k630 _ ?_ h2
          rw [f_L_grammar_J646]
          exact L_J647 (fi := 0) hR hj hX he (Or.inl ⟨rfl, hi⟩) hf ha hb hc (Or.inr ⟨rfl, fun _ => Or.inr ⟨h24, h2⟩⟩)
        · rw [m630 h2, f_L_grammar_J642]
          exact L_J647 (fi := 1) hR hj hX he (Or.inl ⟨rfl, hi⟩) hf ha hb hc (Or.inl ⟨rfl, fun _ => ⟨hab, fun _ => by omega⟩⟩)
      · rw [if_pos (show (0 : Int32) ≤ M 24 i from (by rw [h24, iN_le (by omega) (by omega)]; omega : iN 0 ≤ M 24 i)), f_L_grammar_J642]
        exact L_J647 (fi := 1) hR hj hX he (Or.inl ⟨rfl, hi⟩) hf ha hb hc (Or.inl ⟨rfl, fun _ => ⟨hab, fun hh => by rw [h24, iN_nM (by omega)] at hh; exact hh.elim⟩⟩)
    · rw [if_pos (show iN 0 = 0 from rfl)]
      by_cases h2 : a = 2 ∨ b = 2
      · refine k630 _ ?_ h2
        rw [f_L_grammar_J646]
        exact L_J647 (fi := 0) hR hj hX he (Or.inr ⟨rfl, hi⟩) hf ha hb hc (Or.inr ⟨rfl, fun hh => absurd hh (by decide)⟩)
      · rw [m630 h2, f_L_grammar_J642]
        exact L_J647 (fi := 1) hR hj hX he (Or.inr ⟨rfl, hi⟩) hf ha hb hc (Or.inl ⟨rfl, fun hh => absurd hh (by decide)⟩)
theorem L_J549 {j : Nat} {K : Nat → Ob} {c w u x t g q nr h p k : Rw} {M : Ob} (hR : RI j K M) (hj : j < 1000000) (hX : LX c w u x t g q nr h p k M) (he : LXe M) {i is : Nat} (y : Int32) (his : (is = 1 ∧ i < nn (M 21 0)) ∨ (is = 0 ∧ i = nn (M 21 0))) :
    wp (f_L_grammar_J549 K c t g q nr 0 y (iN i) (iN is)) (fun z => z.1 = 1 ∧ UP j z.2.1 z.2.2.1 w u x z.2.2.2.1 z.2.2.2.2.1 z.2.2.2.2.2.1 z.2.2.2.2.2.2 h p k) := by
  obtain ⟨f, hf, ef⟩ : ∃ r, r < 3 ∧ f_L_some (y >>> ((3 : Int32) &&& 31)) 3 = some (iN r) := some_lt _ (by decide) (by decide)
  obtain ⟨a, ha, ea⟩ : ∃ r, r < 3 ∧ f_L_some (y >>> ((4 : Int32) &&& 31)) 3 = some (iN r) := some_lt _ (by decide) (by decide)
  obtain ⟨b, hb, eb⟩ : ∃ r, r < 3 ∧ f_L_some (y >>> ((6 : Int32) &&& 31)) 3 = some (iN r) := some_lt _ (by decide) (by decide)
  obtain ⟨r, hr, er⟩ : ∃ r, r < 3 ∧ f_L_some (y >>> ((7 : Int32) &&& 31)) 3 = some (iN r) := some_lt _ (by decide) (by decide)
  obtain ⟨d, hd, ed⟩ : ∃ r, r < 20 ∧ f_L_some (y >>> ((5 : Int32) &&& 31)) 20 = some (iN r) := some_lt _ (by decide) (by decide)
  rw [f_L_grammar_J549, ef, eq_b1, ea, eq_b1, eb, eq_b1, er, eq_b1]
  by_cases h0 : iN r = 0
  · rw [if_pos h0]
    exact L_J604 (cc := 0) hR hj hX he his hf ha hb (by omega)
  · rw [if_neg h0, ed, eq_b1, show iN d + 1 = iN (d + 1) from iN_add d 1]
    exact L_J604 hR hj hX he his hf ha hb (by omega)
theorem L_J401 {j : Nat} {K : Nat → Ob} {c w u x t g q nr h p k : Rw} {M : Ob} (hR : RI j K M) (hj : j < 1000000) (hX : LX c w u x t g q nr h p k M) (he : LXe M) {p1 p2 p3 p4 : Int32} (hr : RG1 p1 p2 p3 p4) :
    wp (f_L_grammar_J401 K c t g q nr 0 p1 p3 p2 p4) (fun z => z.1 = 1 ∧ UP j z.2.1 z.2.2.1 w u x z.2.2.2.1 z.2.2.2.2.1 z.2.2.2.2.2.1 z.2.2.2.2.2.2 h p k) := by
  have d1 : decide (0 + 1 ≤ 1) = true := rfl
  obtain ⟨m, hm, s2, e21, hg, hg0⟩ := id hX.2.2.2.1
  by_cases h5 : m = 5
  · subst h5
    simp (disch := omega) only [f_L_grammar_J401, f_L_grammar_J406, ↓nM_lit, iN_lit, iN_add, iN_mul, iN_lt, iN_le, iN_eq, iN_c, gd_iN, iN_nM, nM_iN, iN_ltM, nM_lt, nM_le, iN_leM, iN_0M, nM_p1, iN_0s1, decide_true, decide_eq_true_eq, Nat.not_lt_zero, if_true, if_false, wp_some, wp_grd, wp_lb, wp_ite, wp_b1, wp_b2, wp_b3, wp_b4, wp_b5, ↓reduceIte, wp_b6, wp_b7, wp_b8, wp_b9, eq_grd, eq_lb, eq_b1, eq_b2, eq_b3, eq_b4, eq_b5, eq_b6, eq_b7, eq_b8, eq_b9, show ¬ (1 = 0) by decide, s2, true_and]
    exact ⟨M, RI_j hR, hX, he⟩
  · obtain ⟨K', t1, t2⟩ := an_rule hj hR (show m < 16 by omega) e21 hr
    have hX' := LX_rule hX hR.2.2.2.1 hR.2.2.2.2.2 hj s2 (show m < 5 by omega) p1 p2 p3 p4
    have u1 : ∀ v, upd c 2 v 4 = c 4 := fun v => upd_ne (by decide)
    have u2 : ∀ v v', upd (upd c 2 v) 4 v' 2 = v := fun v v' => by rw [upd_ne (by decide), upd_eq]
    simp (disch := omega) only [f_L_grammar_J401, f_L_grammar_J406, f_L_grammar_J422, f_L_grammar_J487, ↓nM_lit, iN_lit, iN_add, iN_mul, iN_lt, iN_le, iN_eq, iN_c, gd_iN, iN_nM, nM_iN, iN_ltM, nM_lt, nM_le, iN_leM, iN_0M, nM_p1, iN_0s1, decide_true, decide_eq_true_eq, Nat.not_lt_zero, if_true, if_false, wp_some, wp_grd, wp_lb, wp_ite, wp_b1, wp_b2, wp_b3, wp_b4, wp_b5, ↓reduceIte, wp_b6, wp_b7, wp_b8, wp_b9, eq_grd, eq_lb, eq_b1, eq_b2, eq_b3, eq_b4, eq_b5, eq_b6, eq_b7, eq_b8, eq_b9, show ¬ (1 = 0) by decide, s2, h5, show 4 * m < 20 by omega, show 4 * m + 1 < 20 by omega, show 4 * m + 2 < 20 by omega, show 4 * m + 3 < 20 by omega, t1, d1, u1, u2, iN_s1 (show 0 < m + 1 by omega), Nat.add_sub_cancel, true_and]
    exact ⟨_, t2, hX', LXe_cs (fun k h1 h2 => by rw [M9u_o k ⟨by omega, by omega⟩, upo_ne (by omega)]) he⟩
theorem L_J387 {j : Nat} {K : Nat → Ob} {c w u x t g q nr h p k : Rw} {M : Ob} (hR : RI j K M) (hj : j < 1000000) (hX : LX c w u x t g q nr h p k M) (he : LXe M) {a b : Nat} {r hd : Int32} (ha : a < 10) (hb : b < 10) (hr : (r = nM ∧ hd = iN 1) ∨ ∃ c, c < 10 ∧ r = iN c ∧ (hd = iN 1 ∨ hd = iN 2)) :
    wp (f_L_grammar_J387 K c t g q nr 0 (iN a) r (iN b) hd) (fun z => z.1 = 1 ∧ UP j z.2.1 z.2.2.1 w u x z.2.2.2.1 z.2.2.2.2.1 z.2.2.2.2.2.1 z.2.2.2.2.2.2 h p k) := by
  have d1 : decide (0 + 1 ≤ 1) = true := rfl
  rw [f_L_grammar_J387]
  rcases hr with ⟨hr, hh⟩ | ⟨d, hd', hr, hh⟩
  · rw [if_neg (show ¬ ((0 : Int32) ≤ r) by rw [hr]; decide)]
    by_cases hab : a ≤ b
    · rw [if_pos (by rw [iN_le (by omega) (by omega)]; exact hab)]
      subst hr; subst hh
      have t1 := an_rule_n (K := K) ha hb hab
      simp (disch := omega) only [f_L_grammar_J406, f_L_grammar_J422, f_L_grammar_J487, ↓nM_lit, iN_lit, iN_add, iN_mul, iN_lt, iN_le, iN_eq, iN_c, gd_iN, iN_nM, nM_iN, iN_ltM, nM_lt, nM_le, iN_leM, iN_0M, nM_p1, iN_0s1, decide_true, decide_eq_true_eq, Nat.not_lt_zero, if_true, if_false, wp_some, wp_grd, wp_lb, wp_ite, wp_b1, wp_b2, wp_b3, wp_b4, wp_b5, ↓reduceIte, wp_b6, wp_b7, wp_b8, wp_b9, eq_grd, eq_lb, eq_b1, eq_b2, eq_b3, eq_b4, eq_b5, eq_b6, eq_b7, eq_b8, eq_b9, t1, d1, true_and]
      exact ⟨M, RI_j hR, hX, he⟩
    · rw [if_neg (by rw [iN_le (by omega) (by omega)]; exact hab)]
      exact L_J401 hR hj hX he ⟨a, b, ha, hb, rfl, rfl, Or.inl ⟨hr, by omega, hh⟩⟩
  · rw [if_pos (show (0 : Int32) ≤ r from (by rw [hr, iN_le (by omega) (by omega)]; omega : iN 0 ≤ r))]
    exact L_J401 hR hj hX he ⟨a, b, ha, hb, rfl, rfl, Or.inr ⟨d, hd', hr, hh⟩⟩
theorem L_J314 {j : Nat} {K : Nat → Ob} {c w u x t g q nr h p k : Rw} {M : Ob} (hR : RI j K M) (hj : j < 1000000) (hX : LX c w u x t g q nr h p k M) (he : LXe M) {a ct : Nat} (y : Int32) (ha : a < 10) (hct : ct < 10) :
    wp (f_L_grammar_J314 K c t g q nr 0 y (iN ct) (iN a)) (fun z => z.1 = 1 ∧ UP j z.2.1 z.2.2.1 w u x z.2.2.2.1 z.2.2.2.2.1 z.2.2.2.2.2.1 z.2.2.2.2.2.2 h p k) := by
  obtain ⟨r0, hr0, er0⟩ : ∃ r, r < 3 ∧ f_L_some (y >>> ((8 : Int32) &&& 31)) 3 = some (iN r) := some_lt _ (by decide) (by decide)
  obtain ⟨r1, hr1, er1⟩ : ∃ r, r < 5 ∧ f_L_some (y >>> ((3 : Int32) &&& 31)) 5 = some (iN r) := some_lt _ (by decide) (by decide)
  obtain ⟨r2, hr2, er2⟩ : ∃ r, r < 2 ∧ f_L_some (y >>> ((4 : Int32) &&& 31)) 2 = some (iN r) := some_lt _ (by decide) (by decide)
  obtain ⟨r3, hr3, er3⟩ : ∃ r, r < 4 ∧ f_L_some (y >>> ((2 : Int32) &&& 31)) 4 = some (iN r) := some_lt _ (by decide) (by decide)
  obtain ⟨r4, hr4, er4⟩ : ∃ r, r < 2 ∧ f_L_some (y >>> ((6 : Int32) &&& 31)) 2 = some (iN r) := some_lt _ (by decide) (by decide)
  have k366 : ∀ (r : Int32) (b : Nat), b < 10 → (r = nM ∨ ∃ d, d < 10 ∧ r = iN d) → wp (f_L_grammar_J366 K c t g q nr 0 y (iN a) r (iN b)) (fun z => z.1 = 1 ∧ UP j z.2.1 z.2.2.1 w u x z.2.2.2.1 z.2.2.2.2.1 z.2.2.2.2.2.1 z.2.2.2.2.2.2 h p k) := by
    intro r b hb hr
    rw [f_L_grammar_J366]
    rcases hr with hr | ⟨d, hd, hr⟩
    · rw [if_neg (show ¬ ((0 : Int32) ≤ r) by rw [hr]; decide)]
      exact L_J387 hR hj hX he ha hb (Or.inl ⟨hr, rfl⟩)
    · rw [if_pos (show (0 : Int32) ≤ r from (by rw [hr, iN_le (by omega) (by omega)]; omega : iN 0 ≤ r)), er4, eq_b1, show (1 : Int32) + iN r4 = iN (1 + r4) from iN_add 1 r4]
      refine L_J387 hR hj hX he ha hb (Or.inr ⟨d, hd, hr, ?_⟩)
      have : r4 = 0 ∨ r4 = 1 := by omega
      rcases this with rfl | rfl
      · exact Or.inl rfl
      · exact Or.inr rfl
  have k340 : ∀ (r : Int32), (r = nM ∨ ∃ d, d < 10 ∧ r = iN d) → wp (f_L_grammar_J340 K c t g q nr 0 y (iN ct) (iN a) r) (fun z => z.1 = 1 ∧ UP j z.2.1 z.2.2.1 w u x z.2.2.2.1 z.2.2.2.2.1 z.2.2.2.2.2.1 z.2.2.2.2.2.2 h p k) := by
    intro r hr
    rw [f_L_grammar_J340, er2, eq_b1]
    by_cases h0 : iN r2 = 0
    · rw [if_pos h0]; exact k366 r ct hct hr
    · rw [if_neg h0, er3, eq_b1, show (4 : Int32) + iN r3 = iN (4 + r3) from iN_add 4 r3]; exact k366 r (4 + r3) (by omega) hr
  rw [f_L_grammar_J314, er0, eq_b1]
  by_cases h0 : iN r0 = 0
  · rw [if_pos h0]; exact k340 nM (Or.inl rfl)
  · rw [if_neg h0, er1, eq_b1, show (2 : Int32) + iN r1 = iN (2 + r1) from iN_add 2 r1]; exact k340 (iN (2 + r1)) (Or.inr ⟨2 + r1, by omega, rfl⟩)
theorem L_J136 {j : Nat} {K : Nat → Ob} {c w u x t g q nr h p k : Rw} {M : Ob} (hR : RI j K M) (hj : j < 1000000) (hX : LX c w u x t g q nr h p k M) (he : LXe M) {ct o sn : Nat} {st b : Int32} (hct : ct < 10) (ho : o < 10) (hsn : (sn = 0 ∧ ¬ (st < -5) ∧ ¬ (5 < st)) ∨ (sn = 1 ∧ (st = nM ∨ st = iN 1))) (hb : cat0 b) :
    wp (f_L_grammar_J136 K c t g q nr 0 (iN ct) (iN o) (iN sn) st b) (fun z => z.1 = 1 ∧ UP j z.2.1 z.2.2.1 w u x z.2.2.2.1 z.2.2.2.2.1 z.2.2.2.2.2.1 z.2.2.2.2.2.2 h p k) := by
  have d1 : decide (0 + 1 ≤ 1) = true := rfl
  obtain ⟨m, hm, s1, e15, hs⟩ := id hX.2.2.1
  have u1 : ∀ v, upd c 1 v 4 = c 4 := fun v => upd_ne (by decide)
  have u2 : ∀ v v', upd (upd c 1 v) 4 v' 1 = v := fun v v' => by rw [upd_ne (by decide), upd_eq]
  rcases hsn with ⟨rfl, n1, n2⟩ | ⟨rfl, hst⟩
  · by_cases h0 : st = iN 0
    · subst h0
      have t1 := an_sure_0 (K := K) (iN ct) (iN o) b
      simp (disch := omega) only [f_L_grammar_J136, f_L_grammar_J152, f_L_grammar_J237, f_L_grammar_J248, ↓nM_lit, iN_lit, iN_add, iN_mul, iN_lt, iN_le, iN_eq, iN_c, gd_iN, iN_nM, nM_iN, iN_ltM, nM_lt, nM_le, iN_leM, iN_0M, nM_p1, iN_0s1, decide_true, decide_eq_true_eq, Nat.not_lt_zero, if_true, if_false, wp_some, wp_grd, wp_lb, wp_ite, wp_b1, wp_b2, wp_b3, wp_b4, wp_b5, ↓reduceIte, wp_b6, wp_b7, wp_b8, wp_b9, eq_grd, eq_lb, eq_b1, eq_b2, eq_b3, eq_b4, eq_b5, eq_b6, eq_b7, eq_b8, eq_b9, t1, d1, true_and]
      exact ⟨M, RI_j hR, hX, he⟩
    · by_cases h4 : m = 4
      · subst h4
        simp (disch := omega) only [f_L_grammar_J136, ↓nM_lit, iN_lit, iN_add, iN_mul, iN_lt, iN_le, iN_eq, iN_c, gd_iN, iN_nM, nM_iN, iN_ltM, nM_lt, nM_le, iN_leM, iN_0M, nM_p1, iN_0s1, decide_true, decide_eq_true_eq, Nat.not_lt_zero, if_true, if_false, wp_some, wp_grd, wp_lb, wp_ite, wp_b1, wp_b2, wp_b3, wp_b4, wp_b5, ↓reduceIte, wp_b6, wp_b7, wp_b8, wp_b9, eq_grd, eq_lb, eq_b1, eq_b2, eq_b3, eq_b4, eq_b5, eq_b6, eq_b7, eq_b8, eq_b9, h0, s1, true_and]
        exact ⟨M, RI_j hR, hX, he⟩
      · obtain ⟨K', t1, t2⟩ := an_sure hj hR (show m < 8 by omega) e15 hct ho n1 n2 h0 b
        obtain ⟨hX', he'⟩ := LX_str hX he hR.2.2.2.1 hj s1 (show m < 4 by omega) (sn := iN 0) (ct := iN ct) (st := st) (o := iN o) (b := nM) (b' := b) (fun hh => absurd hh (by decide))
        simp (disch := omega) only [f_L_grammar_J136, f_L_grammar_J152, f_L_grammar_J174, f_L_grammar_J237, f_L_grammar_J248, ↓nM_lit, iN_lit, iN_add, iN_mul, iN_lt, iN_le, iN_eq, iN_c, gd_iN, iN_nM, nM_iN, iN_ltM, nM_lt, nM_le, iN_leM, iN_0M, nM_p1, iN_0s1, decide_true, decide_eq_true_eq, Nat.not_lt_zero, if_true, if_false, wp_some, wp_grd, wp_lb, wp_ite, wp_b1, wp_b2, wp_b3, wp_b4, wp_b5, ↓reduceIte, wp_b6, wp_b7, wp_b8, wp_b9, eq_grd, eq_lb, eq_b1, eq_b2, eq_b3, eq_b4, eq_b5, eq_b6, eq_b7, eq_b8, eq_b9, h0, s1, h4, show 5 * m < 20 by omega, show 5 * m + 1 < 20 by omega, show 5 * m + 2 < 20 by omega, show 5 * m + 3 < 20 by omega, show 5 * m + 4 < 20 by omega, t1, d1, u1, u2, iN_s1 (show 0 < m + 1 by omega), Nat.add_sub_cancel, true_and]
        exact ⟨_, t2, hX', he'⟩
  · have h0 : ¬ (st = iN 0) := by
      rcases hst with e | e
      · rw [e]; decide
      · rw [e]; decide
    by_cases h4 : m = 4
    · subst h4
      simp (disch := omega) only [f_L_grammar_J136, ↓nM_lit, iN_lit, iN_add, iN_mul, iN_lt, iN_le, iN_eq, iN_c, gd_iN, iN_nM, nM_iN, iN_ltM, nM_lt, nM_le, iN_leM, iN_0M, nM_p1, iN_0s1, decide_true, decide_eq_true_eq, Nat.not_lt_zero, if_true, if_false, wp_some, wp_grd, wp_lb, wp_ite, wp_b1, wp_b2, wp_b3, wp_b4, wp_b5, ↓reduceIte, wp_b6, wp_b7, wp_b8, wp_b9, eq_grd, eq_lb, eq_b1, eq_b2, eq_b3, eq_b4, eq_b5, eq_b6, eq_b7, eq_b8, eq_b9, h0, s1, true_and]
      exact ⟨M, RI_j hR, hX, he⟩
    · obtain ⟨K', t1, t2⟩ := an_seen hj hR (show m < 8 by omega) e15 hct ho hst (b := b) (by
        rcases hb with e | ⟨a, ha, e⟩
        · exact Or.inl e
        · exact Or.inr ⟨a, by omega, e⟩)
      obtain ⟨hX', he'⟩ := LX_str hX he hR.2.2.2.1 hj s1 (show m < 4 by omega) (sn := iN 1) (ct := iN ct) (st := st) (o := iN o) (b := b) (b' := b) (fun _ => ⟨rfl, hb⟩)
      simp (disch := omega) only [f_L_grammar_J136, f_L_grammar_J152, f_L_grammar_J174, f_L_grammar_J237, f_L_grammar_J248, ↓nM_lit, iN_lit, iN_add, iN_mul, iN_lt, iN_le, iN_eq, iN_c, gd_iN, iN_nM, nM_iN, iN_ltM, nM_lt, nM_le, iN_leM, iN_0M, nM_p1, iN_0s1, decide_true, decide_eq_true_eq, Nat.not_lt_zero, if_true, if_false, wp_some, wp_grd, wp_lb, wp_ite, wp_b1, wp_b2, wp_b3, wp_b4, wp_b5, ↓reduceIte, wp_b6, wp_b7, wp_b8, wp_b9, eq_grd, eq_lb, eq_b1, eq_b2, eq_b3, eq_b4, eq_b5, eq_b6, eq_b7, eq_b8, eq_b9, show ¬ (1 = 0) by decide, h0, s1, h4, show 5 * m < 20 by omega, show 5 * m + 1 < 20 by omega, show 5 * m + 2 < 20 by omega, show 5 * m + 3 < 20 by omega, show 5 * m + 4 < 20 by omega, t1, d1, u1, u2, iN_s1 (show 0 < m + 1 by omega), Nat.add_sub_cancel, true_and]
      exact ⟨_, t2, hX', he'⟩
theorem L_J81 {j : Nat} {K : Nat → Ob} {c w u x t g q nr h p k : Rw} {M : Ob} (hR : RI j K M) (hj : j < 1000000) (hX : LX c w u x t g q nr h p k M) (he : LXe M) {ct o sn : Nat} (y : Int32) (hct : ct < 10) (ho : o < 10) (hsn : sn = 0 ∨ sn = 1) :
    wp (f_L_grammar_J81 K c t g q nr 0 y (iN ct) (iN o) (iN sn)) (fun z => z.1 = 1 ∧ UP j z.2.1 z.2.2.1 w u x z.2.2.2.1 z.2.2.2.2.1 z.2.2.2.2.2.1 z.2.2.2.2.2.2 h p k) := by
  obtain ⟨r0, hr0, er0⟩ : ∃ r, r < 5 ∧ f_L_some (y >>> ((5 : Int32) &&& 31)) 5 = some (iN r) := some_lt _ (by decide) (by decide)
  obtain ⟨r1, hr1, er1⟩ : ∃ r, r < 2 ∧ f_L_some (y >>> ((5 : Int32) &&& 31)) 2 = some (iN r) := some_lt _ (by decide) (by decide)
  obtain ⟨r2, hr2, er2⟩ : ∃ r, r < 2 ∧ f_L_some (y >>> ((8 : Int32) &&& 31)) 2 = some (iN r) := some_lt _ (by decide) (by decide)
  obtain ⟨r3, hr3, er3⟩ : ∃ r, r < 6 ∧ f_L_some (y >>> ((2 : Int32) &&& 31)) 6 = some (iN r) := some_lt _ (by decide) (by decide)
  have k111 : ∀ st : Int32, ((sn = 0 ∧ ¬ (st < -5) ∧ ¬ (5 < st)) ∨ (sn = 1 ∧ (st = nM ∨ st = iN 1))) → wp (f_L_grammar_J111 K c t g q nr 0 y (iN ct) (iN o) (iN sn) st) (fun z => z.1 = 1 ∧ UP j z.2.1 z.2.2.1 w u x z.2.2.2.1 z.2.2.2.2.1 z.2.2.2.2.2.1 z.2.2.2.2.2.2 h p k) := by
    intro st hst
    rw [f_L_grammar_J111, er2, eq_b1]
    by_cases h0 : iN r2 = 0
    · rw [if_pos h0]
      exact L_J136 hR hj hX he hct ho hst (Or.inl rfl)
    · rw [if_neg h0, er3, eq_b1]
      exact L_J136 hR hj hX he hct ho hst (Or.inr ⟨r3, by omega, rfl⟩)
  rw [f_L_grammar_J81]
  rcases hsn with rfl | rfl
  · rw [if_pos (show iN 0 = 0 from rfl), er0, eq_b1]
    refine k111 _ (Or.inl ⟨rfl, ?_⟩)
    have : r0 = 0 ∨ r0 = 1 ∨ r0 = 2 ∨ r0 = 3 ∨ r0 = 4 := by omega
    rcases this with rfl | rfl | rfl | rfl | rfl <;> exact ⟨by decide, by decide⟩
  · rw [if_neg (show ¬ (iN 1 = 0) by decide), er1, eq_b1]
    refine k111 _ (Or.inr ⟨rfl, ?_⟩)
    have : r1 = 0 ∨ r1 = 1 := by omega
    rcases this with rfl | rfl
    · exact Or.inl (by decide)
    · exact Or.inr (by decide)
theorem L_J59 {j : Nat} {K : Nat → Ob} {c w u x t g q nr h p k : Rw} {M : Ob} (hR : RI j K M) (hj : j < 1000000) (hX : LX c w u x t g q nr h p k M) (he : LXe M) {ct o kd : Nat} (y : Int32) (hkd : kd ≤ 2) (hct : ct < 10) (ho : o < 10) :
    wp (f_L_grammar_J59 K c t g q nr 0 (iN kd) y (iN ct) (iN o)) (fun z => z.1 = 1 ∧ UP j z.2.1 z.2.2.1 w u x z.2.2.2.1 z.2.2.2.2.1 z.2.2.2.2.2.1 z.2.2.2.2.2.2 h p k) := by
  obtain ⟨m, hm, s2, e21, -⟩ := id hX.2.2.2.1
  have emn : nn (M 21 0) = m := by rw [e21, nnI (by omega)]
  obtain ⟨r0, hr0, er0⟩ : ∃ r, r < 2 ∧ f_L_some (y >>> ((7 : Int32) &&& 31)) 2 = some (iN r) := some_lt _ (by decide) (by decide)
  obtain ⟨r1, hr1, er1⟩ : ∃ r, r < 5 ∧ f_L_some (y >>> ((5 : Int32) &&& 31)) 5 = some (iN r) := some_lt _ (by decide) (by decide)
  obtain ⟨r2, hr2, er2⟩ := some_lt y (show 0 < m + 1 by omega) (by omega)
  have s2' : c ((2 : Int32).toNatClampNeg) = iN m := s2
  rw [f_L_grammar_J59]
  have hcase : kd = 0 ∨ kd = 1 ∨ kd = 2 := by omega
  rcases hcase with rfl | rfl | rfl
  · rw [if_pos (show iN 0 = 0 from rfl), er0, eq_b1]
    by_cases h0 : iN r0 = 0
    · rw [if_pos h0]
      exact L_J81 (sn := 1) hR hj hX he y hct ho (Or.inr rfl)
    · rw [if_neg h0]
      exact L_J81 (sn := 0) hR hj hX he y hct ho (Or.inl rfl)
  · rw [if_neg (show ¬ (iN 1 = 0) by decide), if_pos (show iN 1 = 1 from rfl), er0, eq_b1]
    by_cases h0 : iN r0 = 0
    · rw [if_pos h0]
      exact L_J314 (a := 9) hR hj hX he y (by decide) hct
    · rw [if_neg h0, er1, eq_b1, show (4 : Int32) + iN r1 = iN (4 + r1) from iN_add 4 r1]
      exact L_J314 hR hj hX he y (by omega) hct
  · rw [if_neg (show ¬ (iN 2 = 0) by decide), if_neg (show ¬ (iN 2 = 1) by decide), s2', show iN m + 1 = iN (m + 1) from iN_add m 1, er2, eq_b1]
    by_cases h0 : m ≤ r2
    · rw [if_pos ((iN_le (by omega) (by omega)).mpr h0)]
      exact L_J549 (is := 0) hR hj hX he y (Or.inr ⟨rfl, by omega⟩)
    · rw [if_neg (fun hh => h0 ((iN_le (by omega) (by omega)).mp hh))]
      exact L_J549 (is := 1) hR hj hX he y (Or.inl ⟨rfl, by omega⟩)
theorem L_grammar {j : Nat} {K : Nat → Ob} {c w u x t g q nr h p k : Rw} {M : Ob} (hR : RI j K M) (hj : j < 1000000) (hX : LX c w u x t g q nr h p k M) (he : LXe M) {kd : Nat} (hkd : kd ≤ 2) (y : Int32) :
    wp (f_L_grammar K c t g q nr (iN kd) y) (fun z => z.1 = 1 ∧ UP j z.2.1 z.2.2.1 w u x z.2.2.2.1 z.2.2.2.2.1 z.2.2.2.2.2.1 z.2.2.2.2.2.2 h p k) := by
  obtain ⟨r0, hr0, er0⟩ : ∃ r, r < 3 ∧ f_L_some y 3 = some (iN r) := some_lt _ (by decide) (by decide)
  obtain ⟨r1, hr1, er1⟩ : ∃ r, r < 2 ∧ f_L_some (y >>> ((2 : Int32) &&& 31)) 2 = some (iN r) := some_lt _ (by decide) (by decide)
  obtain ⟨r2, hr2, er2⟩ : ∃ r, r < 4 ∧ f_L_some (y >>> ((5 : Int32) &&& 31)) 4 = some (iN r) := some_lt _ (by decide) (by decide)
  obtain ⟨r3, hr3, er3⟩ : ∃ r, r < 3 ∧ f_L_some (y >>> ((3 : Int32) &&& 31)) 3 = some (iN r) := some_lt _ (by decide) (by decide)
  obtain ⟨r4, hr4, er4⟩ : ∃ r, r < 2 ∧ f_L_some (y >>> ((4 : Int32) &&& 31)) 2 = some (iN r) := some_lt _ (by decide) (by decide)
  obtain ⟨r5, hr5, er5⟩ : ∃ r, r < 4 ∧ f_L_some (y >>> ((6 : Int32) &&& 31)) 4 = some (iN r) := some_lt _ (by decide) (by decide)
  have k27 : ∀ ct, ct < 10 → wp (f_L_grammar_J27 K c t g q nr 0 (iN kd) y (iN ct)) (fun z => z.1 = 1 ∧ UP j z.2.1 z.2.2.1 w u x z.2.2.2.1 z.2.2.2.2.1 z.2.2.2.2.2.1 z.2.2.2.2.2.2 h p k) := by
    intro ct hct
    rw [f_L_grammar_J27, er3, eq_b1]
    by_cases h0 : iN r3 = 0
    · rw [if_pos h0, er4, eq_b1]
      exact L_J59 hR hj hX he y hkd hct (by omega)
    · rw [if_neg h0, er5, eq_b1, show (2 : Int32) + iN r5 = iN (2 + r5) from iN_add 2 r5]
      exact L_J59 hR hj hX he y hkd hct (by omega)
  rw [f_L_grammar, er0, eq_b1]
  by_cases h0 : iN r0 = 0
  · rw [if_pos h0, er1, eq_b1]
    exact k27 _ (by omega)
  · rw [if_neg h0, er2, eq_b1, show (2 : Int32) + iN r2 = iN (2 + r2) from iN_add 2 r2]
    exact k27 _ (by omega)
