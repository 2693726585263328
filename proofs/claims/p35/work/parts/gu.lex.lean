/-! The law's lexicon. -/
theorem L_J240 {j : Nat} {K : Nat → Ob} {c w u x t g q nr h p k : Rw} {M : Ob} (hR : RI j K M) (hj : j < 1000000) (hX : LX c w u x t g q nr h p k M) (he : LXe M) {i cc a f d is fi : Nat} (his : (is = 1 ∧ i < nn (M 0 0)) ∨ (is = 0 ∧ i = nn (M 0 0))) (hfi : (fi = 1 ∧ cc < 10 ∧ a < 4) ∨ (fi = 0 ∧ (cc = 10 ∨ (cc < 10 ∧ a = 4)))) (hf : f < 4) (hd : d < 4) :
    wp (f_L_lexicon_J240 K c w u 0 (iN i) (iN is) (iN cc) (iN a) (iN f) (iN d) (iN fi)) (fun z => z.1 = 1 ∧ UP j z.2.1 z.2.2.1 z.2.2.2.1 z.2.2.2.2 x t g q nr h p k) := by
  have d1 : decide (0 + 1 ≤ 1) = true := rfl
  have m1 : ((-1001 : Int32) = -1001) = True := eq_self _
  have m2 : ((-1002 : Int32) = -1002) = True := eq_self _
  obtain ⟨m, hm, c0, e0, w1, w2, w3⟩ := id hX.1
  have en : nn (M 0 0) = m := by rw [e0, nn, iN_c (by omega)]
  rcases his with ⟨rfl, hi⟩ | ⟨rfl, hi⟩
  · have hi6 : i < 6 := by omega
    obtain ⟨b, hb, -, e1, e2, -⟩ := w2 i hi6
    rcases hfi with ⟨rfl, hc, ha⟩ | ⟨rfl, hca⟩
    · by_cases hb2 : b = 2
      · subst hb2
        simp (disch := omega) only [f_L_lexicon_J240, ↓nM_lit, iN_lit, iN_add, iN_mul, iN_lt, iN_le, iN_eq, iN_c, gd_iN, iN_nM, nM_iN, iN_ltM, nM_lt, nM_le, iN_leM, iN_0M, nM_p1, iN_0s1, decide_true, decide_eq_true_eq, Nat.not_lt_zero, if_true, if_false, wp_some, wp_grd, wp_lb, wp_ite, wp_b1, wp_b2, wp_b3, wp_b4, wp_b5, ↓reduceIte, wp_b6, wp_b7, wp_b8, wp_b9, show ¬ (1 = 0) by decide, show 4 * i + 1 < 24 by omega, e1, true_and]
        exact ⟨M, RI_j hR, hX, he⟩
      · obtain ⟨K', t1, t2⟩ := an_tells hj hR hi e2 (show b < 4 by omega) hc ha hf hd
        have hX' := LX_reading hX hR.2.2.2.1 hj hi6 hi e2 (show b < 2 by omega) hc ha hf hd
        have u1 : ∀ v, upd w (4 * i + 2 + b) v (4 * i + 1) = iN b := fun v => by rw [upd_ne (by omega)]; exact e1
        have u2 : ∀ f v, upd f (4 * i + 1) v (4 * i + 1) = v := fun f v => upd_eq f _ v
        simp (disch := omega) only [f_L_lexicon_J240, f_L_lexicon_J267, f_L_lexicon_J337, ↓nM_lit, iN_lit, iN_add, iN_mul, iN_lt, iN_le, iN_eq, iN_c, gd_iN, iN_nM, nM_iN, iN_ltM, nM_lt, nM_le, iN_leM, iN_0M, nM_p1, iN_0s1, decide_true, decide_eq_true_eq, Nat.not_lt_zero, if_true, if_false, wp_some, wp_grd, wp_lb, wp_ite, wp_b1, wp_b2, wp_b3, wp_b4, wp_b5, ↓reduceIte, wp_b6, wp_b7, wp_b8, wp_b9, eq_grd, eq_lb, eq_b1, eq_b2, eq_b3, eq_b4, eq_b5, eq_b6, eq_b7, eq_b8, eq_b9, show ¬ (1 = 0) by decide, show 4 * i + 1 < 24 by omega, show 4 * i + 2 + b < 24 by omega, e1, u1, hb2, u2, t1, d1, true_and]
        exact ⟨_, t2, hX', LXe_cs (fun k h1 h2 => by rw [M9r_o k ⟨by omega, by omega, by omega, by omega, by omega⟩, upo_ne (by omega)]) he⟩
    · have t1 := an_tells_n2 hR hi hca (iN f) (iN d)
      simp (disch := omega) only [f_L_lexicon_J240, f_L_lexicon_J267, f_L_lexicon_J337, ↓nM_lit, iN_lit, iN_add, iN_mul, iN_lt, iN_le, iN_eq, iN_c, gd_iN, iN_nM, nM_iN, iN_ltM, nM_lt, nM_le, iN_leM, iN_0M, nM_p1, iN_0s1, decide_true, decide_eq_true_eq, Nat.not_lt_zero, if_true, if_false, wp_some, wp_grd, wp_lb, wp_ite, wp_b1, wp_b2, wp_b3, wp_b4, wp_b5, ↓reduceIte, wp_b6, wp_b7, wp_b8, wp_b9, eq_grd, eq_lb, eq_b1, eq_b2, eq_b3, eq_b4, eq_b5, eq_b6, eq_b7, eq_b8, eq_b9, show ¬ (1 = 0) by decide, t1, d1, true_and]
      exact ⟨M, RI_j hR, hX, he⟩
  · have t1 := an_tells_n1 hR hi (iN cc) (iN a) (iN f) (iN d)
    simp (disch := omega) only [f_L_lexicon_J240, f_L_lexicon_J267, f_L_lexicon_J337, ↓nM_lit, iN_lit, iN_add, iN_mul, iN_lt, iN_le, iN_eq, iN_c, gd_iN, iN_nM, nM_iN, iN_ltM, nM_lt, nM_le, iN_leM, iN_0M, nM_p1, iN_0s1, decide_true, decide_eq_true_eq, Nat.not_lt_zero, if_true, if_false, wp_some, wp_grd, wp_lb, wp_ite, wp_b1, wp_b2, wp_b3, wp_b4, wp_b5, ↓reduceIte, wp_b6, wp_b7, wp_b8, wp_b9, eq_grd, eq_lb, eq_b1, eq_b2, eq_b3, eq_b4, eq_b5, eq_b6, eq_b7, eq_b8, eq_b9, t1, d1, true_and]
    exact ⟨M, RI_j hR, hX, he⟩
theorem L_J418 {j : Nat} {K : Nat → Ob} {c w u x t g q nr h p k : Rw} {M : Ob} (hR : RI j K M) (hj : j < 1000000) (hX : LX c w u x t g q nr h p k M) (he : LXe M) {e cc a f d fi : Nat} (he2 : e < 2) (hfi : (fi = 1 ∧ cc < 10 ∧ a < 4) ∨ (fi = 0 ∧ (cc = 10 ∨ (cc < 10 ∧ a = 4)))) (hf : f < 4) (hd : d < 4) :
    wp (f_L_lexicon_J418 K c w u 0 (iN cc) (iN a) (iN f) (iN d) (iN e) (iN fi)) (fun z => z.1 = 1 ∧ UP j z.2.1 z.2.2.1 z.2.2.2.1 z.2.2.2.2 x t g q nr h p k) := by
  have d1 : decide (0 + 1 ≤ 1) = true := rfl
  obtain ⟨m, hm, c0, e0, w1, w2, w3⟩ := id hX.1
  rcases hfi with ⟨rfl, hc, ha⟩ | ⟨rfl, hca⟩
  · rcases w3 e he2 with ⟨hu, h6⟩ | ⟨hu, h6⟩
    · obtain ⟨K', t1, t2⟩ := an_guesses hj hR (show e < 10 by omega) h6 (by decide) hc ha hf hd
      have hX' := LX_guess hX hR.2.2.2.1 hj he2 hc ha hf hd
      simp (disch := omega) only [f_L_lexicon_J418, f_L_lexicon_J435, f_L_lexicon_J473, ↓nM_lit, iN_lit, iN_add, iN_mul, iN_lt, iN_le, iN_eq, iN_c, gd_iN, iN_nM, nM_iN, iN_ltM, nM_lt, nM_le, iN_leM, iN_0M, nM_p1, iN_0s1, decide_true, decide_eq_true_eq, Nat.not_lt_zero, if_true, if_false, wp_some, wp_grd, wp_lb, wp_ite, wp_b1, wp_b2, wp_b3, wp_b4, wp_b5, ↓reduceIte, wp_b6, wp_b7, wp_b8, wp_b9, eq_grd, eq_lb, eq_b1, eq_b2, eq_b3, eq_b4, eq_b5, eq_b6, eq_b7, eq_b8, eq_b9, show ¬ (1 = 0) by decide, he2, hu, t1, d1, Nat.zero_add, true_and]
      exact ⟨_, t2, hX', LXe_cs (fun k h1 h2 => by rw [M9g_o k ⟨by omega, by omega, by omega, by omega⟩, upo_ne (by omega)]) he⟩
    · obtain ⟨-, -, -, -, -, m8, -, m7⟩ := hR.1.1
      have hG : cdG M e < 100000 := by
        obtain ⟨a0, b0, z0⟩ := m8 (12 * e) (by omega)
        obtain ⟨a1, b1, z1⟩ := m8 (12 * e + 1) (by omega)
        obtain ⟨a2, b2, z2⟩ := m8 (12 * e + 2) (by omega)
        obtain ⟨a3, b3, z3⟩ := m7 (4 * e) (by omega)
        unfold cdG
        rw [z0, z1, z2, z3, nnI (show a0 < 2147483648 by omega), nnI (show a1 < 2147483648 by omega), nnI (show a2 < 2147483648 by omega), nnI (show a3 < 2147483648 by omega)]
        omega
      simp (disch := omega) only [f_L_lexicon_J418, ↓nM_lit, iN_lit, iN_add, iN_mul, iN_lt, iN_le, iN_eq, iN_c, gd_iN, iN_nM, nM_iN, iN_ltM, nM_lt, nM_le, iN_leM, iN_0M, nM_p1, iN_0s1, decide_true, decide_eq_true_eq, Nat.not_lt_zero, if_true, if_false, wp_some, wp_grd, wp_lb, wp_ite, wp_b1, wp_b2, wp_b3, wp_b4, wp_b5, ↓reduceIte, wp_b6, wp_b7, wp_b8, wp_b9, show ¬ (1 = 0) by decide, he2, hu, true_and]
      exact ⟨M, RI_j hR, hX, he⟩
  · have t1 := an_guesses_n (K := K) (show e < 10 by omega) hca (iN f) (iN d)
    simp (disch := omega) only [f_L_lexicon_J418, f_L_lexicon_J435, f_L_lexicon_J473, ↓nM_lit, iN_lit, iN_add, iN_mul, iN_lt, iN_le, iN_eq, iN_c, gd_iN, iN_nM, nM_iN, iN_ltM, nM_lt, nM_le, iN_leM, iN_0M, nM_p1, iN_0s1, decide_true, decide_eq_true_eq, Nat.not_lt_zero, if_true, if_false, wp_some, wp_grd, wp_lb, wp_ite, wp_b1, wp_b2, wp_b3, wp_b4, wp_b5, ↓reduceIte, wp_b6, wp_b7, wp_b8, wp_b9, eq_grd, eq_lb, eq_b1, eq_b2, eq_b3, eq_b4, eq_b5, eq_b6, eq_b7, eq_b8, eq_b9, t1, d1, true_and]
    exact ⟨M, RI_j hR, hX, he⟩
theorem L_J97 {j : Nat} {K : Nat → Ob} {c w u x t g q nr h p k : Rw} {M : Ob} (hR : RI j K M) (hj : j < 1000000) (hX : LX c w u x t g q nr h p k M) (he : LXe M) {i cc a is kd : Nat} (y : Int32) (hkd : kd ≤ 2) (his : (is = 1 ∧ i < nn (M 0 0)) ∨ (is = 0 ∧ i = nn (M 0 0))) (hc : cc ≤ 10) (ha : a ≤ 4) :
    wp (f_L_lexicon_J97 K c w u 0 (iN kd) y (iN i) (iN is) (iN cc) (iN a)) (fun z => z.1 = 1 ∧ UP j z.2.1 z.2.2.1 z.2.2.2.1 z.2.2.2.2 x t g q nr h p k) := by
  obtain ⟨f, hf, ef⟩ : ∃ r, r < 3 ∧ f_L_some (y >>> ((8 : Int32) &&& 31)) 3 = some (iN r) := some_lt _ (by decide) (by decide)
  obtain ⟨d, hd, ed⟩ : ∃ r, r < 3 ∧ f_L_some (y >>> ((4 : Int32) &&& 31)) 3 = some (iN r) := some_lt _ (by decide) (by decide)
  obtain ⟨r0, hr0, er0⟩ : ∃ r, r < 30 ∧ f_L_some y 30 = some (iN r) := some_lt _ (by decide) (by decide)
  obtain ⟨r2, hr2, er2⟩ : ∃ r, r < 2 ∧ f_L_some y 2 = some (iN r) := some_lt _ (by decide) (by decide)
  have hcase : kd = 0 ∨ kd = 1 ∨ kd = 2 := by omega
  rw [f_L_lexicon_J97, ef, eq_b1, ed, eq_b1]
  rcases hcase with rfl | rfl | rfl
  · rw [if_pos (show iN 0 = 0 from rfl), er0, eq_b1]
    by_cases h0 : iN r0 = 0
    · rw [if_pos h0]
      exact L_J141 (a := 10) hR hX he (Or.inr rfl)
    · rw [if_neg h0, er2, eq_b1]
      exact L_J141 hR hX he (Or.inl hr2)
  · rw [if_neg (show ¬ (iN 1 = 0) by decide), if_pos (show iN 1 = 1 from rfl)]
    by_cases h1 : 10 ≤ cc
    · rw [if_pos (show (10 : Int32) ≤ iN cc from (iN_le (a := 10) (by decide) (by omega)).mpr h1), f_L_lexicon_J239]
      exact L_J240 (fi := 0) hR hj hX he his (Or.inr ⟨rfl, Or.inl (by omega)⟩) (by omega) (by omega)
    · rw [if_neg (show ¬ ((10 : Int32) ≤ iN cc) from fun hh => h1 ((iN_le (a := 10) (by decide) (by omega)).mp hh))]
      by_cases h2 : 4 ≤ a
      · rw [if_pos (show (4 : Int32) ≤ iN a from (iN_le (a := 4) (by decide) (by omega)).mpr h2), f_L_lexicon_J239]
        exact L_J240 (fi := 0) hR hj hX he his (Or.inr ⟨rfl, Or.inr ⟨by omega, by omega⟩⟩) (by omega) (by omega)
      · rw [if_neg (show ¬ ((4 : Int32) ≤ iN a) from fun hh => h2 ((iN_le (a := 4) (by decide) (by omega)).mp hh))]
        exact L_J240 (fi := 1) hR hj hX he his (Or.inl ⟨rfl, by omega, by omega⟩) (by omega) (by omega)
  · rw [if_neg (show ¬ (iN 2 = 0) by decide), if_neg (show ¬ (iN 2 = 1) by decide), er2, eq_b1]
    by_cases h1 : 10 ≤ cc
    · rw [if_pos (show (10 : Int32) ≤ iN cc from (iN_le (a := 10) (by decide) (by omega)).mpr h1), f_L_lexicon_J417]
      exact L_J418 (fi := 0) hR hj hX he hr2 (Or.inr ⟨rfl, Or.inl (by omega)⟩) (by omega) (by omega)
    · rw [if_neg (show ¬ ((10 : Int32) ≤ iN cc) from fun hh => h1 ((iN_le (a := 10) (by decide) (by omega)).mp hh))]
      by_cases h2 : 4 ≤ a
      · rw [if_pos (show (4 : Int32) ≤ iN a from (iN_le (a := 4) (by decide) (by omega)).mpr h2), f_L_lexicon_J417]
        exact L_J418 (fi := 0) hR hj hX he hr2 (Or.inr ⟨rfl, Or.inr ⟨by omega, by omega⟩⟩) (by omega) (by omega)
      · rw [if_neg (show ¬ ((4 : Int32) ≤ iN a) from fun hh => h2 ((iN_le (a := 4) (by decide) (by omega)).mp hh))]
        exact L_J418 (fi := 1) hR hj hX he hr2 (Or.inl ⟨rfl, by omega, by omega⟩) (by omega) (by omega)
theorem L_J71 {j : Nat} {K : Nat → Ob} {c w u x t g q nr h p k : Rw} {M : Ob} (hR : RI j K M) (hj : j < 1000000) (hX : LX c w u x t g q nr h p k M) (he : LXe M) {i cc is kd : Nat} (y : Int32) (hkd : kd ≤ 2) (his : (is = 1 ∧ i < nn (M 0 0)) ∨ (is = 0 ∧ i = nn (M 0 0))) (hc : cc ≤ 10) :
    wp (f_L_lexicon_J71 K c w u 0 (iN kd) y (iN i) (iN is) (iN cc)) (fun z => z.1 = 1 ∧ UP j z.2.1 z.2.2.1 z.2.2.2.1 z.2.2.2.2 x t g q nr h p k) := by
  obtain ⟨r0, hr0, er0⟩ : ∃ r, r < 60 ∧ f_L_some (y >>> ((7 : Int32) &&& 31)) 60 = some (iN r) := some_lt _ (by decide) (by decide)
  obtain ⟨r1, hr1, er1⟩ : ∃ r, r < 3 ∧ f_L_some (y >>> ((6 : Int32) &&& 31)) 3 = some (iN r) := some_lt _ (by decide) (by decide)
  rw [f_L_lexicon_J71, er0, eq_b1]
  by_cases h0 : iN r0 = 0
  · rw [if_pos h0]
    exact L_J97 (a := 4) hR hj hX he y hkd his hc (by omega)
  · rw [if_neg h0, er1, eq_b1]
    exact L_J97 hR hj hX he y hkd his hc (by omega)
theorem L_lexicon {j : Nat} {K : Nat → Ob} {c w u x t g q nr h p k : Rw} {M : Ob} (hR : RI j K M) (hj : j < 1000000) (hX : LX c w u x t g q nr h p k M) (he : LXe M) {kd : Nat} (hkd : kd ≤ 2) (y : Int32) :
    wp (f_L_lexicon K c w u (iN kd) y) (fun z => z.1 = 1 ∧ UP j z.2.1 z.2.2.1 z.2.2.2.1 z.2.2.2.2 x t g q nr h p k) := by
  obtain ⟨m, hm, c0, e0, -⟩ := id hX.1
  have en : nn (M 0 0) = m := by rw [e0, nn, iN_c (by omega)]
  obtain ⟨r, hr, er⟩ := some_lt y (show 0 < m + 1 by omega) (by omega)
  obtain ⟨r0, hr0, er0⟩ : ∃ r, r < 40 ∧ f_L_some (y >>> ((3 : Int32) &&& 31)) 40 = some (iN r) := some_lt _ (by decide) (by decide)
  obtain ⟨r1, hr1, er1⟩ : ∃ r, r < 3 ∧ f_L_some (y >>> ((3 : Int32) &&& 31)) 3 = some (iN r) := some_lt _ (by decide) (by decide)
  obtain ⟨r2, hr2, er2⟩ : ∃ r, r < 2 ∧ f_L_some (y >>> ((2 : Int32) &&& 31)) 2 = some (iN r) := some_lt _ (by decide) (by decide)
  obtain ⟨r3, hr3, er3⟩ : ∃ r, r < 4 ∧ f_L_some (y >>> ((5 : Int32) &&& 31)) 4 = some (iN r) := some_lt _ (by decide) (by decide)
  have key : ∀ is, ((is = 1 ∧ r < nn (M 0 0)) ∨ (is = 0 ∧ r = nn (M 0 0))) → wp (f_L_lexicon_J24 K c w u 0 (iN kd) y (iN r) (iN is)) (fun z => z.1 = 1 ∧ UP j z.2.1 z.2.2.1 z.2.2.2.1 z.2.2.2.2 x t g q nr h p k) := by
    intro is his
    rw [f_L_lexicon_J24, er0, eq_b1]
    by_cases h0 : iN r0 = 0
    · rw [if_pos h0]
      exact L_J71 (cc := 10) hR hj hX he y hkd his (by omega)
    · rw [if_neg h0, er1, eq_b1]
      by_cases h1 : iN r1 = 0
      · rw [if_pos h1, er2, eq_b1]
        exact L_J71 hR hj hX he y hkd his (by omega)
      · rw [if_neg h1, er3, eq_b1, show (2 : Int32) + iN r3 = iN (2 + r3) from iN_add 2 r3]
        exact L_J71 hR hj hX he y hkd his (by omega)
  have c0' : c ((0 : Int32).toNatClampNeg) = iN m := c0
  rw [f_L_lexicon, c0', show iN m + 1 = iN (m + 1) from iN_add m 1, er, eq_b1]
  by_cases h0 : m ≤ r
  · rw [if_pos ((iN_le (by omega) (by omega)).mpr h0)]
    exact key 0 (Or.inr ⟨rfl, by omega⟩)
  · rw [if_neg (fun hh => h0 ((iN_le (by omega) (by omega)).mp hh))]
    exact key 1 (Or.inl ⟨rfl, by omega⟩)
