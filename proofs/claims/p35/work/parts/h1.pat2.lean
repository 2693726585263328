/-! The law's patterns. -/
theorem L_J107 {j : Nat} {K : Nat → Ob} {c w u x t g q nr h p k : Rw} {M : Ob} (hR : RI j K M) (hX : LX c w u x t g q nr h p k M) (he : LXe M) {n a fi : Nat} {p2 p3 p4 : Int32} (c3 : c 3 = iN n) (hn6 : n ≤ 6) (ha : a < 10) (h2 : cat0 p2) (h3 : cat0 p3) (h23 : p2 = nM → p3 = nM) (hfi : (fi = 1 ∧ (p4 = nM ∨ ∃ b, b < n ∧ p4 = iN b)) ∨ (fi = 0 ∧ p4 = iN n)) :
    wp (f_L_patterns_J107 K c p k 0 (iN a) p2 p3 p4 (iN fi)) (fun z => z.1 = 1 ∧ UP j z.2.1 z.2.2.1 w u x t g q nr h z.2.2.2.1 z.2.2.2.2) := by
  have d1 : decide (0 + 1 ≤ 1) = true := rfl
  obtain ⟨m, hm, s1, e59, -⟩ := id hX.2.2.2.2.1
  have emn : m = n := by rw [s1, iN_eq (by omega) (by omega)] at c3; exact c3
  subst emn
  rcases hfi with ⟨rfl, h4⟩ | ⟨rfl, rfl⟩
  · by_cases h6 : m = 6
    · subst h6
      simp (disch := omega) only [f_L_patterns_J107, ↓nM_lit, iN_lit, iN_add, iN_mul, iN_lt, iN_le, iN_eq, iN_c, gd_iN, iN_nM, nM_iN, iN_ltM, nM_lt, nM_le, iN_leM, iN_0M, nM_p1, iN_0s1, decide_true, decide_eq_true_eq, Nat.not_lt_zero, if_true, if_false, wp_some, wp_grd, wp_lb, wp_ite, wp_b1, wp_b2, wp_b3, wp_b4, wp_b5, ↓reduceIte, wp_b6, wp_b7, wp_b8, wp_b9, show ¬ (1 = 0) by decide, s1, true_and]
      exact ⟨M, RI_j hR, hX, he⟩
    · obtain ⟨K', t1, t2⟩ := an_pattern hR (show m < 12 by omega) e59 ha h2 h3 h23 h4
      have hX' := LX_pattern hX s1 (show m < 6 by omega) p4 (Or.inr ⟨a, by omega, rfl⟩ : cat0 (iN a)) h2 h3
      have u2 : ∀ v, upd c 3 v 3 = v := fun v => upd_eq _ _ _
      simp (disch := omega) only [f_L_patterns_J107, f_L_patterns_J124, f_L_patterns_J182, ↓nM_lit, iN_lit, iN_add, iN_mul, iN_lt, iN_le, iN_eq, iN_c, gd_iN, iN_nM, nM_iN, iN_ltM, nM_lt, nM_le, iN_leM, iN_0M, nM_p1, iN_0s1, decide_true, decide_eq_true_eq, Nat.not_lt_zero, if_true, if_false, wp_some, wp_grd, wp_lb, wp_ite, wp_b1, wp_b2, wp_b3, wp_b4, wp_b5, ↓reduceIte, wp_b6, wp_b7, wp_b8, wp_b9, eq_grd, eq_lb, eq_b1, eq_b2, eq_b3, eq_b4, eq_b5, eq_b6, eq_b7, eq_b8, eq_b9, show ¬ (1 = 0) by decide, s1, h6, show 5 * m < 30 by omega, show 5 * m + 1 < 30 by omega, show 5 * m + 2 < 30 by omega, show 5 * m + 3 < 30 by omega, t1, d1, u2, iN_s1 (show 0 < m + 1 by omega), Nat.add_sub_cancel, true_and]
      refine ⟨_, t2, hX', LXe_cs (fun k h1 h2 => ?_) he⟩
      unfold M9p
      rw [upo_ne (by omega), upo_ne (by omega), upo_ne (by omega), upo_ne (by omega), upo_ne (by omega), upo_ne (by omega)]
  · have t1 := an_pattern_n hR e59 (by omega) (iN a) p2 p3
    simp (disch := omega) only [f_L_patterns_J107, f_L_patterns_J124, f_L_patterns_J182, ↓nM_lit, iN_lit, iN_add, iN_mul, iN_lt, iN_le, iN_eq, iN_c, gd_iN, iN_nM, nM_iN, iN_ltM, nM_lt, nM_le, iN_leM, iN_0M, nM_p1, iN_0s1, decide_true, decide_eq_true_eq, Nat.not_lt_zero, if_true, if_false, wp_some, wp_grd, wp_lb, wp_ite, wp_b1, wp_b2, wp_b3, wp_b4, wp_b5, ↓reduceIte, wp_b6, wp_b7, wp_b8, wp_b9, eq_grd, eq_lb, eq_b1, eq_b2, eq_b3, eq_b4, eq_b5, eq_b6, eq_b7, eq_b8, eq_b9, t1, d1, true_and]
    exact ⟨M, RI_j hR, hX, he⟩
theorem L_J267 {j : Nat} {K : Nat → Ob} {c w u x t g q nr h p k : Rw} {M : Ob} (hR : RI j K M) (hX : LX c w u x t g q nr h p k M) (he : LXe M) {n m a is : Nat} {pw : Int32} (c3 : c 3 = iN n) (c0 : c 0 = iN m) (hm31 : m < 2147483648) (hn31 : n < 2147483648) (his : (is = 1 ∧ a < n ∧ (pw = nM ∨ ∃ wd, wd < m ∧ pw = iN wd)) ∨ (is = 0 ∧ (a = n ∨ (a < n ∧ pw = iN m)))) :
    wp (f_L_patterns_J267 K c p k 0 (iN a) pw (iN is)) (fun z => z.1 = 1 ∧ UP j z.2.1 z.2.2.1 w u x t g q nr h z.2.2.2.1 z.2.2.2.2) := by
  have d1 : decide (0 + 1 ≤ 1) = true := rfl
  obtain ⟨n', hn, s3, e59, hp1, hp2⟩ := id hX.2.2.2.2.1
  obtain ⟨m', hm, s0, e0, -⟩ := id hX.1
  have e1 : n' = n := by rw [s3, iN_eq (by omega) (by omega)] at c3; exact c3
  have e2 : m' = m := by rw [s0, iN_eq (by omega) (by omega)] at c0; exact c0
  subst e1; subst e2
  have en : nn (M 59 0) = n' := by rw [e59, nnI (by omega)]
  have em : nn (M 0 0) = m' := by rw [e0, nnI (by omega)]
  have hL : ∀ N : Ob, (∀ k, 15 ≤ k → k ≤ 20 → N k = M k) → LXe N := fun N hN => LXe_cs hN he
  rcases his with ⟨rfl, ha, hpw⟩ | ⟨rfl, hpw⟩
  · rcases hpw with rfl | ⟨wd, hwd, rfl⟩
    · obtain ⟨K', b, t0, t1, t2⟩ := an_off0 hR (a := a) (by omega)
      have hX' := LX_off0 hX (a := a) (biN (!b))
      obtain ⟨y1, -⟩ := hp2 a (by omega)
      rw [t0] at y1
      have hb : iN 1 - biN b = biN (!b) := by cases b <;> decide
      have h0M : (iN 0 ≤ nM) ↔ False := ⟨fun h => absurd h (by decide), False.elim⟩
      have u2 : ∀ v, upd p (5 * a + 4) v (5 * a + 4) = v := fun v => upd_eq _ _ _
      simp (disch := omega) only [f_L_patterns_J267, f_L_patterns_J319, ↓nM_lit, iN_lit, iN_add, iN_mul, iN_lt, iN_le, iN_eq, iN_c, gd_iN, iN_nM, nM_iN, iN_ltM, nM_lt, nM_le, iN_leM, iN_0M, nM_p1, iN_0s1, decide_true, decide_eq_true_eq, Nat.not_lt_zero, if_true, if_false, wp_some, wp_grd, wp_lb, wp_ite, wp_b1, wp_b2, wp_b3, wp_b4, wp_b5, ↓reduceIte, wp_b6, wp_b7, wp_b8, wp_b9, eq_grd, eq_lb, eq_b1, eq_b2, eq_b3, eq_b4, eq_b5, eq_b6, eq_b7, eq_b8, eq_b9, show ¬ (1 = 0) by decide, h0M, show 5 * a + 4 < 30 by omega, y1, hb, u2, t1, d1, true_and]
      exact ⟨_, t2, hX', hL _ (fun k h1 h2 => by rw [upo_ne (by omega), upo_ne (by omega)])⟩
    · obtain ⟨-, S, hS, hk, -⟩ := hp2 a (by omega)
      obtain ⟨hX', h64, hself, h65⟩ := LX_offw hX (a := a) (wd := wd) (S := S) (by omega) (by omega) hS hk
      obtain ⟨K', b, t0, t1, t2⟩ := an_offw hR (a := a) (w := wd) (by omega) (by omega)
      have hbS : b = S.testBit wd := by
        rw [t0] at h65
        cases b <;> cases hh : S.testBit wd
        · rfl
        · rw [hh] at h65; exact absurd h65 (by decide)
        · rw [hh] at h65; exact absurd h65 (by decide)
        · rfl
      subst hbS
      have ex : iN S ^^^ (iN 1 <<< (iN wd &&& iN 31)) = iN (S ^^^ 2 ^ wd) := by rw [shlN (by omega), iN_xor]
      have u2 : ∀ v, upd k a v a = v := fun v => upd_eq _ _ _
      have eb : (iN (S ^^^ 2 ^ wd) >>> (iN wd &&& iN 31)) &&& iN 1 = biN (!S.testBit wd) := by rw [bitB (by omega) (by omega), hself]
      simp (disch := omega) only [f_L_patterns_J267, f_L_patterns_J302, f_L_patterns_J319, ↓nM_lit, iN_lit, iN_add, iN_mul, iN_lt, iN_le, iN_eq, iN_c, gd_iN, iN_nM, nM_iN, iN_ltM, nM_lt, nM_le, iN_leM, iN_0M, nM_p1, iN_0s1, decide_true, decide_eq_true_eq, Nat.not_lt_zero, if_true, if_false, wp_some, wp_grd, wp_lb, wp_ite, wp_b1, wp_b2, wp_b3, wp_b4, wp_b5, ↓reduceIte, wp_b6, wp_b7, wp_b8, wp_b9, eq_grd, eq_lb, eq_b1, eq_b2, eq_b3, eq_b4, eq_b5, eq_b6, eq_b7, eq_b8, eq_b9, show ¬ (1 = 0) by decide, Nat.zero_le, show a < 6 by omega, hk, ex, u2, t1, d1, eb, true_and]
      exact ⟨_, t2, hX', hL _ (fun k h1 h2 => by rw [upo_ne (by omega), upo_ne (by omega)])⟩
  · have t1 : f_L_offs K (iN a) pw = some (-1001, K) := by
      rcases hpw with h | ⟨h1, h2⟩
      · exact an_off_n1 hR (by omega) pw
      · subst h2; exact an_off_n2 hR (by omega) em.symm
    simp (disch := omega) only [f_L_patterns_J267, f_L_patterns_J302, f_L_patterns_J319, ↓nM_lit, iN_lit, iN_add, iN_mul, iN_lt, iN_le, iN_eq, iN_c, gd_iN, iN_nM, nM_iN, iN_ltM, nM_lt, nM_le, iN_leM, iN_0M, nM_p1, iN_0s1, decide_true, decide_eq_true_eq, Nat.not_lt_zero, if_true, if_false, wp_some, wp_grd, wp_lb, wp_ite, wp_b1, wp_b2, wp_b3, wp_b4, wp_b5, ↓reduceIte, wp_b6, wp_b7, wp_b8, wp_b9, eq_grd, eq_lb, eq_b1, eq_b2, eq_b3, eq_b4, eq_b5, eq_b6, eq_b7, eq_b8, eq_b9, t1, d1, true_and]
    exact ⟨M, RI_j hR, hX, he⟩
theorem L_patterns {j : Nat} {K : Nat → Ob} {c w u x t g q nr h p k : Rw} {M : Ob} (hR : RI j K M) (hX : LX c w u x t g q nr h p k M) (he : LXe M) {kd : Nat} (hkd : kd ≤ 1) (y : Int32) :
    wp (f_L_patterns K c p k (iN kd) y) (fun z => z.1 = 1 ∧ UP j z.2.1 z.2.2.1 w u x t g q nr h z.2.2.2.1 z.2.2.2.2) := by
  obtain ⟨n, hn, s3, e59, -⟩ := id hX.2.2.2.2.1
  obtain ⟨m, hm, s0, e0, -⟩ := id hX.1
  have s3' : c ((3 : Int32).toNatClampNeg) = iN n := s3
  have s0' : c ((0 : Int32).toNatClampNeg) = iN m := s0
  rw [f_L_patterns]
  have hcase : kd = 0 ∨ kd = 1 := by omega
  rcases hcase with rfl | rfl
  · obtain ⟨r0, hr0, er0⟩ : ∃ r, r < 6 ∧ f_L_some y 6 = some (iN r) := some_lt _ (by decide) (by decide)
    obtain ⟨r1, hr1, er1⟩ : ∃ r, r < 2 ∧ f_L_some (y >>> ((3 : Int32) &&& 31)) 2 = some (iN r) := some_lt _ (by decide) (by decide)
    obtain ⟨r2, hr2, er2⟩ : ∃ r, r < 6 ∧ f_L_some (y >>> ((4 : Int32) &&& 31)) 6 = some (iN r) := some_lt _ (by decide) (by decide)
    obtain ⟨r3, hr3, er3⟩ : ∃ r, r < 2 ∧ f_L_some (y >>> ((5 : Int32) &&& 31)) 2 = some (iN r) := some_lt _ (by decide) (by decide)
    obtain ⟨r4, hr4, er4⟩ : ∃ r, r < 6 ∧ f_L_some (y >>> ((6 : Int32) &&& 31)) 6 = some (iN r) := some_lt _ (by decide) (by decide)
    obtain ⟨r5, hr5, er5⟩ : ∃ r, r < 3 ∧ f_L_some (y >>> ((7 : Int32) &&& 31)) 3 = some (iN r) := some_lt _ (by decide) (by decide)
    obtain ⟨r6, hr6, er6⟩ : ∃ r, r < n + 1 ∧ f_L_some (y >>> ((2 : Int32) &&& 31)) (iN (n + 1)) = some (iN r) := some_lt _ (by omega) (by omega)
    have k92 : ∀ p2 p3 p4 : Int32, cat0 p2 → cat0 p3 → (p2 = nM → p3 = nM) → (p4 = nM ∨ ∃ b, b ≤ n ∧ p4 = iN b) → wp (f_L_patterns_J92 K c p k 0 (iN r0) p2 p3 p4) (fun z => z.1 = 1 ∧ UP j z.2.1 z.2.2.1 w u x t g q nr h z.2.2.2.1 z.2.2.2.2) := by
      intro p2 p3 p4 h2 h3 h23 h4
      rw [f_L_patterns_J92, s3']
      rcases h4 with rfl | ⟨b, hb, rfl⟩
      · rw [if_neg (by rw [iN_leM (by omega)]; exact id)]
        exact L_J107 (fi := 1) hR hX he s3 hn (by omega) h2 h3 h23 (Or.inl ⟨rfl, Or.inl rfl⟩)
      · by_cases h0 : n ≤ b
        · rw [if_pos ((iN_le (by omega) (by omega)).mpr h0)]
          exact L_J107 (fi := 0) hR hX he s3 hn (by omega) h2 h3 h23 (Or.inr ⟨rfl, by rw [show b = n by omega]⟩)
        · rw [if_neg (fun hh => h0 ((iN_le (by omega) (by omega)).mp hh))]
          exact L_J107 (fi := 1) hR hX he s3 hn (by omega) h2 h3 h23 (Or.inl ⟨rfl, Or.inr ⟨b, by omega, rfl⟩⟩)
    have k64 : ∀ p2 p3 : Int32, cat0 p2 → cat0 p3 → (p2 = nM → p3 = nM) → wp (f_L_patterns_J64 K c p k 0 y (iN r0) p2 p3) (fun z => z.1 = 1 ∧ UP j z.2.1 z.2.2.1 w u x t g q nr h z.2.2.2.1 z.2.2.2.2) := by
      intro p2 p3 h2 h3 h23
      rw [f_L_patterns_J64, er5, eq_b1]
      by_cases h0 : iN r5 = 0
      · rw [if_pos h0]
        exact k92 p2 p3 _ h2 h3 h23 (Or.inl rfl)
      · rw [if_neg h0, s3', show iN n + 1 = iN (n + 1) from iN_add n 1, er6, eq_b1]
        exact k92 p2 p3 _ h2 h3 h23 (Or.inr ⟨r6, by omega, rfl⟩)
    have k34 : ∀ p2 : Int32, (p2 = nM ∨ ∃ b, b < 6 ∧ p2 = iN b) → wp (f_L_patterns_J34 K c p k 0 y (iN r0) p2) (fun z => z.1 = 1 ∧ UP j z.2.1 z.2.2.1 w u x t g q nr h z.2.2.2.1 z.2.2.2.2) := by
      intro p2 h2
      rw [f_L_patterns_J34]
      rcases h2 with rfl | ⟨b, hb, rfl⟩
      · rw [if_pos (show nM < 0 by decide), f_L_patterns_J51]
        exact k64 nM _ (Or.inl rfl) (Or.inl rfl) (fun _ => rfl)
      · have hne : ¬ (iN b = nM) := by rw [iN_nM (by omega)]; exact id
        rw [if_neg (show ¬ (iN b < 0) from (by rw [iN_lt0 (by omega)]; exact id : ¬ (iN b < iN 0))), er3, eq_b1]
        by_cases h0 : iN r3 = 0
        · rw [if_pos h0, f_L_patterns_J51]
          exact k64 _ _ (Or.inr ⟨b, by omega, rfl⟩) (Or.inl rfl) (fun hh => absurd hh hne)
        · rw [if_neg h0, er4, eq_b1]
          exact k64 _ _ (Or.inr ⟨b, by omega, rfl⟩) (Or.inr ⟨r4, by omega, rfl⟩) (fun hh => absurd hh hne)
    rw [if_pos (show iN 0 = 0 from rfl), er0, eq_b1, er1, eq_b1]
    by_cases h0 : iN r1 = 0
    · rw [if_pos h0]
      exact k34 _ (Or.inl rfl)
    · rw [if_neg h0, er2, eq_b1]
      exact k34 _ (Or.inr ⟨r2, by omega, rfl⟩)
  · obtain ⟨r0, hr0, er0⟩ : ∃ r, r < n + 1 ∧ f_L_some y (iN (n + 1)) = some (iN r) := some_lt _ (by omega) (by omega)
    obtain ⟨r1, hr1, er1⟩ : ∃ r, r < m + 2 ∧ f_L_some (y >>> ((4 : Int32) &&& 31)) (iN (m + 2)) = some (iN r) := some_lt _ (by omega) (by omega)
    have hpw : iN r1 - 1 = nM ∨ ∃ wd, wd ≤ m ∧ iN r1 - 1 = iN wd := by
      by_cases hz : r1 = 0
      · subst hz; exact Or.inl (by decide)
      · exact Or.inr ⟨r1 - 1, by omega, iN_s1 (by omega)⟩
    rw [if_neg (show ¬ (iN 1 = 0) by decide), s3', show iN n + 1 = iN (n + 1) from iN_add n 1, er0, eq_b1, s0', show iN m + 2 = iN (m + 2) from iN_add m 2, er1, eq_b1, eq_lb]
    generalize iN r1 - 1 = pw at hpw
    by_cases h0 : n ≤ r0
    · rw [if_pos ((iN_le (by omega) (by omega)).mpr h0), f_L_patterns_J266]
      exact L_J267 (is := 0) hR hX he s3 s0 (by omega) (by omega) (Or.inr ⟨rfl, Or.inl (by omega)⟩)
    · rw [if_neg (fun hh => h0 ((iN_le (by omega) (by omega)).mp hh))]
      rcases hpw with rfl | ⟨wd, hwd, rfl⟩
      · rw [if_neg (by rw [iN_leM (by omega)]; exact id)]
        exact L_J267 (is := 1) hR hX he s3 s0 (by omega) (by omega) (Or.inl ⟨rfl, by omega, Or.inl rfl⟩)
      · by_cases h1 : m ≤ wd
        · rw [if_pos ((iN_le (by omega) (by omega)).mpr h1), f_L_patterns_J266]
          exact L_J267 (is := 0) hR hX he s3 s0 (by omega) (by omega) (Or.inr ⟨rfl, Or.inr ⟨by omega, by rw [show wd = m by omega]⟩⟩)
        · rw [if_neg (fun hh => h1 ((iN_le (by omega) (by omega)).mp hh))]
          exact L_J267 (is := 1) hR hX he s3 s0 (by omega) (by omega) (Or.inl ⟨rfl, by omega, Or.inr ⟨wd, by omega, rfl⟩⟩)
