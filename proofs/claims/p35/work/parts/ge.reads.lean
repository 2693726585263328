/-! The law counts readings. -/
theorem i_add1 {a b : Int32} : a + iN 1 = b + iN 1 ↔ a = b := by
  constructor
  · intro h
    have := congrArg (· - iN 1) h
    simpa only [Int32.add_sub_cancel] using this
  · intro h; rw [h]
theorem L_same {c v h : Rw} {s n : Nat} (hs : s < 2) (hn : n ≤ 3) (e8 : c (8 + s) = iN n) {b : Nat} (hb : b = 0 ∨ b = 1) :
    wp (f_L_reads_L41 400 c v h (iN s) (iN b) (iN 0)) (fun r => (r.1 = iN 0 ∧ b = 0 ∧ ∀ j, j < 2 * n → h (8 * s + 2 + j) = v (6 * s + j)) ∨ (r.1 = iN 1 ∧ (b = 1 ∨ ∃ j, j < 2 * n ∧ h (8 * s + 2 + j) ≠ v (6 * s + j)))) := by
  refine lp_up (F := fun f (Z : Int32) i => f_L_reads_L41 f c v h (iN s) Z i) (V := fun i Z => (Z = iN 0 ∧ b = 0 ∧ ∀ j, j < i → h (8 * s + 2 + j) = v (6 * s + j)) ∨ (Z = iN 1 ∧ (b = 1 ∨ ∃ j, j < i ∧ h (8 * s + 2 + j) ≠ v (6 * s + j)))) (hi := 2 * n) ?_ 400 0 (iN b) (by omega) (by omega) ?_
  · intro f Z i hi hV hk
    by_cases he : i = 2 * n
    · subst he
      simp (disch := omega) only [f_L_reads_L41, ↓nM_lit, iN_lit, iN_add, iN_mul, iN_lt, iN_le, iN_eq, iN_c, gd_iN, iN_nM, nM_iN, iN_ltM, nM_lt, nM_le, iN_leM, iN_0M, nM_p1, iN_0s1, decide_true, decide_eq_true_eq, Nat.not_lt_zero, if_true, if_false, wp_some, wp_grd, wp_lb, wp_ite, wp_b1, wp_b2, wp_b3, wp_b4, wp_b5, ↓reduceIte, wp_b6, wp_b7, wp_b8, wp_b9, show 8 + s < 12 by omega, e8, Nat.le_refl, true_and]
      exact hV
    · have hi' : i < 2 * n := by omega
      rcases hV with ⟨rfl, hb0, hV⟩ | ⟨rfl, hV⟩
      · by_cases hh : h (8 * s + 2 + i) = v (6 * s + i)
        · simp (disch := omega) only [f_L_reads_L41, ↓nM_lit, iN_lit, iN_add, iN_mul, iN_lt, iN_le, iN_eq, iN_c, gd_iN, iN_nM, nM_iN, iN_ltM, nM_lt, nM_le, iN_leM, iN_0M, nM_p1, iN_0s1, decide_true, decide_eq_true_eq, Nat.not_lt_zero, if_true, if_false, wp_some, wp_grd, wp_lb, wp_ite, wp_b1, wp_b2, wp_b3, wp_b4, wp_b5, ↓reduceIte, wp_b6, wp_b7, wp_b8, wp_b9, show 8 + s < 12 by omega, e8, show ¬ (2 * n ≤ i) by omega, show 8 * s + 2 + i < 16 by omega, show 6 * s + i < 12 by omega, hh, true_and]
          refine hk _ hi' (Or.inl ⟨rfl, hb0, ?_⟩)
          intro j hj
          by_cases hji : j = i
          · rw [hji]; exact hh
          · exact hV j (by omega)
        · simp (disch := omega) only [f_L_reads_L41, ↓nM_lit, iN_lit, iN_add, iN_mul, iN_lt, iN_le, iN_eq, iN_c, gd_iN, iN_nM, nM_iN, iN_ltM, nM_lt, nM_le, iN_leM, iN_0M, nM_p1, iN_0s1, decide_true, decide_eq_true_eq, Nat.not_lt_zero, if_true, if_false, wp_some, wp_grd, wp_lb, wp_ite, wp_b1, wp_b2, wp_b3, wp_b4, wp_b5, ↓reduceIte, wp_b6, wp_b7, wp_b8, wp_b9, show 8 + s < 12 by omega, e8, show ¬ (2 * n ≤ i) by omega, show 8 * s + 2 + i < 16 by omega, show 6 * s + i < 12 by omega, hh, true_and]
          exact hk _ hi' (Or.inr ⟨rfl, Or.inr ⟨i, by omega, hh⟩⟩)
      · simp (disch := omega) only [f_L_reads_L41, ↓nM_lit, iN_lit, iN_add, iN_mul, iN_lt, iN_le, iN_eq, iN_c, gd_iN, iN_nM, nM_iN, iN_ltM, nM_lt, nM_le, iN_leM, iN_0M, nM_p1, iN_0s1, decide_true, decide_eq_true_eq, Nat.not_lt_zero, if_true, if_false, wp_some, wp_grd, wp_lb, wp_ite, wp_b1, wp_b2, wp_b3, wp_b4, wp_b5, ↓reduceIte, wp_b6, wp_b7, wp_b8, wp_b9, show 8 + s < 12 by omega, e8, show ¬ (2 * n ≤ i) by omega, show ¬ (1 = 0) by omega, true_and]
        refine hk _ hi' (Or.inr ⟨rfl, ?_⟩)
        rcases hV with hV | ⟨j, hj, hV⟩
        · exact Or.inl hV
        · exact Or.inr ⟨j, by omega, hV⟩
  · rcases hb with rfl | rfl
    · exact Or.inl ⟨rfl, rfl, fun j hj => absurd hj (Nat.not_lt_zero j)⟩
    · exact Or.inr ⟨rfl, Or.inl rfl⟩
theorem L_copy {c v h : Rw} {s n : Nat} (hs : s < 2) (hn : n ≤ 3) (e8 : c (8 + s) = iN n) :
    wp (f_L_reads_L139 400 c v h (iN s) (iN 0)) (fun r => ∀ k, r.2 k = if 8 * s + 2 ≤ k ∧ k < 8 * s + 2 + 2 * n then v (6 * s + (k - (8 * s + 2))) else h k) := by
  refine lp_up (F := fun f (Z : Rw) i => f_L_reads_L139 f c v Z (iN s) i) (V := fun i Z => ∀ k, Z k = if 8 * s + 2 ≤ k ∧ k < 8 * s + 2 + i then v (6 * s + (k - (8 * s + 2))) else h k) (hi := 2 * n) ?_ 400 0 h (by omega) (by omega) (fun k => by rw [if_neg (by omega)])
  intro f Z i hi hV hk
  by_cases he : i = 2 * n
  · subst he
    simp (disch := omega) only [f_L_reads_L139, ↓nM_lit, iN_lit, iN_add, iN_mul, iN_lt, iN_le, iN_eq, iN_c, gd_iN, iN_nM, nM_iN, iN_ltM, nM_lt, nM_le, iN_leM, iN_0M, nM_p1, iN_0s1, decide_true, decide_eq_true_eq, Nat.not_lt_zero, if_true, if_false, wp_some, wp_grd, wp_lb, wp_ite, wp_b1, wp_b2, wp_b3, wp_b4, wp_b5, ↓reduceIte, wp_b6, wp_b7, wp_b8, wp_b9, show 8 + s < 12 by omega, e8, Nat.le_refl, true_and]
    exact hV
  · have hi' : i < 2 * n := by omega
    simp (disch := omega) only [f_L_reads_L139, ↓nM_lit, iN_lit, iN_add, iN_mul, iN_lt, iN_le, iN_eq, iN_c, gd_iN, iN_nM, nM_iN, iN_ltM, nM_lt, nM_le, iN_leM, iN_0M, nM_p1, iN_0s1, decide_true, decide_eq_true_eq, Nat.not_lt_zero, if_true, if_false, wp_some, wp_grd, wp_lb, wp_ite, wp_b1, wp_b2, wp_b3, wp_b4, wp_b5, ↓reduceIte, wp_b6, wp_b7, wp_b8, wp_b9, show 8 + s < 12 by omega, e8, show ¬ (2 * n ≤ i) by omega, show 8 * s + 2 + i < 16 by omega, show 6 * s + i < 12 by omega, true_and]
    refine hk _ hi' ?_
    intro k
    rw [upd_ap]
    by_cases h1 : k = 8 * s + 2 + i
    · rw [if_pos h1, if_pos (by omega), h1, show 8 * s + 2 + i - (8 * s + 2) = i by omega]
    · rw [if_neg h1, hV k]
      by_cases h2 : 8 * s + 2 ≤ k ∧ k < 8 * s + 2 + i
      · rw [if_pos h2, if_pos (by omega)]
      · rw [if_neg h2, if_neg (by omega)]
/-- a sentence was read: what the law's rows hold then -/
theorem L_J109 {c v h : Rw} {M y : Ob} {s n d : Nat} (hx : LXh c h M) (hs : s < 2) (hn : n ≤ 3) (e8 : c (8 + s) = iN n) (hy : MN M y s) (h9 : y 9 s = iN n) (en : evn M s = n) (hv : ∀ p, p < n → v (2 * (3 * s + p)) = iN (gvM (sr M) M s p % 4) ∧ v (2 * (3 * s + p) + 1) = iN (gvM (sr M) M s p / 4)) (hd : y 53 0 = M 53 0 + iN d) (h9' : y 9 = M 9) (h3 : ∀ t, t < 2 → nn (M 9 t) ≤ 3) :
    wp (f_L_reads_J109 c v h (iN s) (iN 5) (c 5) (iN d)) (fun z => LXh z.1 z.2 y ∧ ∀ k, k ≠ 5 → z.1 k = c k) := by
  obtain ⟨x1, x2, x3⟩ := hx
  obtain ⟨m1, m2, m3, m4, m5, m6, m7, m8, m9, m10⟩ := hy
  have e8' : upd c 5 (c 5 + iN d) (8 + s) = iN n := by rw [upd_ne (by omega), e8]
  have u4 : upd c 5 (c 5 + iN d) 4 = c 4 := upd_ne (by decide)
  have u10 : upd c 5 (c 5 + iN d) (10 + s) = c (10 + s) := upd_ne (by omega)
  simp (disch := omega) only [f_L_reads_J109, ↓nM_lit, iN_lit, iN_add, iN_mul, iN_lt, iN_le, iN_eq, iN_c, gd_iN, iN_nM, nM_iN, iN_ltM, nM_lt, nM_le, iN_leM, iN_0M, nM_p1, iN_0s1, decide_true, decide_eq_true_eq, Nat.not_lt_zero, if_true, if_false, wp_some, wp_grd, wp_lb, wp_ite, wp_b1, wp_b2, wp_b3, wp_b4, wp_b5, ↓reduceIte, wp_b6, wp_b7, wp_b8, wp_b9, show 8 * s < 16 by omega, show 10 + s < 12 by omega, show 8 * s + 1 < 16 by omega, u4, u10, true_and]
  refine ⟨by omega, ?_⟩
  refine wp_mono (L_copy hs hn e8') ?_
  intro r hr
  refine ⟨⟨?_, ?_, ?_⟩, fun k hk => upd_ne hk⟩
  · show upd c 5 (c 5 + iN d) 4 = y 52 0
    rw [u4, m3, x1]
  · show upd c 5 (c 5 + iN d) 5 = y 53 0
    rw [upd_eq, x2, hd]
  · intro t ht
    obtain ⟨a1, a2, a3, a4⟩ := x3 t ht
    have ux : upd c 5 (c 5 + iN d) (10 + t) = c (10 + t) := upd_ne (by omega)
    by_cases hts : t = s
    · subst hts
      refine ⟨?_, ?_, ?_, ?_⟩
      · show upd c 5 (c 5 + iN d) (10 + t) = _
        rw [ux, m4, a1]
      · show r.2 (8 * t) = _
        rw [hr, if_neg (by omega), upd_ne (by omega), upd_eq, m7, x1]
      · show r.2 (8 * t + 1) = _
        rw [hr, if_neg (by omega), upd_eq, m8, a1]
      · intro _ _ p hp
        rw [h9, nnI (by omega)] at hp
        obtain ⟨v1, v2⟩ := hv p hp
        obtain ⟨w1, w2⟩ := m9 p (by omega)
        constructor
        · show r.2 (8 * t + 2 + 2 * p) = _
          rw [hr, if_pos (by omega), show 6 * t + (8 * t + 2 + 2 * p - (8 * t + 2)) = 2 * (3 * t + p) by omega, v1, w1]
        · show r.2 (8 * t + 2 + (2 * p + 1)) = _
          rw [hr, if_pos (by omega), show 6 * t + (8 * t + 2 + (2 * p + 1) - (8 * t + 2)) = 2 * (3 * t + p) + 1 by omega, v2, w2]
    · obtain ⟨b1, b2⟩ := m6 t hts
      have hr2 : ∀ k, k < 8 → r.2 (8 * t + k) = h (8 * t + k) := by
        intro k hk
        rw [hr, if_neg (by omega), upd_ne (by omega), upd_ne (by omega)]
      refine ⟨?_, ?_, ?_, ?_⟩
      · show upd c 5 (c 5 + iN d) (10 + t) = _
        rw [ux, m4, a1]
      · show r.2 (8 * t) = _
        rw [b1, ← a2]; exact hr2 0 (by omega)
      · show r.2 (8 * t + 1) = _
        rw [b2, ← a3]; exact hr2 1 (by omega)
      · intro k1 k2 p hp
        rw [b1, m3] at k1
        rw [b2, m4] at k2
        rw [h9'] at hp
        obtain ⟨w1, w2⟩ := a4 k1 k2 p hp
        by_cases hp3 : p < 3
        · obtain ⟨q1, q2⟩ := m10 (6 * t + p) (by omega)
          constructor
          · show r.2 (8 * t + 2 + 2 * p) = _
            rw [q1, ← w1, show 8 * t + 2 + 2 * p = 8 * t + (2 + 2 * p) by omega]
            exact hr2 _ (by omega)
          · show r.2 (8 * t + 2 + (2 * p + 1)) = _
            rw [q2, ← w2, show 8 * t + 2 + (2 * p + 1) = 8 * t + (3 + 2 * p) by omega]
            exact hr2 _ (by omega)
        · have := h3 t ht
          exact absurd hp (by omega)
theorem L_reads {c w u x v h : Rw} {M y : Ob} {s : Nat} (hx : LXh c h M) (hW : LW0 c w u x M) (hs : s < 2) (hy : MN M y s) (hv : ∀ p, p < evn M s → v (2 * (3 * s + p)) = iN (gvM (sr M) M s p % 4) ∧ v (2 * (3 * s + p) + 1) = iN (gvM (sr M) M s p / 4)) :
    wp (f_L_reads c v h (iN s)) (fun z => LXh z.1 z.2 y ∧ ∀ k, k ≠ 5 → z.1 k = c k) := by
  obtain ⟨n3, e8, m9, -⟩ := LX_t hW.2.2.2 hs
  have h9' : y 9 = M 9 := hy.1 9 (by omega)
  have key : ∀ d, y 53 0 = M 53 0 + iN d → wp (f_L_reads_J109 c v h (iN s) (iN 5) (c 5) (iN d)) (fun z => LXh z.1 z.2 y ∧ ∀ k, k ≠ 5 → z.1 k = c k) := fun d hd => L_J109 hx hs n3 e8 hy (by rw [h9', m9]) rfl hv hd h9' (fun t ht => (LX_t hW.2.2.2 ht).1)
  have hdue := hy.2.2.2.2.1
  obtain ⟨x1, x2, x3⟩ := hx
  obtain ⟨a1, a2, a3, a4⟩ := x3 s hs
  have z0 : M 53 0 + iN 0 = M 53 0 := Int32.add_zero _
  have J36 : ∀ b, (b = 0 ∨ b = 1) → (b = 1 → due M s) → (b = 0 → M 54 s = M 52 0 ∧ M 56 s = M 55 s) → wp (f_L_reads_J36 c v h (iN s) (iN b)) (fun z => LXh z.1 z.2 y ∧ ∀ k, k ≠ 5 → z.1 k = c k) := by
    intro b hb hb1 hb0
    rw [f_L_reads_J36, wp_b2]
    refine wp_mono (L_same hs n3 e8 hb) ?_
    rintro r (⟨r1, rb, rh⟩ | ⟨r1, rh⟩)
    · have hnd : ¬ due M s := by
        obtain ⟨q1, q2⟩ := hb0 rb
        rintro (hd | hd | ⟨p, hp, hd⟩)
        · exact hd q1
        · exact hd q2
        · refine hd ?_
          obtain ⟨v1, v2⟩ := hv p hp
          obtain ⟨w1, w2⟩ := a4 q1 q2 p hp
          have t1 := rh (2 * p) (by omega)
          have t2 := rh (2 * p + 1) (by omega)
          rw [show 6 * s + 2 * p = 2 * (3 * s + p) by omega, v1, w1] at t1
          rw [show 6 * s + (2 * p + 1) = 2 * (3 * s + p) + 1 by omega, v2, w2] at t2
          exact ⟨t1, t2⟩
      have e53 : y 53 0 = M 53 0 := by
        rcases hdue with ⟨hd, -⟩ | ⟨-, hd⟩
        · exact absurd hd hnd
        · exact hd
      simp (disch := omega) only [r1, ↓nM_lit, iN_lit, iN_add, iN_mul, iN_lt, iN_le, iN_eq, iN_c, gd_iN, iN_nM, nM_iN, iN_ltM, nM_lt, nM_le, iN_leM, iN_0M, nM_p1, iN_0s1, decide_true, decide_eq_true_eq, Nat.not_lt_zero, if_true, if_false, wp_some, wp_grd, wp_lb, wp_ite, wp_b1, wp_b2, wp_b3, wp_b4, wp_b5, ↓reduceIte, wp_b6, wp_b7, wp_b8, wp_b9]
      exact key 0 (by rw [e53, z0])
    · have hdu : due M s := by
        rcases rh with rh | ⟨j, hj, hne⟩
        · exact hb1 rh
        · by_cases q1 : M 54 s = M 52 0
          · by_cases q2 : M 56 s = M 55 s
            · refine Or.inr (Or.inr ⟨j / 2, by omega, ?_⟩)
              rintro ⟨w1, w2⟩
              obtain ⟨v1, v2⟩ := hv (j / 2) (by omega)
              obtain ⟨o1, o2⟩ := a4 q1 q2 (j / 2) (by show j / 2 < evn M s; omega)
              by_cases hj2 : j % 2 = 0
              · refine hne ?_
                rw [show 8 * s + 2 + j = 8 * s + 2 + 2 * (j / 2) by omega, o1, w1, show 6 * s + j = 2 * (3 * s + j / 2) by omega, v1]
              · refine hne ?_
                rw [show 8 * s + 2 + j = 8 * s + 2 + (2 * (j / 2) + 1) by omega, o2, w2, show 6 * s + j = 2 * (3 * s + j / 2) + 1 by omega, v2]
            · exact Or.inr (Or.inl q2)
          · exact Or.inl q1
      have e53 : y 53 0 = M 53 0 + iN 1 := by
        rcases hdue with ⟨-, hd⟩ | ⟨hd, -⟩
        · exact hd
        · exact absurd hdu hd
      simp (disch := omega) only [r1, ↓nM_lit, iN_lit, iN_add, iN_mul, iN_lt, iN_le, iN_eq, iN_c, gd_iN, iN_nM, nM_iN, iN_ltM, nM_lt, nM_le, iN_leM, iN_0M, nM_p1, iN_0s1, decide_true, decide_eq_true_eq, Nat.not_lt_zero, if_true, if_false, wp_some, wp_grd, wp_lb, wp_ite, wp_b1, wp_b2, wp_b3, wp_b4, wp_b5, ↓reduceIte, wp_b6, wp_b7, wp_b8, wp_b9, show ¬ (1 = 0) by omega]
      exact key 1 e53
  have hc1 : (h (8 * s) = c 4 + iN 1) ↔ M 54 s = M 52 0 := by rw [a2, x1]; exact i_add1
  by_cases q1 : M 54 s = M 52 0
  · have hc1' : h (8 * s) = c 4 + iN 1 := hc1.2 q1
    by_cases q2 : M 56 s = M 55 s
    · have hc2 : h (8 * s + 1) = c (10 + s) := by rw [a3, a1, q2]
      simp (disch := omega) only [f_L_reads, ↓nM_lit, iN_lit, iN_add, iN_mul, iN_lt, iN_le, iN_eq, iN_c, gd_iN, iN_nM, nM_iN, iN_ltM, nM_lt, nM_le, iN_leM, iN_0M, nM_p1, iN_0s1, decide_true, decide_eq_true_eq, Nat.not_lt_zero, if_true, if_false, wp_some, wp_grd, wp_lb, wp_ite, wp_b1, wp_b2, wp_b3, wp_b4, wp_b5, ↓reduceIte, wp_b6, wp_b7, wp_b8, wp_b9, show 8 * s < 16 by omega, show 10 + s < 12 by omega, show 8 * s + 1 < 16 by omega, hc1', hc2, true_and]
      exact J36 0 (Or.inl rfl) (fun h => absurd h (by omega)) (fun _ => ⟨q1, q2⟩)
    · have hc2 : ¬ (h (8 * s + 1) = c (10 + s)) := by rw [a3, a1]; exact q2
      simp (disch := omega) only [f_L_reads, f_L_reads_J31, ↓nM_lit, iN_lit, iN_add, iN_mul, iN_lt, iN_le, iN_eq, iN_c, gd_iN, iN_nM, nM_iN, iN_ltM, nM_lt, nM_le, iN_leM, iN_0M, nM_p1, iN_0s1, decide_true, decide_eq_true_eq, Nat.not_lt_zero, if_true, if_false, wp_some, wp_grd, wp_lb, wp_ite, wp_b1, wp_b2, wp_b3, wp_b4, wp_b5, ↓reduceIte, wp_b6, wp_b7, wp_b8, wp_b9, show 8 * s < 16 by omega, show 10 + s < 12 by omega, show 8 * s + 1 < 16 by omega, hc1', hc2, true_and]
      exact J36 1 (Or.inr rfl) (fun _ => Or.inr (Or.inl q2)) (fun h => absurd h (by omega))
  · have hc1' : ¬ (h (8 * s) = c 4 + iN 1) := fun hh => q1 (hc1.1 hh)
    simp (disch := omega) only [f_L_reads, f_L_reads_J31, ↓nM_lit, iN_lit, iN_add, iN_mul, iN_lt, iN_le, iN_eq, iN_c, gd_iN, iN_nM, nM_iN, iN_ltM, nM_lt, nM_le, iN_leM, iN_0M, nM_p1, iN_0s1, decide_true, decide_eq_true_eq, Nat.not_lt_zero, if_true, if_false, wp_some, wp_grd, wp_lb, wp_ite, wp_b1, wp_b2, wp_b3, wp_b4, wp_b5, ↓reduceIte, wp_b6, wp_b7, wp_b8, wp_b9, show 8 * s < 16 by omega, hc1', true_and]
    exact J36 1 (Or.inr rfl) (fun _ => Or.inl q1) (fun h => absurd h (by omega))
