/-- what the reference's reading leaves -/
def MN (M y : Ob) (s : Nat) : Prop := cor M y ∧ (∀ k, 59 ≤ k → y k = M k) ∧ y 52 = M 52 ∧ y 55 = M 55 ∧ ((due M s ∧ y 53 0 = M 53 0 + iN 1) ∨ (¬ due M s ∧ y 53 0 = M 53 0)) ∧ (∀ t, t ≠ s → y 54 t = M 54 t ∧ y 56 t = M 56 t) ∧ y 54 s = M 52 0 ∧ y 56 s = M 55 s ∧
  (∀ p, p < evn M s → y 57 (6 * s + p) = iN (gvM (sr M) M s p % 4) ∧ y 58 (6 * s + p) = iN (gvM (sr M) M s p / 4)) ∧ (∀ i, (i < 6 * s ∨ 6 * s + 6 ≤ i) → y 57 i = M 57 i ∧ y 58 i = M 58 i)
/-- the chart stands -/
def ST (M y : Ob) (s : Nat) : Prop := ∃ n, n < 40000 ∧ MCh y (gr M) (chM (gr M) (sr M) M s) n
theorem X11_cht {M y : Ob} {s : Nat} (hM : WM M) (hs : s < 4) (hc : cor M y) :
    wp (f_X11_chart y (iN s)) (fun z => (∀ k, (k < 11 ∨ (14 < k ∧ k < 31) ∨ 42 < k) → z k = y k) ∧ ST M z s ∧ WCh (gr M) (chM (gr M) (sr M) M s)) := by
  obtain ⟨h1, h2, h3, h4⟩ := WM_cg hc hM
  have h := X11_chart h1 h2 h3 h4 (fun k k1 k2 => gr_e k1 k2) hs
  have e : chM (gr y) (sr y) y s = chM (gr M) (sr M) M s := cM_cg hc s
  rw [e, gr_cg hc] at h
  refine wp_mono h ?_
  rintro z ⟨a1, ⟨n, a2, a3⟩, a4⟩
  exact ⟨a1, ⟨n, a2, a3⟩, a4⟩
theorem X11_need {M : Ob} {s : Nat} (hM : WM M) (hs : s < 4) :
    wp (f_X11_need M (iN s)) (fun y => MN M y s ∧ ST M y s ∧ WCh (gr M) (chM (gr M) (sr M) M s)) := by
  obtain ⟨h6, h9, hw⟩ := WTxt_at hM.2.1 hs
  rw [f_X11_need]
  simp only [wp_some, wp_grd, wp_lb, wp_ite, wp_b1, wp_b2, wp_b3, wp_b4, wp_b5]
  refine wp_mono (X11_look hM.1 hM.2.1 hM.2.2.1 hs) ?_
  rintro y ⟨a1, a2, a3⟩
  have c54 : ∀ k, (14 < k ∨ k < 11) → y k = M k := fun k hk => a1 k (by omega) (by omega) (by omega) (by omega)
  have hcy : cor M y := fun k hk => c54 k (by omega)
  have e9 : y 9 s = iN (evn M s) := by rw [c54 9 (by omega)]; exact h9
  have fin1 : ∀ z : Ob, cor M z → (∀ k, 59 ≤ k → z k = M k) → z 52 = M 52 → z 55 = M 55 → ((due M s ∧ z 53 0 = M 53 0 + iN 1) ∨ (¬ due M s ∧ z 53 0 = M 53 0)) → (∀ t, t ≠ s → z 54 t = M 54 t ∧ z 56 t = M 56 t) → z 54 s = M 52 0 → z 56 s = M 55 s → (∀ p, p < evn M s → z 57 (6 * s + p) = iN (gvM (sr M) M s p % 4) ∧ z 58 (6 * s + p) = iN (gvM (sr M) M s p / 4)) → (∀ i, (i < 6 * s ∨ 6 * s + 6 ≤ i) → z 57 i = M 57 i ∧ z 58 i = M 58 i) →
      wp (f_X11_chart z (iN s)) (fun y => MN M y s ∧ ST M y s ∧ WCh (gr M) (chM (gr M) (sr M) M s)) := by
    intro z b1 b2 b3 b4 b5 b6 b7 b8 b9 b10
    refine wp_mono (X11_cht hM hs b1) ?_
    rintro w ⟨d1, d2, d3⟩
    refine ⟨?_, d2, d3⟩
    unfold MN
    rw [d1 52 (by omega), d1 53 (by omega), d1 54 (by omega), d1 55 (by omega), d1 56 (by omega), d1 57 (by omega), d1 58 (by omega)]
    exact ⟨fun k hk => by rw [d1 k (by omega)]; exact b1 k hk, fun k hk => by rw [d1 k (by omega)]; exact b2 k hk, b3, b4, b5, b6, b7, b8, b9, b10⟩
  -- from the flag on
  have main : ∀ fl : Int32, (fl = iN 0 ∧ M 54 s = M 52 0 ∧ M 56 s = M 55 s) ∨ (fl = iN 1 ∧ (M 54 s ≠ M 52 0 ∨ M 56 s ≠ M 55 s)) → wp (f_X11_need_J38 y (iN s) fl) (fun y => MN M y s ∧ ST M y s ∧ WCh (gr M) (chM (gr M) (sr M) M s)) := by
    intro fl hfl
    simp (disch := omega) only [f_X11_need_J38, ↓nM_lit, iN_lit, iN_add, iN_mul, iN_lt, iN_le, iN_eq, iN_c, gd_iN, iN_nM, nM_iN, iN_ltM, nM_lt, nM_le, iN_leM, iN_0M, nM_p1, iN_0s1, decide_true, decide_eq_true_eq, Nat.not_lt_zero, if_true, if_false, wp_some, wp_grd, wp_lb, wp_ite, wp_b1, wp_b2, wp_b3, wp_b4, wp_b5]
    have look : wp (f_X11_need_L44 200 y (iN s) fl (iN (6 * s))) (fun q => (q.1 = iN 0 ∧ ¬ due M s) ∨ (q.1 = iN 1 ∧ due M s)) := by
      refine lp_up (F := fun f (v : Int32) j => f_X11_need_L44 f y (iN s) v j) (V := fun i v => 6 * s ≤ i ∧ ((v = iN 0 ∧ M 54 s = M 52 0 ∧ M 56 s = M 55 s ∧ ∀ p, 6 * s + p < i → M 57 (6 * s + p) = iN (gvM (sr M) M s p % 4) ∧ M 58 (6 * s + p) = iN (gvM (sr M) M s p / 4)) ∨ (v = iN 1 ∧ due M s))) (hi := 6 * s + evn M s) ?_ 200 (6 * s) fl (by omega) (by omega) ⟨Nat.le_refl _, ?_⟩
      · rintro f v i hi ⟨v1, v2⟩ hk
        by_cases he : i = 6 * s + evn M s
        · subst he
          simp (disch := omega) only [f_X11_need_L44, ↓nM_lit, iN_lit, iN_add, iN_mul, iN_lt, iN_le, iN_eq, iN_c, gd_iN, iN_nM, nM_iN, iN_ltM, nM_lt, nM_le, iN_leM, iN_0M, nM_p1, iN_0s1, decide_true, decide_eq_true_eq, Nat.not_lt_zero, if_true, if_false, wp_some, wp_grd, wp_lb, wp_ite, wp_b1, wp_b2, wp_b3, wp_b4, wp_b5, eq_grd, eq_lb, eq_b1, eq_b2, eq_b3, eq_b4, eq_b5, hs, e9, Nat.le_refl, true_and]
          rcases v2 with ⟨u1, u2, u3, u4⟩ | h
          · refine Or.inl ⟨u1, ?_⟩
            rintro (h | h | ⟨p, hp, h⟩)
            · exact h u2
            · exact h u3
            · exact h (u4 p (by omega))
          · exact Or.inr h
        · obtain ⟨p, rfl⟩ : ∃ p, i = 6 * s + p := ⟨i - 6 * s, by omega⟩
          have hp : p < evn M s := by omega
          obtain ⟨-, g13, g14⟩ := a3 p hp
          have e57 : y 57 = M 57 := c54 57 (by omega)
          have e58 : y 58 = M 58 := c54 58 (by omega)
          have e13 : y 13 (6 * s + p) = iN (gvM (sr M) M s p % 4) := g13
          have e14 : y 14 (6 * s + p) = iN (gvM (sr M) M s p / 4) := g14
          rcases v2 with ⟨u1, u2, u3, u4⟩ | ⟨u1, u2⟩
          · simp (disch := omega) only [f_X11_need_L44, ↓nM_lit, iN_lit, iN_add, iN_mul, iN_lt, iN_le, iN_eq, iN_c, gd_iN, iN_nM, nM_iN, iN_ltM, nM_lt, nM_le, iN_leM, iN_0M, nM_p1, iN_0s1, decide_true, decide_eq_true_eq, Nat.not_lt_zero, if_true, if_false, wp_some, wp_grd, wp_lb, wp_ite, wp_b1, wp_b2, wp_b3, wp_b4, wp_b5, eq_grd, eq_lb, eq_b1, eq_b2, eq_b3, eq_b4, eq_b5, hs, e9, show ¬ (6 * s + evn M s ≤ 6 * s + p) by omega, u1, show 6 * s + p < 24 by omega, e57, e58, e13, e14, true_and]
            by_cases h1 : M 57 (6 * s + p) = iN (gvM (sr M) M s p % 4)
            · rw [if_pos h1]
              by_cases h2 : M 58 (6 * s + p) = iN (gvM (sr M) M s p / 4)
              · rw [if_pos h2]
                refine hk _ (by omega) ⟨by omega, Or.inl ⟨rfl, u2, u3, ?_⟩⟩
                intro q hq
                by_cases e : q = p
                · subst e; exact ⟨h1, h2⟩
                · exact u4 q (by omega)
              · rw [if_neg h2]
                exact hk _ (by omega) ⟨by omega, Or.inr ⟨rfl, Or.inr (Or.inr ⟨p, hp, fun h => h2 h.2⟩)⟩⟩
            · rw [if_neg h1]
              exact hk _ (by omega) ⟨by omega, Or.inr ⟨rfl, Or.inr (Or.inr ⟨p, hp, fun h => h1 h.1⟩)⟩⟩
          · simp (disch := omega) only [f_X11_need_L44, ↓nM_lit, iN_lit, iN_add, iN_mul, iN_lt, iN_le, iN_eq, iN_c, gd_iN, iN_nM, nM_iN, iN_ltM, nM_lt, nM_le, iN_leM, iN_0M, nM_p1, iN_0s1, decide_true, decide_eq_true_eq, Nat.not_lt_zero, if_true, if_false, wp_some, wp_grd, wp_lb, wp_ite, wp_b1, wp_b2, wp_b3, wp_b4, wp_b5, eq_grd, eq_lb, eq_b1, eq_b2, eq_b3, eq_b4, eq_b5, hs, e9, show ¬ (6 * s + evn M s ≤ 6 * s + p) by omega, u1, show ¬ (1 = 0) by decide, true_and]
            exact hk _ (by omega) ⟨by omega, Or.inr ⟨rfl, u2⟩⟩
      · rcases hfl with ⟨e, h1, h2⟩ | ⟨e, h⟩
        · exact Or.inl ⟨e, h1, h2, fun p hp => by omega⟩
        · exact Or.inr ⟨e, by rcases h with h | h; exact Or.inl h; exact Or.inr (Or.inl h)⟩
    refine wp_mono look ?_
    rintro ⟨q1, q2⟩ (⟨e, hd⟩ | ⟨e, hd⟩)
    · simp only at e
      simp (disch := omega) only [e, ↓nM_lit, iN_lit, iN_add, iN_mul, iN_lt, iN_le, iN_eq, iN_c, gd_iN, iN_nM, nM_iN, iN_ltM, nM_lt, nM_le, iN_leM, iN_0M, nM_p1, iN_0s1, decide_true, decide_eq_true_eq, Nat.not_lt_zero, if_true, if_false, if_true]
      have hd1 : M 54 s = M 52 0 := by
        by_cases h : M 54 s = M 52 0
        · exact h
        · exact absurd (Or.inl h) hd
      have hd2 : M 56 s = M 55 s := by
        by_cases h : M 56 s = M 55 s
        · exact h
        · exact absurd (Or.inr (Or.inl h)) hd
      refine fin1 y hcy (fun k hk => c54 k (by omega)) (c54 52 (by omega)) (c54 55 (by omega)) (Or.inr ⟨hd, by rw [c54 53 (by omega)]⟩) (fun t _ => ⟨by rw [c54 54 (by omega)], by rw [c54 56 (by omega)]⟩) (by rw [c54 54 (by omega)]; exact hd1) (by rw [c54 56 (by omega)]; exact hd2) ?_ (fun i _ => ⟨by rw [c54 57 (by omega)], by rw [c54 58 (by omega)]⟩)
      intro p hp
      rw [c54 57 (by omega), c54 58 (by omega)]
      by_cases h : M 57 (6 * s + p) = iN (gvM (sr M) M s p % 4) ∧ M 58 (6 * s + p) = iN (gvM (sr M) M s p / 4)
      · exact h
      · exact absurd (Or.inr (Or.inr ⟨p, hp, h⟩)) hd
    · simp only at e
      have q52 : ∀ (k : Nat) (z : Ob) (v : Int32) (i j : Nat), k ≠ 52 → upo z k i v 52 j = z 52 j := fun k z v i j h => by rw [upo_ne (Ne.symm h)]
      have q55 : ∀ (k : Nat) (z : Ob) (v : Int32) (i j : Nat), k ≠ 55 → upo z k i v 55 j = z 55 j := fun k z v i j h => by rw [upo_ne (Ne.symm h)]
      simp (disch := omega) only [e, ↓nM_lit, iN_lit, iN_add, iN_mul, iN_lt, iN_le, iN_eq, iN_c, gd_iN, iN_nM, nM_iN, iN_ltM, nM_lt, nM_le, iN_leM, iN_0M, nM_p1, iN_0s1, decide_true, decide_eq_true_eq, Nat.not_lt_zero, if_true, if_false, show ¬ (1 = 0) by decide, if_false, hs, q52, q55, true_and]
      generalize hz0 : upo (upo (upo y 53 0 (y 53 0 + iN 1)) 54 s (y 52 0)) 56 s (y 55 s) = z0
      have z9 : z0 9 s = iN (evn M s) := by rw [← hz0, upo_ne (by decide), upo_ne (by decide), upo_ne (by decide)]; exact e9
      have zo : ∀ k, k ≠ 53 → k ≠ 54 → k ≠ 56 → z0 k = y k := fun k k1 k2 k3 => by rw [← hz0, upo_ne k3, upo_ne k2, upo_ne k1]
      have put : wp (f_X11_need_L146 200 z0 (iN s) (iN (6 * s))) (fun q => (∀ k, k ≠ 57 → k ≠ 58 → q.2 k = z0 k) ∧ (∀ p, p < evn M s → q.2 57 (6 * s + p) = iN (gvM (sr M) M s p % 4) ∧ q.2 58 (6 * s + p) = iN (gvM (sr M) M s p / 4)) ∧ ∀ i, (i < 6 * s ∨ 6 * s + 6 ≤ i) → q.2 57 i = z0 57 i ∧ q.2 58 i = z0 58 i) := by
        refine lp_up (F := fun f (z : Ob) j => f_X11_need_L146 f z (iN s) j) (V := fun i z => 6 * s ≤ i ∧ (∀ k, k ≠ 57 → k ≠ 58 → z k = z0 k) ∧ (∀ p, 6 * s + p < i → z 57 (6 * s + p) = iN (gvM (sr M) M s p % 4) ∧ z 58 (6 * s + p) = iN (gvM (sr M) M s p / 4)) ∧ ∀ i, (i < 6 * s ∨ 6 * s + 6 ≤ i) → z 57 i = z0 57 i ∧ z 58 i = z0 58 i) (hi := 6 * s + evn M s) ?_ 200 (6 * s) z0 (by omega) (by omega) ⟨Nat.le_refl _, fun _ _ _ => rfl, fun p hp => by omega, fun _ _ => ⟨rfl, rfl⟩⟩
        rintro f z i hi ⟨v1, v2, v3, v4⟩ hk
        have e9z : z 9 s = iN (evn M s) := by rw [v2 9 (by decide) (by decide)]; exact z9
        by_cases he : i = 6 * s + evn M s
        · subst he
          simp (disch := omega) only [f_X11_need_L146, ↓nM_lit, iN_lit, iN_add, iN_mul, iN_lt, iN_le, iN_eq, iN_c, gd_iN, iN_nM, nM_iN, iN_ltM, nM_lt, nM_le, iN_leM, iN_0M, nM_p1, iN_0s1, decide_true, decide_eq_true_eq, Nat.not_lt_zero, if_true, if_false, wp_some, wp_grd, wp_lb, wp_ite, wp_b1, wp_b2, wp_b3, wp_b4, wp_b5, eq_grd, eq_lb, eq_b1, eq_b2, eq_b3, eq_b4, eq_b5, hs, e9z, Nat.le_refl, true_and]
          exact ⟨v2, fun p hp => v3 p (by omega), v4⟩
        · obtain ⟨p, rfl⟩ : ∃ p, i = 6 * s + p := ⟨i - 6 * s, by omega⟩
          have hp : p < evn M s := by omega
          obtain ⟨-, g13, g14⟩ := a3 p hp
          have e13 : z 13 (6 * s + p) = iN (gvM (sr M) M s p % 4) := by rw [v2 13 (by decide) (by decide), zo 13 (by decide) (by decide) (by decide)]; exact g13
          have e14 : ∀ v, upo z 57 (6 * s + p) v 14 (6 * s + p) = iN (gvM (sr M) M s p / 4) := fun v => by rw [upo_ne (by decide), v2 14 (by decide) (by decide), zo 14 (by decide) (by decide) (by decide)]; exact g14
          simp (disch := omega) only [f_X11_need_L146, ↓nM_lit, iN_lit, iN_add, iN_mul, iN_lt, iN_le, iN_eq, iN_c, gd_iN, iN_nM, nM_iN, iN_ltM, nM_lt, nM_le, iN_leM, iN_0M, nM_p1, iN_0s1, decide_true, decide_eq_true_eq, Nat.not_lt_zero, if_true, if_false, wp_some, wp_grd, wp_lb, wp_ite, wp_b1, wp_b2, wp_b3, wp_b4, wp_b5, eq_grd, eq_lb, eq_b1, eq_b2, eq_b3, eq_b4, eq_b5, hs, e9z, show ¬ (6 * s + evn M s ≤ 6 * s + p) by omega, show 6 * s + p < 24 by omega, e13, e14, true_and]
          refine hk _ (by omega) ⟨by omega, fun k k1 k2 => by rw [upo_ne k2, upo_ne k1]; exact v2 k k1 k2, ?_, ?_⟩
          · intro q hq
            rw [upo_ne (show (57 : Nat) ≠ 58 by decide), upo_ap, upo_ap, upo_ne (show (58 : Nat) ≠ 57 by decide)]
            by_cases e : q = p
            · subst e; rw [if_pos ⟨rfl, rfl⟩, if_pos ⟨rfl, rfl⟩]; exact ⟨rfl, rfl⟩
            · rw [if_neg (by omega), if_neg (by omega)]; exact v3 q (by omega)
          · intro i hi2
            rw [upo_ne (show (57 : Nat) ≠ 58 by decide), upo_ap, upo_ap, upo_ne (show (58 : Nat) ≠ 57 by decide), if_neg (by omega), if_neg (by omega)]
            exact v4 i hi2
      refine wp_mono put ?_
      rintro ⟨z1, z2⟩ ⟨b1, b2, b3⟩
      simp only at b1 b2 b3 ⊢
      refine fin1 z2 ?_ ?_ ?_ ?_ (Or.inl ⟨hd, ?_⟩) ?_ ?_ ?_ b2 ?_
      · intro k hk; rw [b1 k (by omega) (by omega), zo k (by omega) (by omega) (by omega)]; exact hcy k hk
      · intro k hk; rw [b1 k (by omega) (by omega), zo k (by omega) (by omega) (by omega)]; exact c54 k (by omega)
      · rw [b1 52 (by decide) (by decide), zo 52 (by decide) (by decide) (by decide)]; exact c54 52 (by omega)
      · rw [b1 55 (by decide) (by decide), zo 55 (by decide) (by decide) (by decide)]; exact c54 55 (by omega)
      · rw [b1 53 (by decide) (by decide), ← hz0, upo_ne (by decide), upo_ne (by decide), upo_ap, if_pos ⟨rfl, rfl⟩, c54 53 (by omega)]
      · intro t ht
        rw [b1 54 (by decide) (by decide), b1 56 (by decide) (by decide), ← hz0, upo_ne (show (54 : Nat) ≠ 56 by decide), upo_ap, if_neg (fun h => ht h.2), upo_ne (show (54 : Nat) ≠ 53 by decide), upo_ap, if_neg (fun h => ht h.2), upo_ne (show (56 : Nat) ≠ 54 by decide), upo_ne (show (56 : Nat) ≠ 53 by decide), c54 54 (by omega), c54 56 (by omega)]
        exact ⟨rfl, rfl⟩
      · rw [b1 54 (by decide) (by decide), ← hz0, upo_ne (by decide), upo_ap, if_pos ⟨rfl, rfl⟩, c54 52 (by omega)]
      · rw [b1 56 (by decide) (by decide), ← hz0, upo_ap, if_pos ⟨rfl, rfl⟩, c54 55 (by omega)]
      · intro i hi
        rw [(b3 i hi).1, (b3 i hi).2, zo 57 (by decide) (by decide) (by decide), zo 58 (by decide) (by decide) (by decide), c54 57 (by omega), c54 58 (by omega)]
        exact ⟨rfl, rfl⟩
  have e54 : y 54 = M 54 := c54 54 (by omega)
  have e52 : y 52 = M 52 := c54 52 (by omega)
  have e56 : y 56 = M 56 := c54 56 (by omega)
  have e55 : y 55 = M 55 := c54 55 (by omega)
  simp (disch := omega) only [↓nM_lit, iN_lit, iN_add, iN_mul, iN_lt, iN_le, iN_eq, iN_c, gd_iN, iN_nM, nM_iN, iN_ltM, nM_lt, nM_le, iN_leM, iN_0M, nM_p1, iN_0s1, decide_true, decide_eq_true_eq, Nat.not_lt_zero, if_true, if_false, eq_grd, eq_lb, eq_b1, eq_b2, eq_b3, eq_b4, eq_b5, hs, e54, e52, e55, e56, f_X11_need_J33, true_and]
  by_cases h1 : M 54 s = M 52 0
  · rw [if_pos h1]
    by_cases h2 : M 56 s = M 55 s
    · rw [if_pos h2]; exact main _ (Or.inl ⟨rfl, h1, h2⟩)
    · rw [if_neg h2]; exact main _ (Or.inr ⟨rfl, Or.inr h2⟩)
  · rw [if_neg h1]; exact main _ (Or.inr ⟨rfl, Or.inl h1⟩)
