/-! What holds of a rule of striking, by the law. -/
def TSr (c t : Rw) (R : Ob) : Prop := c 1 = iN (nn (R 15 0)) ∧ nn (R 15 0) ≤ 4 ∧ ∀ g, g < nn (R 15 0) → t (5 * g) = R 16 g ∧ t (5 * g + 1) = R 17 g ∧ t (5 * g + 2) = R 18 g ∧ t (5 * g + 3) = R 19 g ∧ (R 16 g = iN 1 → t (5 * g + 4) = R 20 g ∧ (R 20 g = nM ∨ ∃ b, b ≤ 9 ∧ R 20 g = iN b)) ∧ (R 16 g = iN 0 ∨ (R 16 g = iN 1 ∧ (R 18 g = iN 1 ∨ R 18 g = nM)))
theorem L_sure {c w u x l t : Rw} {M R : Ob} {s : Nat} {L : Nat → Nat} (hT : TSr c t R) (h : LW0 c w u x M) (hs : s < 2) (hl : RLl l M s L) (hL : LB (evS M s) L) {g p : Nat} (hg : g < nn (R 15 0)) (h0 : R 16 g = iN 0) : f_L_holds c w u x l t (iN s) (iN g) (iN p) = some (if sSu R (evS M s) L g (iN p + R 18 g) = true then iN 1 else iN 0) := by
  obtain ⟨-, h4, hT⟩ := hT
  obtain ⟨t0, -, t2, t3, -, -⟩ := hT g hg
  have hE := LW_E h hs
  obtain ⟨n3, c8, -, -⟩ := LX_t h.2.2.2 hs
  simp (disch := omega) only [f_L_holds, ↓nM_lit, iN_lit, iN_add, iN_mul, iN_lt, iN_le, iN_eq, iN_c, gd_iN, iN_nM, nM_iN, iN_ltM, nM_lt, nM_le, iN_leM, iN_0M, nM_p1, iN_0s1, decide_true, decide_eq_true_eq, Nat.not_lt_zero, if_true, if_false, eq_grd, eq_lb, eq_b1, eq_b2, eq_b3, eq_b4, eq_b5, show 5 * g + 2 < 20 by omega, show 5 * g < 20 by omega, show 5 * g + 3 < 20 by omega, t0, t2, t3, h0, show 8 + s < 12 by omega, c8]
  generalize iN p + R 18 g = z
  rw [sSu, evS_L]
  by_cases h0 : z < iN 0
  · simp (disch := omega) only [h0, ↓nM_lit, iN_lit, iN_add, iN_mul, iN_lt, iN_le, iN_eq, iN_c, gd_iN, iN_nM, nM_iN, iN_ltM, nM_lt, nM_le, iN_leM, iN_0M, nM_p1, iN_0s1, decide_true, decide_eq_true_eq, Nat.not_lt_zero, if_true, if_false, eq_grd, eq_lb, eq_b1, eq_b2, eq_b3, eq_b4, eq_b5, Bool.false_eq_true]
  · by_cases h1 : iN (evn M s) ≤ z
    · simp (disch := omega) only [h0, h1, ↓nM_lit, iN_lit, iN_add, iN_mul, iN_lt, iN_le, iN_eq, iN_c, gd_iN, iN_nM, nM_iN, iN_ltM, nM_lt, nM_le, iN_leM, iN_0M, nM_p1, iN_0s1, decide_true, decide_eq_true_eq, Nat.not_lt_zero, if_true, if_false, eq_grd, eq_lb, eq_b1, eq_b2, eq_b3, eq_b4, eq_b5, Bool.false_eq_true]
    · obtain ⟨q, hq2, rfl⟩ := i32_in (by omega) h0 h1
      have hq' : q < eL (evS M s) := by rw [evS_L]; exact hq2
      have h16 := LB16 hE hL hq'
      have hlf := lf_lt hE hL hq' (R 19 g)
      have el := hl q hq2
      simp (disch := omega) only [↓nM_lit, iN_lit, iN_add, iN_mul, iN_lt, iN_le, iN_eq, iN_c, gd_iN, iN_nM, nM_iN, iN_ltM, nM_lt, nM_le, iN_leM, iN_0M, nM_p1, iN_0s1, decide_true, decide_eq_true_eq, Nat.not_lt_zero, if_true, if_false, eq_grd, eq_lb, eq_b1, eq_b2, eq_b3, eq_b4, eq_b5, show ¬ (evn M s ≤ q) by omega, show 3 * s + q < 6 by omega, el, L_left h hs hl hL hq2, Bool.and_eq_true, ne_eq, Nat.le_zero]
      by_cases h2 : L q = 0
      · simp only [h2, if_true, not_true, false_and, if_false]
      · by_cases h3 : lf (evS M s) L q (R 19 g) = L q <;> simp only [h2, h3, if_true, if_false, not_false_eq_true, true_and]
theorem L_seen_L {c w u x l t : Rw} {M R : Ob} {s : Nat} {L : Nat → Nat} (hT : TSr c t R) (h : LW0 c w u x M) (hs : s < 2) (hl : RLl l M s L) (hL : LB (evS M s) L) {g : Nat} (hg : g < nn (R 15 0)) (h16 : R 16 g = iN 1) (h18 : R 18 g = iN 1 ∨ R 18 g = nM) (d : Nat) : ∀ (f : Nat) (z : Int32), d < f → (∀ q, q < evn M s → z = iN q → (R 18 g = iN 1 → evn M s ≤ q + d) ∧ (R 18 g = nM → q < d)) → wp (f_L_holds_L107 f c w u x l t (iN s) (iN g) (R 18 g) z (iN 0) (iN 0)) (fun r => r.2.1 = (if sGo R (evS M s) L g d z = true then iN 1 else iN 0)) := by
  obtain ⟨-, h4, hT⟩ := hT
  obtain ⟨t0, -, t2, t3, t4, -⟩ := hT g hg
  obtain ⟨t4, hb⟩ := t4 h16
  have hE := LW_E h hs
  obtain ⟨n3, c8, -, -⟩ := LX_t h.2.2.2 hs
  have out : ∀ (f : Nat) (z : Int32) (d : Nat), (z < iN 0 ∨ iN (evn M s) ≤ z) → wp (f_L_holds_L107 (f + 1) c w u x l t (iN s) (iN g) (R 18 g) z (iN 0) (iN 0)) (fun r => r.2.1 = (if sGo R (evS M s) L g d z = true then iN 1 else iN 0)) := by
    intro f z d ht
    have hz : sGo R (evS M s) L g d z = false := by
      cases d with
      | zero => rfl
      | succ d =>
        rw [sGo, evS_L]
        rcases ht with ht | ht
        · rw [if_pos ht]
        · rw [if_pos ht, ite_self]
    rw [hz]
    by_cases h0 : z < iN 0
    · simp (disch := omega) only [f_L_holds_L107, ↓nM_lit, iN_lit, iN_add, iN_mul, iN_lt, iN_le, iN_eq, iN_c, gd_iN, iN_nM, nM_iN, iN_ltM, nM_lt, nM_le, iN_leM, iN_0M, nM_p1, iN_0s1, decide_true, decide_eq_true_eq, Nat.not_lt_zero, if_true, if_false, wp_some, wp_grd, wp_lb, wp_ite, wp_b1, wp_b2, wp_b3, wp_b4, wp_b5, h0, Bool.false_eq_true]
    · have h1 : iN (evn M s) ≤ z := by rcases ht with ht | ht; exact absurd ht h0; exact ht
      simp (disch := omega) only [f_L_holds_L107, ↓nM_lit, iN_lit, iN_add, iN_mul, iN_lt, iN_le, iN_eq, iN_c, gd_iN, iN_nM, nM_iN, iN_ltM, nM_lt, nM_le, iN_leM, iN_0M, nM_p1, iN_0s1, decide_true, decide_eq_true_eq, Nat.not_lt_zero, if_true, if_false, wp_some, wp_grd, wp_lb, wp_ite, wp_b1, wp_b2, wp_b3, wp_b4, wp_b5, eq_grd, eq_lb, eq_b1, eq_b2, eq_b3, eq_b4, eq_b5, h0, h1, c8, show 8 + s < 12 by omega, Bool.false_eq_true, true_and]
  induction d with
  | zero =>
    intro f z hf ht
    obtain ⟨f, rfl⟩ : ∃ m, f = m + 1 := ⟨f - 1, by omega⟩
    refine out f z 0 ?_
    by_cases h0 : z < iN 0
    · exact Or.inl h0
    · by_cases h1 : iN (evn M s) ≤ z
      · exact Or.inr h1
      · obtain ⟨q, hq2, rfl⟩ := i32_in (by omega) h0 h1
        obtain ⟨k1, k2⟩ := ht q hq2 rfl
        rcases h18 with h18 | h18
        · have := k1 h18; omega
        · have := k2 h18; omega
  | succ d ih =>
    intro f z hf ht
    obtain ⟨f, rfl⟩ : ∃ m, f = m + 1 := ⟨f - 1, by omega⟩
    by_cases h0 : z < iN 0
    · exact out f z (d + 1) (Or.inl h0)
    · by_cases h1 : iN (evn M s) ≤ z
      · exact out f z (d + 1) (Or.inr h1)
      · obtain ⟨q, hq2, rfl⟩ := i32_in (by omega) h0 h1
        have ih' := ih f (iN q + R 18 g) (by omega) (by
          intro q2 hq3 e
          obtain ⟨k1, k2⟩ := ht q hq2 rfl
          rcases h18 with h18 | h18
          · rw [h18, iN_add, iN_eq (by omega) (by omega)] at e
            have := k1 h18
            refine ⟨fun _ => by omega, fun h => ?_⟩
            rw [h18] at h; exact absurd h (by decide)
          · rw [h18] at e
            have := k2 h18
            refine ⟨fun h => ?_, fun _ => ?_⟩
            · rw [h18] at h; exact absurd h (by decide)
            · cases q with
              | zero => rw [iN_0M, nM_iN (by omega)] at e; exact e.elim
              | succ q => rw [iN_pM (Nat.succ_pos q), iN_eq (by omega) (by omega)] at e; omega)
        have hq' : q < eL (evS M s) := by rw [evS_L]; exact hq2
        have hl19 := lf_lt hE hL hq' (R 19 g)
        have hl20 := lf_lt hE hL hq' (R 20 g)
        have stop : ∀ (f : Nat) (z : Int32) (a b : Nat), a ≤ 1 → b ≤ 1 → (a = 1 ∨ b = 1) → wp (f_L_holds_L107 (f + 1) c w u x l t (iN s) (iN g) (R 18 g) z (iN a) (iN b)) (fun r => r.2.1 = iN a) := by
          intro f z a b ha hb hab
          by_cases z0 : z < iN 0
          · simp (disch := omega) only [f_L_holds_L107, ↓nM_lit, iN_lit, iN_add, iN_mul, iN_lt, iN_le, iN_eq, iN_c, gd_iN, iN_nM, nM_iN, iN_ltM, nM_lt, nM_le, iN_leM, iN_0M, nM_p1, iN_0s1, decide_true, decide_eq_true_eq, Nat.not_lt_zero, if_true, if_false, wp_some, wp_grd, wp_lb, wp_ite, wp_b1, wp_b2, wp_b3, wp_b4, wp_b5, z0]
          · by_cases z1 : iN (evn M s) ≤ z
            · simp (disch := omega) only [f_L_holds_L107, ↓nM_lit, iN_lit, iN_add, iN_mul, iN_lt, iN_le, iN_eq, iN_c, gd_iN, iN_nM, nM_iN, iN_ltM, nM_lt, nM_le, iN_leM, iN_0M, nM_p1, iN_0s1, decide_true, decide_eq_true_eq, Nat.not_lt_zero, if_true, if_false, wp_some, wp_grd, wp_lb, wp_ite, wp_b1, wp_b2, wp_b3, wp_b4, wp_b5, eq_grd, eq_lb, eq_b1, eq_b2, eq_b3, eq_b4, eq_b5, z0, z1, c8, show 8 + s < 12 by omega, true_and]
            · by_cases a0 : a = 0
              · have b1 : b = 1 := by omega
                subst a0; subst b1
                simp (disch := omega) only [f_L_holds_L107, ↓nM_lit, iN_lit, iN_add, iN_mul, iN_lt, iN_le, iN_eq, iN_c, gd_iN, iN_nM, nM_iN, iN_ltM, nM_lt, nM_le, iN_leM, iN_0M, nM_p1, iN_0s1, decide_true, decide_eq_true_eq, Nat.not_lt_zero, if_true, if_false, wp_some, wp_grd, wp_lb, wp_ite, wp_b1, wp_b2, wp_b3, wp_b4, wp_b5, eq_grd, eq_lb, eq_b1, eq_b2, eq_b3, eq_b4, eq_b5, z0, z1, c8, show 8 + s < 12 by omega, true_and, show ¬ (1 = 0) by decide]
              · simp (disch := omega) only [f_L_holds_L107, ↓nM_lit, iN_lit, iN_add, iN_mul, iN_lt, iN_le, iN_eq, iN_c, gd_iN, iN_nM, nM_iN, iN_ltM, nM_lt, nM_le, iN_leM, iN_0M, nM_p1, iN_0s1, decide_true, decide_eq_true_eq, Nat.not_lt_zero, if_true, if_false, wp_some, wp_grd, wp_lb, wp_ite, wp_b1, wp_b2, wp_b3, wp_b4, wp_b5, eq_grd, eq_lb, eq_b1, eq_b2, eq_b3, eq_b4, eq_b5, z0, z1, c8, show 8 + s < 12 by omega, true_and, a0]
        have s10 : wp (f_L_holds_L107 f c w u x l t (iN s) (iN g) (R 18 g) (iN q + R 18 g) (iN 1) (iN 0)) (fun r => r.2.1 = iN 1) := by
          obtain ⟨f', rfl⟩ : ∃ m, f = m + 1 := ⟨f - 1, by omega⟩
          exact stop f' (iN q + R 18 g) 1 0 (by decide) (by decide) (Or.inl rfl)
        have s01 : wp (f_L_holds_L107 f c w u x l t (iN s) (iN g) (R 18 g) (iN q + R 18 g) (iN 0) (iN 1)) (fun r => r.2.1 = iN 0) := by
          obtain ⟨f', rfl⟩ : ∃ m, f = m + 1 := ⟨f - 1, by omega⟩
          exact stop f' (iN q + R 18 g) 0 1 (by decide) (by decide) (Or.inr rfl)
        have e0 : sGo R (evS M s) L g (d + 1) (iN q) = if R 20 g ≠ nM ∧ R 20 g ≠ R 19 g ∧ lf (evS M s) L q (R 20 g) ≠ 0 then false else if lf (evS M s) L q (R 19 g) ≠ 0 then true else sGo R (evS M s) L g d (iN q + R 18 g) := by
          rw [sGo, evS_L, if_neg h0, if_neg h1, iN_c (by omega)]
        rcases hb with hb | ⟨b, hb9, hb⟩
        · rw [if_neg (fun hc => hc.1 hb)] at e0
          by_cases h3 : lf (evS M s) L q (R 19 g) = 0
          · rw [if_neg (fun hc => hc h3)] at e0
            rw [e0]
            simp (disch := omega) only [f_L_holds_L107, f_L_holds_J166, f_L_holds_J211, f_L_holds_J212, f_L_holds_J245, f_L_holds_J249, f_L_holds_J250, ↓nM_lit, iN_lit, iN_add, iN_mul, iN_lt, iN_le, iN_eq, iN_c, gd_iN, iN_nM, nM_iN, iN_ltM, nM_lt, nM_le, iN_leM, iN_0M, nM_p1, iN_0s1, decide_true, decide_eq_true_eq, Nat.not_lt_zero, if_true, if_false, wp_some, wp_grd, wp_lb, wp_ite, wp_b1, wp_b2, wp_b3, wp_b4, wp_b5, eq_grd, eq_lb, eq_b1, eq_b2, eq_b3, eq_b4, eq_b5, h1, c8, show 8 + s < 12 by omega, t3, t4, show 5 * g + 3 < 20 by omega, show 5 * g + 4 < 20 by omega, L_left h hs hl hL hq2, show ¬ (evn M s ≤ q) by omega, true_and, Nat.le_zero, show ¬ (1 = 0) by decide, hb, h3]
            exact ih'
          · rw [if_pos h3] at e0
            rw [e0]
            simp (disch := omega) only [f_L_holds_L107, f_L_holds_J166, f_L_holds_J211, f_L_holds_J212, f_L_holds_J245, f_L_holds_J249, f_L_holds_J250, ↓nM_lit, iN_lit, iN_add, iN_mul, iN_lt, iN_le, iN_eq, iN_c, gd_iN, iN_nM, nM_iN, iN_ltM, nM_lt, nM_le, iN_leM, iN_0M, nM_p1, iN_0s1, decide_true, decide_eq_true_eq, Nat.not_lt_zero, if_true, if_false, wp_some, wp_grd, wp_lb, wp_ite, wp_b1, wp_b2, wp_b3, wp_b4, wp_b5, eq_grd, eq_lb, eq_b1, eq_b2, eq_b3, eq_b4, eq_b5, h1, c8, show 8 + s < 12 by omega, t3, t4, show 5 * g + 3 < 20 by omega, show 5 * g + 4 < 20 by omega, L_left h hs hl hL hq2, show ¬ (evn M s ≤ q) by omega, true_and, Nat.le_zero, show ¬ (1 = 0) by decide, hb, h3]
            exact s10
        · have hbn : R 20 g ≠ nM := by rw [hb]; intro hc; exact (iN_nM (show b < 2147483648 by omega)).mp hc
          have hl20' : lf (evS M s) L q (iN b) < 16 := by rw [← hb]; exact hl20
          by_cases h2 : R 20 g = R 19 g
          · rw [if_neg (fun hc => hc.2.1 h2)] at e0
            have hb2 : R 19 g = iN b := by rw [← h2]; exact hb
            by_cases h3 : lf (evS M s) L q (R 19 g) = 0
            · rw [if_neg (fun hc => hc h3)] at e0
              rw [e0]
              rw [hb2] at h3
              simp (disch := omega) only [f_L_holds_L107, f_L_holds_J166, f_L_holds_J211, f_L_holds_J212, f_L_holds_J245, f_L_holds_J249, f_L_holds_J250, ↓nM_lit, iN_lit, iN_add, iN_mul, iN_lt, iN_le, iN_eq, iN_c, gd_iN, iN_nM, nM_iN, iN_ltM, nM_lt, nM_le, iN_leM, iN_0M, nM_p1, iN_0s1, decide_true, decide_eq_true_eq, Nat.not_lt_zero, if_true, if_false, wp_some, wp_grd, wp_lb, wp_ite, wp_b1, wp_b2, wp_b3, wp_b4, wp_b5, eq_grd, eq_lb, eq_b1, eq_b2, eq_b3, eq_b4, eq_b5, h1, c8, show 8 + s < 12 by omega, t3, t4, show 5 * g + 3 < 20 by omega, show 5 * g + 4 < 20 by omega, L_left h hs hl hL hq2, show ¬ (evn M s ≤ q) by omega, true_and, Nat.le_zero, show ¬ (1 = 0) by decide, hb, hb2, h3]
              exact ih'
            · rw [if_pos h3] at e0
              rw [e0]
              rw [hb2] at h3
              simp (disch := omega) only [f_L_holds_L107, f_L_holds_J166, f_L_holds_J211, f_L_holds_J212, f_L_holds_J245, f_L_holds_J249, f_L_holds_J250, ↓nM_lit, iN_lit, iN_add, iN_mul, iN_lt, iN_le, iN_eq, iN_c, gd_iN, iN_nM, nM_iN, iN_ltM, nM_lt, nM_le, iN_leM, iN_0M, nM_p1, iN_0s1, decide_true, decide_eq_true_eq, Nat.not_lt_zero, if_true, if_false, wp_some, wp_grd, wp_lb, wp_ite, wp_b1, wp_b2, wp_b3, wp_b4, wp_b5, eq_grd, eq_lb, eq_b1, eq_b2, eq_b3, eq_b4, eq_b5, h1, c8, show 8 + s < 12 by omega, t3, t4, show 5 * g + 3 < 20 by omega, show 5 * g + 4 < 20 by omega, L_left h hs hl hL hq2, show ¬ (evn M s ≤ q) by omega, true_and, Nat.le_zero, show ¬ (1 = 0) by decide, hb, hb2, h3]
              exact s10
          · have h2' : ¬ (R 19 g = iN b) := by rw [← hb]; exact fun e => h2 e.symm
            by_cases h4 : lf (evS M s) L q (R 20 g) = 0
            · rw [if_neg (fun hc => hc.2.2 h4)] at e0
              rw [hb] at h4
              by_cases h3 : lf (evS M s) L q (R 19 g) = 0
              · rw [if_neg (fun hc => hc h3)] at e0
                rw [e0]
                simp (disch := omega) only [f_L_holds_L107, f_L_holds_J166, f_L_holds_J211, f_L_holds_J212, f_L_holds_J245, f_L_holds_J249, f_L_holds_J250, ↓nM_lit, iN_lit, iN_add, iN_mul, iN_lt, iN_le, iN_eq, iN_c, gd_iN, iN_nM, nM_iN, iN_ltM, nM_lt, nM_le, iN_leM, iN_0M, nM_p1, iN_0s1, decide_true, decide_eq_true_eq, Nat.not_lt_zero, if_true, if_false, wp_some, wp_grd, wp_lb, wp_ite, wp_b1, wp_b2, wp_b3, wp_b4, wp_b5, eq_grd, eq_lb, eq_b1, eq_b2, eq_b3, eq_b4, eq_b5, h1, c8, show 8 + s < 12 by omega, t3, t4, show 5 * g + 3 < 20 by omega, show 5 * g + 4 < 20 by omega, L_left h hs hl hL hq2, show ¬ (evn M s ≤ q) by omega, true_and, Nat.le_zero, show ¬ (1 = 0) by decide, hb, h3, h4]
                exact ih'
              · rw [if_pos h3] at e0
                rw [e0]
                simp (disch := omega) only [f_L_holds_L107, f_L_holds_J166, f_L_holds_J211, f_L_holds_J212, f_L_holds_J245, f_L_holds_J249, f_L_holds_J250, ↓nM_lit, iN_lit, iN_add, iN_mul, iN_lt, iN_le, iN_eq, iN_c, gd_iN, iN_nM, nM_iN, iN_ltM, nM_lt, nM_le, iN_leM, iN_0M, nM_p1, iN_0s1, decide_true, decide_eq_true_eq, Nat.not_lt_zero, if_true, if_false, wp_some, wp_grd, wp_lb, wp_ite, wp_b1, wp_b2, wp_b3, wp_b4, wp_b5, eq_grd, eq_lb, eq_b1, eq_b2, eq_b3, eq_b4, eq_b5, h1, c8, show 8 + s < 12 by omega, t3, t4, show 5 * g + 3 < 20 by omega, show 5 * g + 4 < 20 by omega, L_left h hs hl hL hq2, show ¬ (evn M s ≤ q) by omega, true_and, Nat.le_zero, show ¬ (1 = 0) by decide, hb, h3, h4]
                exact s10
            · rw [if_pos ⟨hbn, h2, h4⟩] at e0
              rw [e0]
              rw [hb] at h4
              by_cases h3 : lf (evS M s) L q (R 19 g) = 0
              · simp (disch := omega) only [f_L_holds_L107, f_L_holds_J166, f_L_holds_J211, f_L_holds_J212, f_L_holds_J245, f_L_holds_J249, f_L_holds_J250, ↓nM_lit, iN_lit, iN_add, iN_mul, iN_lt, iN_le, iN_eq, iN_c, gd_iN, iN_nM, nM_iN, iN_ltM, nM_lt, nM_le, iN_leM, iN_0M, nM_p1, iN_0s1, decide_true, decide_eq_true_eq, Nat.not_lt_zero, if_true, if_false, wp_some, wp_grd, wp_lb, wp_ite, wp_b1, wp_b2, wp_b3, wp_b4, wp_b5, eq_grd, eq_lb, eq_b1, eq_b2, eq_b3, eq_b4, eq_b5, h1, c8, show 8 + s < 12 by omega, t3, t4, show 5 * g + 3 < 20 by omega, show 5 * g + 4 < 20 by omega, L_left h hs hl hL hq2, show ¬ (evn M s ≤ q) by omega, true_and, Nat.le_zero, show ¬ (1 = 0) by decide, hb, h3, h4, Bool.false_eq_true]
                exact s01
              · simp (disch := omega) only [f_L_holds_L107, f_L_holds_J166, f_L_holds_J211, f_L_holds_J212, f_L_holds_J245, f_L_holds_J249, f_L_holds_J250, ↓nM_lit, iN_lit, iN_add, iN_mul, iN_lt, iN_le, iN_eq, iN_c, gd_iN, iN_nM, nM_iN, iN_ltM, nM_lt, nM_le, iN_leM, iN_0M, nM_p1, iN_0s1, decide_true, decide_eq_true_eq, Nat.not_lt_zero, if_true, if_false, wp_some, wp_grd, wp_lb, wp_ite, wp_b1, wp_b2, wp_b3, wp_b4, wp_b5, eq_grd, eq_lb, eq_b1, eq_b2, eq_b3, eq_b4, eq_b5, h1, c8, show 8 + s < 12 by omega, t3, t4, show 5 * g + 3 < 20 by omega, show 5 * g + 4 < 20 by omega, L_left h hs hl hL hq2, show ¬ (evn M s ≤ q) by omega, true_and, Nat.le_zero, show ¬ (1 = 0) by decide, hb, h2', h3, h4, Bool.false_eq_true]
                exact s01
theorem L_holds {c w u x l t : Rw} {M R : Ob} {s : Nat} {L : Nat → Nat} (hT : TSr c t R) (h : LW0 c w u x M) (hs : s < 2) (hl : RLl l M s L) (hL : LB (evS M s) L) {g p : Nat} (hg : g < nn (R 15 0)) (hp : p < evn M s) : f_L_holds c w u x l t (iN s) (iN g) (iN p) = some (if sHo R (evS M s) L g p = true then iN 1 else iN 0) := by
  obtain ⟨-, h4, hT'⟩ := id hT
  obtain ⟨t0, -, t2, t3, t4, hR⟩ := hT' g hg
  rcases hR with h0 | ⟨h0, h18⟩
  · rw [L_sure hT h hs hl hL hg h0, sHo, if_pos h0]
  · have n3 := (LX_t h.2.2.2 hs).1
    obtain ⟨r, e, hr⟩ := L_seen_L hT h hs hl hL hg h0 h18 6 400 (iN p + R 18 g) (by omega) (fun q hq _ => ⟨fun _ => by omega, fun _ => by omega⟩)
    have hne : ¬ (R 16 g = iN 0) := by rw [h0]; decide
    rw [sHo, if_neg hne]
    simp (disch := omega) only [f_L_holds, ↓nM_lit, iN_lit, iN_add, iN_mul, iN_lt, iN_le, iN_eq, iN_c, gd_iN, iN_nM, nM_iN, iN_ltM, nM_lt, nM_le, iN_leM, iN_0M, nM_p1, iN_0s1, decide_true, decide_eq_true_eq, Nat.not_lt_zero, if_true, if_false, eq_grd, eq_lb, eq_b1, eq_b2, eq_b3, eq_b4, eq_b5, show 5 * g + 2 < 20 by omega, show 5 * g < 20 by omega, t0, t2, h0, show ¬ (1 = 0) by decide, e]
    rw [hr]
    cases sGo R (evS M s) L g 6 (iN p + R 18 g) <;> rfl
