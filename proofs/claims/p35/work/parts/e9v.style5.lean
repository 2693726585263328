/-! Faults of style, by the reference. -/
def biN (b : Bool) : Int32 := if b = true then iN 1 else iN 0
theorem biN_0 (b : Bool) : (biN b = iN 0) ↔ b = false := by cases b <;> decide
theorem biN_isb (b : Bool) : isb (biN b) = true := by cases b <;> decide
/-- a state of the reference while styles are looked for -/
def SYc (M y : Ob) (s : Nat) (L : Nat → Nat) : Prop := (∀ k, k < 11 → y k = M k) ∧ (∀ k, 59 ≤ k → k ≤ 65 → y k = M k) ∧ ∀ p, p < evn M s → y 11 (6 * s + p) = iN (L p)
theorem SYc_66 {M y z : Ob} {s : Nat} {L : Nat → Nat} (h : SYc M y s L) (hz : ∀ k, k ≠ 66 → z k = y k) : SYc M z s L := by
  obtain ⟨h1, h2, h3⟩ := h
  exact ⟨fun k hk => by rw [hz k (by omega)]; exact h1 k hk, fun k a b => by rw [hz k (by omega)]; exact h2 k a b, fun p hp => by rw [hz 11 (by decide)]; exact h3 p hp⟩
theorem X11_hasL {M y : Ob} {s : Nat} {L : Nat → Nat} (hM : WM M) (hs : s < 4) (hL : LB (evS M s) L) (hy : SYc M y s L) {p : Nat} (hp : p < 9) (c : Int32) : f_X11_hasLeft y (iN s) (iN p) c = some (biN (hasL (evS M s) L p c)) := by
  obtain ⟨h6, h9, hw⟩ := WTxt_at hM.2.1 hs
  have hE := (WM_E hM hs).1
  obtain ⟨y1, y2, y3⟩ := hy
  have e9 : y 9 s = iN (evn M s) := by rw [y1 9 (by decide)]; exact h9
  by_cases hc : c = nM
  · rw [f_X11_hasLeft, if_pos (show c = -1 from hc)]
    subst hc
    rfl
  · rw [f_X11_hasLeft, if_neg (show ¬ (c = -1) from hc)]
    by_cases hlt : p < evn M s
    · have hRM : RM y y s (evn M s) (evw M s) L := ⟨WLex_cg (fun k hk => y1 k (by omega)) hM.1, hs, h6, e9, fun q hq => ⟨by rw [y1 0 (by decide)]; exact (hw q hq).1, by rw [y1 10 (by decide)]; exact (hw q hq).2⟩, fun _ _ _ _ _ => rfl, y3⟩
      have eE : evW y (evn M s) (evw M s) = evS M s := by rw [evS_e]; exact evW_cg (fun k hk => y1 k (by omega)) _ _
      have hl := X11_left hRM (by rw [eE]; exact hL) hlt c
      rw [eE] at hl
      have h16 := lf_lt hE hL hlt c
      simp (disch := omega) only [↓nM_lit, iN_lit, iN_add, iN_mul, iN_lt, iN_le, iN_eq, iN_c, gd_iN, iN_nM, nM_iN, iN_ltM, nM_lt, nM_le, iN_leM, iN_0M, nM_p1, iN_0s1, decide_true, decide_eq_true_eq, Nat.not_lt_zero, if_true, if_false, eq_grd, eq_lb, eq_b1, eq_b2, eq_b3, eq_b4, eq_b5, hs, e9, show ¬ (evn M s ≤ p) by omega, hl, hasL, hc, decide_false, Bool.false_or, biN]
      by_cases h0 : lf (evS M s) L p c = 0
      · simp only [h0, if_true, ne_eq, not_true, decide_false, Bool.false_eq_true, if_false]
      · simp only [h0, if_false, ne_eq, not_false_eq_true, decide_true, if_true]
    · have h0 : lf (evS M s) L p c = 0 := by rw [lf, if_neg (by rw [evS_L]; exact hlt)]
      simp (disch := omega) only [↓nM_lit, iN_lit, iN_add, iN_mul, iN_lt, iN_le, iN_eq, iN_c, gd_iN, iN_nM, nM_iN, iN_ltM, nM_lt, nM_le, iN_leM, iN_0M, nM_p1, iN_0s1, decide_true, decide_eq_true_eq, Nat.not_lt_zero, if_true, if_false, eq_grd, eq_lb, eq_b1, eq_b2, eq_b3, eq_b4, eq_b5, hs, e9, show evn M s ≤ p by omega, if_true, hasL, hc, decide_false, Bool.false_or, h0, ne_eq, not_true, biN, Bool.false_eq_true, if_false]
theorem exB_up {M : Ob} {st : Nat → Bool} {e k : Nat} : exB M st (e + 1) k = (exB M st e k || (decide (k < e) && decide (M 63 e = iN k) && st e)) := by
  unfold exB
  rw [List.range_succ, List.any_append, List.any_cons, List.any_nil, Bool.or_false]
theorem X11_exc {M z : Ob} {s n d : Nat} {L : Nat → Nat} {st : Nat → Bool} {b : Bool} (hz : SYc M z s L) (e59 : M 59 0 = iN n) (hn : n ≤ 12) (hd : d < n) (h66 : ∀ e, d < e → e < n → z 66 e = biN (st e)) (v1 v2 : Int32) :
    wp (f_X11_findStanding_J115 z v1 v2 (iN d) (iN d) (biN b)) (fun q => q.1 = 0 ∧ q.2.1 = iD d ∧ (∀ k, k ≠ 66 → q.2.2 k = z k) ∧ (∀ k, k ≠ d → q.2.2 66 k = z 66 k) ∧ q.2.2 66 d = biN (b && !(exB M st n d))) := by
  simp (disch := omega) only [f_X11_findStanding_J115, wp_some, wp_grd, wp_lb, wp_ite, wp_b1, wp_b2, wp_b3, wp_b4, wp_b5, ↓nM_lit, iN_lit, iN_add, iN_mul, iN_lt, iN_le, iN_eq, iN_c, gd_iN, iN_nM, nM_iN, iN_ltM, nM_lt, nM_le, iN_leM, iN_0M, nM_p1, iN_0s1, decide_true, decide_eq_true_eq, Nat.not_lt_zero, if_true, if_false, eq_grd, eq_lb, eq_b1, eq_b2, eq_b3, eq_b4, eq_b5, show d < 12 by omega, biN_isb, iD_pM, true_and]
  have loop : wp (f_X11_findStanding_L121 200 (upo z 66 d (biN b)) v1 v2 (iN d) (iN (d + 1))) (fun q => (∀ k, k ≠ 66 → q.2 k = z k) ∧ (∀ k, k ≠ d → q.2 66 k = z 66 k) ∧ q.2 66 d = biN (b && !(exB M st n d))) := by
    refine lp_up (F := fun f (y : Ob) e => f_X11_findStanding_L121 f y v1 v2 (iN d) e) (V := fun e y => d < e ∧ (∀ k, k ≠ 66 → y k = z k) ∧ (∀ k, k ≠ d → y 66 k = z 66 k) ∧ y 66 d = biN (b && !(exB M st e d))) (hi := n) ?_ 200 (d + 1) _ (by omega) (by omega) ⟨Nat.lt_succ_self d, fun k hk => upo_ne hk, fun k hk => up_i hk, ?_⟩
    · rintro f y e he ⟨v0, w1, w2, w3⟩ hk
      have y59 : y 59 0 = iN n := by rw [w1 59 (by decide), hz.2.1 59 (by decide) (by decide)]; exact e59
      by_cases hen : e = n
      · subst hen
        simp (disch := omega) only [f_X11_findStanding_L121, y59, ↓nM_lit, iN_lit, iN_add, iN_mul, iN_lt, iN_le, iN_eq, iN_c, gd_iN, iN_nM, nM_iN, iN_ltM, nM_lt, nM_le, iN_leM, iN_0M, nM_p1, iN_0s1, decide_true, decide_eq_true_eq, Nat.not_lt_zero, if_true, if_false, wp_some, wp_grd, wp_lb, wp_ite, wp_b1, wp_b2, wp_b3, wp_b4, wp_b5, Nat.le_refl]
        exact ⟨w1, w2, w3⟩
      · have y63 : y 63 e = M 63 e := by rw [w1 63 (by decide), hz.2.1 63 (by decide) (by decide)]
        have y66 : y 66 e = biN (st e) := by rw [w2 e (by omega)]; exact h66 e v0 (by omega)
        have nxt : ∀ v : Int32, v = biN (b && !(exB M st (e + 1) d)) → wp (f_X11_findStanding_L121 f (upo y 66 d v) v1 v2 (iN d) (iN (e + 1))) (fun q => (∀ k, k ≠ 66 → q.2 k = z k) ∧ (∀ k, k ≠ d → q.2 66 k = z 66 k) ∧ q.2 66 d = biN (b && !(exB M st n d))) := by
          intro v hv
          exact hk _ (by omega) ⟨by omega, fun k hk => by rw [upo_ne hk]; exact w1 k hk, fun k hk => by rw [up_i hk]; exact w2 k hk, by rw [up_s]; exact hv⟩
        have ex := exB_up (M := M) (st := st) (e := e) (k := d)
        rw [decide_eq_true v0, Bool.true_and] at ex
        simp (disch := omega) only [f_X11_findStanding_L121, y59, ↓nM_lit, iN_lit, iN_add, iN_mul, iN_lt, iN_le, iN_eq, iN_c, gd_iN, iN_nM, nM_iN, iN_ltM, nM_lt, nM_le, iN_leM, iN_0M, nM_p1, iN_0s1, decide_true, decide_eq_true_eq, Nat.not_lt_zero, if_true, if_false, wp_some, wp_grd, wp_lb, wp_ite, wp_b1, wp_b2, wp_b3, wp_b4, wp_b5, eq_grd, eq_lb, eq_b1, eq_b2, eq_b3, eq_b4, eq_b5, show ¬ (n ≤ e) by omega, show d < 12 by omega, show e < 12 by omega, w3, biN_0, y63, y66, true_and]
        by_cases h1 : (b && !(exB M st e d)) = false
        · rw [if_pos h1]
          refine nxt _ ?_
          rw [ex]
          cases b
          · rfl
          · have : exB M st e d = true := by cases h : exB M st e d; rw [h] at h1; cases h1; rfl
            rw [this]; rfl
        · have hb : b = true := by cases b; exact absurd rfl h1; rfl
          have hx : exB M st e d = false := by cases h : exB M st e d; rfl; rw [h, hb] at h1; exact absurd rfl h1
          rw [if_neg h1]
          by_cases h2 : M 63 e = iN d
          · rw [if_pos h2]
            by_cases h3 : st e = false
            · rw [if_pos h3]
              refine nxt _ ?_
              rw [ex, hb, hx, h3, Bool.and_false]; rfl
            · have h3' : st e = true := by cases h : st e; exact absurd h h3; rfl
              rw [if_neg h3]
              refine nxt _ ?_
              rw [ex, hb, hx, h3', decide_eq_true h2]; rfl
          · rw [if_neg h2]
            refine nxt _ ?_
            rw [ex, hb, hx, decide_eq_false h2]; rfl
    · rw [up_s]
      have : exB M st (d + 1) d = false := by
        unfold exB
        rw [List.any_eq_false]
        intro e he
        have := List.mem_range.mp he
        rw [decide_eq_false (show ¬ (d < e) by omega)]
        simp
      rw [this, Bool.not_false, Bool.and_true]
  refine wp_mono loop ?_
  rintro ⟨q1, q2⟩ ⟨a1, a2, a3⟩
  exact ⟨a1, a2, a3⟩
theorem X11_std {M y : Ob} {s n p : Nat} {L : Nat → Nat} (hM : WM M) (hs : s < 4) (hL : LB (evS M s) L) (hy : SYc M y s L) (h8 : ∃ x, QX8 x M) (e59 : M 59 0 = iN n) (hn : n ≤ 12) (hp : p < evn M s) :
    wp (f_X11_findStanding y (iN s) (iN p)) (fun z => (∀ k, k ≠ 66 → z k = y k) ∧ ∀ k, k < n → z 66 k = biN (stF M (evS M s) L (evw M s p) p n n k)) := by
  obtain ⟨h6, h9, hw⟩ := WTxt_at hM.2.1 hs
  have hw40 : evw M s p < 40 := Nat.lt_of_lt_of_le (hw p hp).1 (WLex_nw hM.1)
  have y59 : y 59 0 = iN n := by rw [hy.2.1 59 (by decide) (by decide)]; exact e59
  have eD : iN n - iN 1 = iD n := rfl
  rw [f_X11_findStanding, y59]
  simp only [wp_some, wp_grd, wp_lb, wp_ite, wp_b1, wp_b2, wp_b3, wp_b4, wp_b5, iN_lit, eD]
  refine lp_dn (F := fun f (z : Ob) j => f_X11_findStanding_L7 f z (iN s) (iN p) j) (V := fun d z => d ≤ n ∧ (∀ k, k ≠ 66 → z k = y k) ∧ ∀ k, d ≤ k → k < n → z 66 k = biN (stF M (evS M s) L (evw M s p) p n (n - d) k)) ?_ ?_ 200 n y (by omega) ⟨Nat.le_refl _, fun _ _ => rfl, fun k h1 h2 => by omega⟩
  · rintro f z ⟨-, w1, w2⟩
    simp (disch := omega) only [f_X11_findStanding_L7, ↓nM_lit, iN_lit, iN_add, iN_mul, iN_lt, iN_le, iN_eq, iN_c, gd_iN, iN_nM, nM_iN, iN_ltM, nM_lt, nM_le, iN_leM, iN_0M, nM_p1, iN_0s1, decide_true, decide_eq_true_eq, Nat.not_lt_zero, if_true, if_false, wp_some, wp_grd, wp_lb, wp_ite, wp_b1, wp_b2, wp_b3, wp_b4, wp_b5]
    exact ⟨w1, fun k hk => w2 k (Nat.zero_le k) hk⟩
  · rintro f z d ⟨hd, w1, w2⟩ hk
    have hz := SYc_66 hy w1
    have hdn : d < n := by omega
    have z60 : z 60 d = M 60 d := by rw [w1 60 (by decide), hy.2.1 60 (by decide) (by decide)]
    have z61 : z 61 d = M 61 d := by rw [w1 61 (by decide), hy.2.1 61 (by decide) (by decide)]
    have z62 : z 62 d = M 62 d := by rw [w1 62 (by decide), hy.2.1 62 (by decide) (by decide)]
    have z64 : z 64 d = M 64 d := by rw [w1 64 (by decide), hy.2.1 64 (by decide) (by decide)]
    have z65 : ∀ i, z 65 i = M 65 i := fun i => by rw [w1 65 (by decide), hy.2.1 65 (by decide) (by decide)]
    have z10 : z 10 (6 * s + p) = iN (evw M s p) := by rw [w1 10 (by decide), hy.1 10 (by decide)]; exact (hw p hp).2
    have g0 := X11_hasL hM hs hL hz (show p < 9 by omega) (M 60 d)
    have g1 := X11_hasL hM hs hL hz (show p + 1 < 9 by omega) (M 61 d)
    have g2 := X11_hasL hM hs hL hz (show p + 2 < 9 by omega) (M 62 d)
    have e1 : n - d = n - (d + 1) + 1 := by omega
    have est : ∀ k, stF M (evS M s) L (evw M s p) p n (n - d) k = if k = d then fo M (evS M s) L (evw M s p) p d && !(exB M (stF M (evS M s) L (evw M s p) p n (n - (d + 1))) n d) else stF M (evS M s) L (evw M s p) p n (n - (d + 1)) k := by
      intro k
      rw [e1, stF, show n - (n - (d + 1) + 1) = d by omega]
      by_cases h : k = d
      · rw [if_pos h, if_pos h, h]
      · rw [if_neg h, if_neg h]
    have fin := fun b => X11_exc (b := b) hz e59 hn hdn (fun e h1 h2 => w2 e (by omega) h2) (iN s) (iN p)
    have cont : ∀ b, b = fo M (evS M s) L (evw M s p) p d → wp (f_X11_findStanding_J115 z (iN s) (iN p) (iN d) (iN d) (biN b)) (fun o => if o.1 = 0 then wp (f_X11_findStanding_L7 f o.2.2 (iN s) (iN p) o.2.1) (fun q => (∀ k, k ≠ 66 → q.2 k = y k) ∧ ∀ k, k < n → q.2 66 k = biN (stF M (evS M s) L (evw M s p) p n n k)) else (∀ k, k ≠ 66 → o.2.2 k = y k) ∧ ∀ k, k < n → o.2.2 66 k = biN (stF M (evS M s) L (evw M s p) p n n k)) := by
      intro b hb
      refine wp_mono (fin b) ?_
      rintro ⟨o1, o2, o3⟩ ⟨a1, a2, a3, a4, a5⟩
      simp only at a1 a2 a3 a4 a5 ⊢
      rw [if_pos a1, a2]
      refine hk o3 ⟨by omega, fun k hk => by rw [a3 k hk]; exact w1 k hk, ?_⟩
      intro k h1 h2
      rw [est k]
      by_cases h : k = d
      · subst h; rw [if_pos rfl, a5, hb]
      · rw [if_neg h, a4 k h]; exact w2 k (by omega) h2
    have c0 : ∀ b, b = fo M (evS M s) L (evw M s p) p d → b = false → wp (f_X11_findStanding_J114 z (iN s) (iN p) (iN d) (iN d)) (fun o => if o.1 = 0 then wp (f_X11_findStanding_L7 f o.2.2 (iN s) (iN p) o.2.1) (fun q => (∀ k, k ≠ 66 → q.2 k = y k) ∧ ∀ k, k < n → q.2 66 k = biN (stF M (evS M s) L (evw M s p) p n n k)) else (∀ k, k ≠ 66 → o.2.2 k = y k) ∧ ∀ k, k < n → o.2.2 66 k = biN (stF M (evS M s) L (evw M s p) p n n k)) := by
      intro b hb h0
      have := cont b hb
      rw [h0] at this
      rw [f_X11_findStanding_J114]
      exact this
    have ez : ∀ b : Bool, (biN b = iN 0) = (b = false) := fun b => propext (biN_0 b)
    simp (disch := omega) only [f_X11_findStanding_L7, ↓nM_lit, iN_lit, iN_add, iN_mul, iN_lt, iN_le, iN_eq, iN_c, gd_iN, iN_nM, nM_iN, iN_ltM, nM_lt, nM_le, iN_leM, iN_0M, nM_p1, iN_0s1, decide_true, decide_eq_true_eq, Nat.not_lt_zero, if_true, if_false, wp_some, wp_grd, wp_lb, wp_ite, wp_b1, wp_b2, wp_b3, wp_b4, wp_b5, eq_grd, eq_lb, eq_b1, eq_b2, eq_b3, eq_b4, eq_b5, show d < 12 by omega, z60, z61, z62, g0, g1, g2, ez, f_X11_findStanding_J64, f_X11_findStanding_J65, z64, z10, show 6 * s + p < 24 by omega, show 40 * d + evw M s p < 480 by omega, z65, true_and]
    by_cases h0 : hasL (evS M s) L p (M 60 d) = false
    · rw [if_pos h0]
      exact c0 _ rfl (by unfold fo; rw [h0]; rfl)
    · have t0 : hasL (evS M s) L p (M 60 d) = true := by cases h : hasL (evS M s) L p (M 60 d); exact absurd h h0; rfl
      rw [if_neg h0]
      by_cases h1 : hasL (evS M s) L (p + 1) (M 61 d) = false
      · rw [if_pos h1]
        exact c0 _ rfl (by unfold fo; rw [h1, Bool.and_false]; rfl)
      · have t1 : hasL (evS M s) L (p + 1) (M 61 d) = true := by cases h : hasL (evS M s) L (p + 1) (M 61 d); exact absurd h h1; rfl
        rw [if_neg h1]
        by_cases h2 : hasL (evS M s) L (p + 2) (M 62 d) = false
        · rw [if_pos h2]
          exact c0 _ rfl (by unfold fo; rw [h2, Bool.and_false]; rfl)
        · have t2 : hasL (evS M s) L (p + 2) (M 62 d) = true := by cases h : hasL (evS M s) L (p + 2) (M 62 d); exact absurd h h2; rfl
          rw [if_neg h2]
          simp (disch := omega) only [↓nM_lit, iN_lit, iN_add, iN_mul, iN_lt, iN_le, iN_eq, iN_c, gd_iN, iN_nM, nM_iN, iN_ltM, nM_lt, nM_le, iN_leM, iN_0M, nM_p1, iN_0s1, decide_true, decide_eq_true_eq, Nat.not_lt_zero, if_true, if_false, show ¬ (1 = 0) by decide, if_false]
          by_cases h3 : M 64 d = iN 0
          · rw [if_pos h3]
            by_cases h4 : M 65 (40 * d + evw M s p) = iN 0
            · rw [if_pos h4]
              exact cont true (by unfold fo; rw [t0, t1, t2, decide_eq_true h3, decide_eq_true h4]; rfl)
            · rw [if_neg h4]
              exact c0 _ rfl (by unfold fo; rw [decide_eq_false h4, Bool.and_false])
          · rw [if_neg h3]
            exact c0 _ rfl (by unfold fo; rw [decide_eq_false h3, Bool.and_false, Bool.false_and])
