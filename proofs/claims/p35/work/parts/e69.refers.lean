/-- what the class holds of the sentences that are struck -/
def KS (K : Nat → Ob) (Es : Nat → Ev) (Ls : Nat → Nat → Nat) (a b : Nat) : Prop := ∀ s, a ≤ s → s < b → RL6 (K (9 + s)) (Es s) (Ls s) ∧ EvB (Es s) ∧ LB (Es s) (Ls s)
theorem X6_first {x : Ob} {E : Ev} {L : Nat → Nat} (hx : RL6 x E L) (hE : EvB E) (hL : LB E L) {p : Nat} (hp : p < eL E) (c : Int32) : f_X6_firstOf x (iN p) c = some (match fb (lf E L p c) with | none => nM | some r => iN r) := by
  have hl := lf_lt hE hL hp c
  have key : ∀ (d n r : Nat), r + d = 4 → d < n → wp (f_X6_firstOf_L10 n x (iN (lf E L p c)) (iN r)) (fun q => match nG (fun r => (lf E L p c).testBit r) d r with | none => q.1 = 1 | some k => q.1 = 2 ∧ q.2 = iN k) := by
    intro d
    induction d with
    | zero =>
      intro n r hr hn
      obtain ⟨n, rfl⟩ : ∃ m, n = m + 1 := ⟨n - 1, by omega⟩
      simp (disch := omega) only [f_X6_firstOf_L10, ↓nM_lit, iN_lit, iN_add, iN_mul, iN_lt, iN_le, iN_eq, iN_c, gd_iN, iN_nM, nM_iN, iN_ltM, nM_lt, nM_le, iN_leM, iN_0M, nM_p1, iN_0s1, decide_true, decide_eq_true_eq, Nat.not_lt_zero, if_true, if_false, wp_some, wp_grd, wp_lb, wp_ite, wp_b1, wp_b2, wp_b3, wp_b4, wp_b5, show 4 ≤ r by omega, nG]
    | succ d ih =>
      intro n r hr hn
      obtain ⟨n, rfl⟩ : ∃ m, n = m + 1 := ⟨n - 1, by omega⟩
      have ih' := ih n (r + 1) (by omega) (by omega)
      simp (disch := omega) only [f_X6_firstOf_L10, ↓nM_lit, iN_lit, iN_add, iN_mul, iN_lt, iN_le, iN_eq, iN_c, gd_iN, iN_nM, nM_iN, iN_ltM, nM_lt, nM_le, iN_leM, iN_0M, nM_p1, iN_0s1, decide_true, decide_eq_true_eq, Nat.not_lt_zero, if_true, if_false, wp_some, wp_grd, wp_lb, wp_ite, wp_b1, wp_b2, wp_b3, wp_b4, wp_b5, show ¬ (4 ≤ r) by omega, bit_0 hl (show r < 4 by omega), nG]
      by_cases hb : (lf E L p c).testBit r = true
      · simp only [hb, Bool.true_eq_false, if_true, if_false]; exact ⟨trivial, trivial⟩
      · have hb' : (lf E L p c).testBit r = false := by cases h : (lf E L p c).testBit r; rfl; exact absurd h hb
        simp only [hb', Bool.false_eq_true, if_false, if_true]; exact ih'
  obtain ⟨q, e, hq⟩ := key 4 200 0 (by omega) (by omega)
  simp (disch := omega) only [f_X6_firstOf, X6_left hx hE hL hp, ↓nM_lit, iN_lit, iN_add, iN_mul, iN_lt, iN_le, iN_eq, iN_c, gd_iN, iN_nM, nM_iN, iN_ltM, nM_lt, nM_le, iN_leM, iN_0M, nM_p1, iN_0s1, decide_true, decide_eq_true_eq, Nat.not_lt_zero, if_true, if_false, eq_grd, eq_lb, eq_b1, eq_b2, eq_b3, eq_b4, eq_b5, e]
  unfold fb
  cases hg : nG (fun r => (lf E L p c).testBit r) 4 0 with
  | none => rw [hg] at hq; simp only [hq, if_true]
  | some k => rw [hg] at hq; simp only [hq.1, show ¬ (2 = 1) by decide, if_false, hq.2]
theorem nG_ok {ok : Nat → Bool} (d : Nat) : ∀ (r k : Nat), nG ok d r = some k → ok k = true ∧ r ≤ k ∧ k < r + d := by
  induction d with
  | zero => intro r k h; cases h
  | succ d ih =>
    intro r k h
    rw [nG] at h
    split at h
    · rename_i ho; cases h; exact ⟨ho, by omega, by omega⟩
    · obtain ⟨a, b, c⟩ := ih _ _ h; exact ⟨a, by omega, by omega⟩
theorem fb_lt {E : Ev} {L : Nat → Nat} (hE : EvB E) (hL : LB E L) {p : Nat} {c : Int32} {r : Nat} (h : fb (lf E L p c) = some r) : p < eL E ∧ r < eC E p ∧ (L p).testBit r = true := by
  obtain ⟨h1, -, h3⟩ := nG_ok 4 0 r h
  by_cases hp : p < eL E
  · rw [lf, if_pos hp] at h1
    simp only [lo_bit (LB16 hE hL hp) (show r < 4 by omega), Bool.and_eq_true] at h1
    exact ⟨hp, bit_cn (hL p hp) h1.1, h1.1⟩
  · rw [lf, if_neg hp, Nat.zero_testBit] at h1; cases h1
theorem X10_sAt (K : Nat → Ob) {s : Nat} (hs : s < 4) : f_X10_sentenceAt K (iN s) = some (0, s) := by
  simp (disch := omega) only [f_X10_sentenceAt, ↓nM_lit, iN_lit, iN_add, iN_mul, iN_lt, iN_le, iN_eq, iN_c, gd_iN, iN_nM, nM_iN, iN_ltM, nM_lt, nM_le, iN_leM, iN_0M, nM_p1, iN_0s1, decide_true, decide_eq_true_eq, Nat.not_lt_zero, if_true, if_false, eq_grd, eq_lb, eq_b1, eq_b2, eq_b3, eq_b4, eq_b5, hs]
theorem X10_ahead {K0 : Nat → Ob} {Es : Nat → Ev} {Ls : Nat → Nat → Nat} {s f : Nat} (hs : s < 4) (hf : f < 64) (hK : KS K0 Es Ls (s - 2) s) (d : Nat) : ∀ (n k : Nat) (K : Nat → Ob), k + d = 3 → 1 ≤ k → d < n → (∀ i, i ≠ 4 → K i = K0 i) →
    wp (f_X10_refers_L45 n K (iN s) (iN f) (iN k)) (fun q => (∀ i, i ≠ 4 → q.2.2 i = K0 i) ∧ match fA Es Ls f d (s + 1 - k) with | none => q.1 = 1 | some t => q.1 = 2 ∧ q.2.2 4 0 0 = iN t.1 ∧ q.2.2 4 1 0 = iN t.2.1 ∧ q.2.2 4 2 0 = iN t.2.2 ∧ t.1 < 4 ∧ t.2.1 < 6 ∧ t.2.2 < 16) := by
  induction d with
  | zero =>
    intro n k K hk h1 hn hF
    obtain ⟨n, rfl⟩ : ∃ m, n = m + 1 := ⟨n - 1, by omega⟩
    simp (disch := omega) only [f_X10_refers_L45, ↓nM_lit, iN_lit, iN_add, iN_mul, iN_lt, iN_le, iN_eq, iN_c, gd_iN, iN_nM, nM_iN, iN_ltM, nM_lt, nM_le, iN_leM, iN_0M, nM_p1, iN_0s1, decide_true, decide_eq_true_eq, Nat.not_lt_zero, if_true, if_false, wp_some, wp_grd, wp_lb, wp_ite, wp_b1, wp_b2, wp_b3, wp_b4, wp_b5, show 2 < k by omega, fA]
    exact ⟨hF, trivial⟩
  | succ d ih =>
    intro n k K hk h1 hn hF
    obtain ⟨n, rfl⟩ : ∃ m, n = m + 1 := ⟨n - 1, by omega⟩
    by_cases hsk : s < k
    · simp (disch := omega) only [f_X10_refers_L45, ↓nM_lit, iN_lit, iN_add, iN_mul, iN_lt, iN_le, iN_eq, iN_c, gd_iN, iN_nM, nM_iN, iN_ltM, nM_lt, nM_le, iN_leM, iN_0M, nM_p1, iN_0s1, decide_true, decide_eq_true_eq, Nat.not_lt_zero, if_true, if_false, wp_some, wp_grd, wp_lb, wp_ite, wp_b1, wp_b2, wp_b3, wp_b4, wp_b5, show ¬ (2 < k) by omega, hsk, show s + 1 - k = 0 by omega, fA]
      exact ⟨hF, trivial⟩
    · obtain ⟨t, ht⟩ : ∃ t, s + 1 - k = t + 1 := ⟨s - k, by omega⟩
      have ht2 : s - k = t := by omega
      obtain ⟨kr, kE, kL⟩ := hK t (by omega) (by omega)
      have eK : K (9 + t) = K0 (9 + t) := hF _ (by omega)
      have e6 := kE.1
      simp (disch := omega) only [f_X10_refers_L45, ↓nM_lit, iN_lit, iN_add, iN_mul, iN_lt, iN_le, iN_eq, iN_c, gd_iN, iN_nM, nM_iN, iN_ltM, nM_lt, nM_le, iN_leM, iN_0M, nM_p1, iN_0s1, decide_true, decide_eq_true_eq, Nat.not_lt_zero, if_true, if_false, wp_some, wp_grd, wp_lb, wp_ite, wp_b1, wp_b2, wp_b3, wp_b4, wp_b5, eq_grd, eq_lb, eq_b1, eq_b2, eq_b3, eq_b4, eq_b5, show ¬ (2 < k) by omega, hsk, iN_sub (show k ≤ s by omega), ht2, X10_sAt K (show t < 4 by omega), show t < 4 by omega, true_and]
      rw [eK, kr.1]
      refine wp_mono (X5_look (x5 := K 4) kr kE kL hf t (eL (Es t)) (Nat.le_refl _)) ?_
      intro q hq
      rw [ht, fA]
      cases hg : fD (Es t) (Ls t) f (eL (Es t)) with
      | none =>
        rw [hg] at hq
        simp (disch := omega) only [hq, ↓nM_lit, iN_lit, iN_add, iN_mul, iN_lt, iN_le, iN_eq, iN_c, gd_iN, iN_nM, nM_iN, iN_ltM, nM_lt, nM_le, iN_leM, iN_0M, nM_p1, iN_0s1, decide_true, decide_eq_true_eq, Nat.not_lt_zero, if_true, if_false, wp_some, wp_grd, wp_lb, wp_ite, wp_b1, wp_b2, wp_b3, wp_b4, wp_b5]
        have := ih n (k + 1) (va_up K 4 q.2) (by omega) (by omega) (by omega) (fun i hi => by rw [vu_ne hi]; exact hF i hi)
        rw [show s + 1 - (k + 1) = t by omega] at this
        exact this
      | some u =>
        rw [hg] at hq
        obtain ⟨q1, q2, q3, q4, q5, q6⟩ := hq
        simp (disch := omega) only [q1, ↓nM_lit, iN_lit, iN_add, iN_mul, iN_lt, iN_le, iN_eq, iN_c, gd_iN, iN_nM, nM_iN, iN_ltM, nM_lt, nM_le, iN_leM, iN_0M, nM_p1, iN_0s1, decide_true, decide_eq_true_eq, Nat.not_lt_zero, if_true, if_false, wp_some, wp_grd, wp_lb, wp_ite, wp_b1, wp_b2, wp_b3, wp_b4, wp_b5, show ¬ (1 = 0) by decide, vu_eq]
        exact ⟨fun i hi => by rw [vu_ne hi]; exact hF i hi, q2, q3, q4, by omega, by omega, q6⟩
theorem X10_refers {K : Nat → Ob} {Es : Nat → Ev} {Ls : Nat → Nat → Nat} {E : Ev} {L : Nat → Nat} {s q2 : Nat} (hs : s < 4) (hK : KS K Es Ls (s - 2) s) (hx : RL6 (K (9 + q2)) E L) (hE : EvB E) (hL : LB E L) {p : Nat} (hp : p < eL E) :
    wp (f_X10_refers K (iN s) q2 (iN p)) (fun r => r.1 = 0 ∧ (∀ i, i ≠ 4 → r.2.2 i = K i) ∧ match rfO Es Ls E L s p with | none => r.2.1 = iN 0 | some t => r.2.1 = iN 1 ∧ r.2.2 4 0 0 = iN t.1 ∧ r.2.2 4 1 0 = iN t.2.1 ∧ r.2.2 4 2 0 = iN t.2.2 ∧ t.1 < 4 ∧ t.2.1 < 6 ∧ t.2.2 < 16) := by
  have h6 := hE.1
  have e1 : f_X6_firstOf (K (9 + q2)) (iN p) 1 = _ := X6_first hx hE hL hp (iN 1)
  rw [f_X10_refers, e1, rfO]
  cases hf : fb (lf E L p (iN 1)) with
  | none =>
    simp (disch := omega) only [↓nM_lit, iN_lit, iN_add, iN_mul, iN_lt, iN_le, iN_eq, iN_c, gd_iN, iN_nM, nM_iN, iN_ltM, nM_lt, nM_le, iN_leM, iN_0M, nM_p1, iN_0s1, decide_true, decide_eq_true_eq, Nat.not_lt_zero, if_true, if_false, wp_some, wp_grd, wp_lb, wp_ite, wp_b1, wp_b2, wp_b3, wp_b4, wp_b5, eq_grd, eq_lb, eq_b1, eq_b2, eq_b3, eq_b4, eq_b5]
    exact ⟨trivial, fun _ _ => trivial, trivial⟩
  | some r =>
    obtain ⟨-, hr, -⟩ := fb_lt hE hL hf
    have h4 := (hE.2 p hp).1
    have e5 := (hx.2.2 p hp r hr).2
    have e64 := ((hE.2 p hp).2 r hr).1
    have ef : f_X6_featuresOf (K (9 + q2)) (iN p) (iN r) = some (iN (eP E p r)) := by
      simp (disch := omega) only [f_X6_featuresOf, f_X6_featuresOf_J26, hx.1, ↓nM_lit, iN_lit, iN_add, iN_mul, iN_lt, iN_le, iN_eq, iN_c, gd_iN, iN_nM, nM_iN, iN_ltM, nM_lt, nM_le, iN_leM, iN_0M, nM_p1, iN_0s1, decide_true, decide_eq_true_eq, Nat.not_lt_zero, if_true, if_false, eq_grd, eq_lb, eq_b1, eq_b2, eq_b3, eq_b4, eq_b5, show ¬ (4 ≤ r) by omega, show ¬ (eL E ≤ p) by omega, show p * 4 + r < 24 by omega, show ¬ (1 = 0) by decide, e5]
    simp (disch := omega) only [↓nM_lit, iN_lit, iN_add, iN_mul, iN_lt, iN_le, iN_eq, iN_c, gd_iN, iN_nM, nM_iN, iN_ltM, nM_lt, nM_le, iN_leM, iN_0M, nM_p1, iN_0s1, decide_true, decide_eq_true_eq, Nat.not_lt_zero, if_true, if_false, wp_some, wp_grd, wp_lb, wp_ite, wp_b1, wp_b2, wp_b3, wp_b4, wp_b5, eq_grd, eq_lb, eq_b1, eq_b2, eq_b3, eq_b4, eq_b5, ef]
    refine wp_mono (X5_look (x5 := K 4) hx hE hL e64 s p (by omega)) ?_
    intro q hq
    cases hg : fD E L (eP E p r) p with
    | some u =>
      rw [hg] at hq
      obtain ⟨q1, q2, q3, q4, q5, q6⟩ := hq
      simp (disch := omega) only [q1, ↓nM_lit, iN_lit, iN_add, iN_mul, iN_lt, iN_le, iN_eq, iN_c, gd_iN, iN_nM, nM_iN, iN_ltM, nM_lt, nM_le, iN_leM, iN_0M, nM_p1, iN_0s1, decide_true, decide_eq_true_eq, Nat.not_lt_zero, if_true, if_false, wp_some, wp_grd, wp_lb, wp_ite, wp_b1, wp_b2, wp_b3, wp_b4, wp_b5, show ¬ (1 = 0) by decide, vu_eq]
      exact ⟨trivial, fun i hi => by rw [vu_ne hi], trivial, q2, q3, q4, hs, by omega, q6⟩
    | none =>
      rw [hg] at hq
      simp (disch := omega) only [hq, ↓nM_lit, iN_lit, iN_add, iN_mul, iN_lt, iN_le, iN_eq, iN_c, gd_iN, iN_nM, nM_iN, iN_ltM, nM_lt, nM_le, iN_leM, iN_0M, nM_p1, iN_0s1, decide_true, decide_eq_true_eq, Nat.not_lt_zero, if_true, if_false, wp_some, wp_grd, wp_lb, wp_ite, wp_b1, wp_b2, wp_b3, wp_b4, wp_b5]
      refine wp_mono (X10_ahead hs e64 hK 2 200 1 (va_up K 4 q.2) (by omega) (by omega) (by omega) (fun i hi => by rw [vu_ne hi])) ?_
      intro t ht
      obtain ⟨t1, t2⟩ := ht
      rw [show s + 1 - 1 = s by omega] at t2
      cases ha : fA Es Ls (eP E p r) 2 s with
      | none =>
        rw [ha] at t2
        simp only [t2, show ¬ (100 ≤ 1) by decide, if_false, if_true, wp_some, wp_grd, wp_lb, wp_ite, wp_b1, wp_b2, wp_b3, wp_b4, wp_b5]
        exact ⟨trivial, t1, trivial⟩
      | some u =>
        rw [ha] at t2
        obtain ⟨w1, w2, w3, w4, w5, w6, w7⟩ := t2
        simp only [w1, show ¬ (100 ≤ 2) by decide, show ¬ (2 = 1) by decide, if_false, wp_some, wp_grd, wp_lb, wp_ite, wp_b1, wp_b2, wp_b3, wp_b4, wp_b5]
        exact ⟨trivial, t1, trivial, w2, w3, w4, w5, w6, w7⟩
theorem gv_lt16 {Es : Nat → Ev} {Ls : Nat → Nat → Nat} {E : Ev} {L : Nat → Nat} {s p : Nat} : gvO Es Ls E L s p < 16 := by
  have hD : ∀ (E : Ev) (L : Nat → Nat) (f b : Nat) (q : Nat × Nat), fD E L f b = some q → q.2 < 16 := by
    intro E L f b
    induction b with
    | zero => intro q h; cases h
    | succ b ih =>
      intro q h
      rw [fD] at h
      split at h
      · cases h; exact Nat.mod_lt _ (by decide)
      · exact ih q h
  have hA : ∀ (f c s : Nat) (q : Nat × Nat × Nat), fA Es Ls f c s = some q → q.2.2 < 16 := by
    intro f c
    induction c with
    | zero => intro s q h; cases h
    | succ c ih =>
      intro s q h
      cases s with
      | zero => cases h
      | succ s =>
        rw [fA] at h
        split at h
        · rename_i u hu; cases h; exact hD _ _ _ _ _ hu
        · exact ih s q h
  unfold gvO
  split
  · decide
  · rename_i q hq
    rw [rfO] at hq
    split at hq
    · cases hq
    · split at hq
      · rename_i u hu; cases hq; exact hD _ _ _ _ _ hu
      · exact hA _ _ _ _ hq
/-- what is given to the words of a sentence -/
theorem X10_given {K : Nat → Ob} {Es : Nat → Ev} {Ls : Nat → Nat → Nat} {E : Ev} {L : Nat → Nat} {s q2 : Nat} (hs : s < 4) (hK : KS K Es Ls (s - 2) s) (hx : RL6 (K (9 + q2)) E L) (hE : EvB E) (hL : LB E L) :
    wp (f_X10_findGiven K (iN s) q2) (fun r => r.1 = 0 ∧ (∀ i, i ≠ 4 → i ≠ 0 → r.2 i = K i) ∧ (∀ k, k ≠ 10 → r.2 0 k = K 0 k) ∧ ∀ p, p < 6 → r.2 0 10 p = iN (gvO Es Ls E L s p)) := by
  have h6 := hE.1
  rw [f_X10_findGiven]
  simp only [wp_some, wp_grd, wp_lb, wp_ite, wp_b1, wp_b2, wp_b3, wp_b4, wp_b5]
  have key : wp (f_X10_findGiven_L2 200 K (iN s) q2 (iN 0)) (fun r => r.1 = 1 ∧ (∀ i, i ≠ 4 → i ≠ 0 → r.2.2 i = K i) ∧ (∀ k, k ≠ 10 → r.2.2 0 k = K 0 k) ∧ ∀ p, p < 6 → r.2.2 0 10 p = iN (gvO Es Ls E L s p)) := by
    refine lp_up (F := fun n (K : Nat → Ob) i => f_X10_findGiven_L2 n K (iN s) q2 i) (V := fun i K' => (∀ j, j ≠ 4 → j ≠ 0 → K' j = K j) ∧ (∀ k, k ≠ 10 → K' 0 k = K 0 k) ∧ ∀ p, p < i → K' 0 10 p = iN (gvO Es Ls E L s p)) (hi := 6) ?_ 200 0 K (by omega) (by omega) ⟨fun _ _ _ => rfl, fun _ _ => rfl, fun j hj => absurd hj (Nat.not_lt_zero j)⟩
    intro n K' i hi hv hk
    by_cases he : i = 6
    · subst he
      simp (disch := omega) only [f_X10_findGiven_L2, ↓nM_lit, iN_lit, iN_add, iN_mul, iN_lt, iN_le, iN_eq, iN_c, gd_iN, iN_nM, nM_iN, iN_ltM, nM_lt, nM_le, iN_leM, iN_0M, nM_p1, iN_0s1, decide_true, decide_eq_true_eq, Nat.not_lt_zero, if_true, if_false, wp_some, wp_grd, wp_lb, wp_ite, wp_b1, wp_b2, wp_b3, wp_b4, wp_b5, Nat.le_refl, true_and]
      exact hv
    · obtain ⟨v1, v2, v3⟩ := hv
      have e9 : K' (9 + q2) = K (9 + q2) := v1 _ (by omega) (by omega)
      have put : ∀ (K2 : Nat → Ob) (v : Int32), (∀ j, j ≠ 4 → K2 j = K' j) → v = iN (gvO Es Ls E L s i) → wp (f_X10_findGiven_L2 n (va_up K2 0 (upo (K2 0) 10 i v)) (iN s) q2 (iN (i + 1))) (fun r => r.1 = 1 ∧ (∀ i, i ≠ 4 → i ≠ 0 → r.2.2 i = K i) ∧ (∀ k, k ≠ 10 → r.2.2 0 k = K 0 k) ∧ ∀ p, p < 6 → r.2.2 0 10 p = iN (gvO Es Ls E L s p)) := by
        intro K2 v h2 hv
        refine hk _ (by omega) ⟨?_, ?_, ?_⟩
        · intro j h4 h0; rw [vu_ne h0, h2 j h4]; exact v1 j h4 h0
        · intro k h10; rw [vu_eq, upo_ne h10, h2 0 (by decide)]; exact v2 k h10
        · intro p hp
          rw [vu_eq, upo_ap]
          by_cases e : p = i
          · subst e; rw [if_pos ⟨rfl, rfl⟩]; exact hv
          · rw [if_neg (by omega), h2 0 (by decide)]; exact v3 p (by omega)
      rw [f_X10_findGiven_L2]
      by_cases hp : i < eL E
      · simp (disch := omega) only [e9, hx.1, ↓nM_lit, iN_lit, iN_add, iN_mul, iN_lt, iN_le, iN_eq, iN_c, gd_iN, iN_nM, nM_iN, iN_ltM, nM_lt, nM_le, iN_leM, iN_0M, nM_p1, iN_0s1, decide_true, decide_eq_true_eq, Nat.not_lt_zero, if_true, if_false, wp_some, wp_grd, wp_lb, wp_ite, wp_b1, wp_b2, wp_b3, wp_b4, wp_b5, show ¬ (6 ≤ i) by omega, show ¬ (eL E ≤ i) by omega]
        have hK' : KS K' Es Ls (s - 2) s := by
          intro t h1 h2; rw [v1 (9 + t) (by omega) (by omega)]; exact hK t h1 h2
        refine wp_mono (X10_refers hs hK' (by rw [e9]; exact hx) hE hL hp) ?_
        intro r hr
        obtain ⟨r1, r2, r3⟩ := hr
        cases hg : rfO Es Ls E L s i with
        | none =>
          rw [hg] at r3
          simp (disch := omega) only [r1, r3, ↓nM_lit, iN_lit, iN_add, iN_mul, iN_lt, iN_le, iN_eq, iN_c, gd_iN, iN_nM, nM_iN, iN_ltM, nM_lt, nM_le, iN_leM, iN_0M, nM_p1, iN_0s1, decide_true, decide_eq_true_eq, Nat.not_lt_zero, if_true, if_false, wp_some, wp_grd, wp_lb, wp_ite, wp_b1, wp_b2, wp_b3, wp_b4, wp_b5, show i < 6 by omega, true_and]
          exact put r.2.2 _ r2 (by unfold gvO; rw [hg])
        | some t =>
          rw [hg] at r3
          obtain ⟨w1, w2, w3, w4, w5, w6, w7⟩ := r3
          simp (disch := omega) only [r1, w1, ↓nM_lit, iN_lit, iN_add, iN_mul, iN_lt, iN_le, iN_eq, iN_c, gd_iN, iN_nM, nM_iN, iN_ltM, nM_lt, nM_le, iN_leM, iN_0M, nM_p1, iN_0s1, decide_true, decide_eq_true_eq, Nat.not_lt_zero, if_true, if_false, wp_some, wp_grd, wp_lb, wp_ite, wp_b1, wp_b2, wp_b3, wp_b4, wp_b5, show i < 6 by omega, true_and, show ¬ (1 = 0) by decide, w4]
          exact put r.2.2 _ r2 (by unfold gvO; rw [hg])
      · simp (disch := omega) only [e9, hx.1, ↓nM_lit, iN_lit, iN_add, iN_mul, iN_lt, iN_le, iN_eq, iN_c, gd_iN, iN_nM, nM_iN, iN_ltM, nM_lt, nM_le, iN_leM, iN_0M, nM_p1, iN_0s1, decide_true, decide_eq_true_eq, Nat.not_lt_zero, if_true, if_false, wp_some, wp_grd, wp_lb, wp_ite, wp_b1, wp_b2, wp_b3, wp_b4, wp_b5, show ¬ (6 ≤ i) by omega, show eL E ≤ i by omega, show i < 6 by omega, true_and]
        refine put K' _ (fun _ _ => rfl) ?_
        unfold gvO rfO
        have : lf E L i (iN 1) = 0 := by rw [lf, if_neg hp]
        rw [this]
        rfl
  refine wp_mono key ?_
  intro r hr
  simp only [hr.1, show ¬ (100 ≤ 1) by decide, if_false, wp_some, wp_grd, wp_lb, wp_ite, wp_b1, wp_b2, wp_b3, wp_b4, wp_b5]
  exact ⟨trivial, hr.2⟩
