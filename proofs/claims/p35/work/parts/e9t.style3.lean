/-! Which patterns stand: said once; by the class. -/
def hasL (E : Ev) (L : Nat → Nat) (p : Nat) (c : Int32) : Bool := decide (c = nM) || decide (lf E L p c ≠ 0)
def fo (M : Ob) (E : Ev) (L : Nat → Nat) (w p k : Nat) : Bool := hasL E L p (M 60 k) && hasL E L (p + 1) (M 61 k) && hasL E L (p + 2) (M 62 k) && decide (M 64 k = iN 0) && decide (M 65 (40 * k + w) = iN 0)
def exB (M : Ob) (st : Nat → Bool) (n k : Nat) : Bool := (List.range n).any (fun e => decide (k < e) && decide (M 63 e = iN k) && st e)
def stF (M : Ob) (E : Ev) (L : Nat → Nat) (w p n : Nat) : Nat → Nat → Bool
  | 0, _ => false
  | d + 1, k => if k = n - (d + 1) then fo M E L w p k && !(exB M (stF M E L w p n d) n k) else stF M E L w p n d k
theorem stF_no {M : Ob} {E : Ev} {L : Nat → Nat} {w p n : Nat} (d : Nat) {k : Nat} (h : k < n - d) : stF M E L w p n d k = false := by
  induction d with
  | zero => rfl
  | succ d ih => rw [stF, if_neg (by omega)]; exact ih (by omega)
theorem exB_step {M : Ob} {st st' : Nat → Bool} {n k0 i : Nat} (hk : k0 < n) (h0 : st k0 = false) (hs : ∀ e, e ≠ k0 → st' e = st e) : exB M st' n i = (exB M st n i || (decide (i < k0) && decide (M 63 k0 = iN i) && st' k0)) := by
  rw [Bool.eq_iff_iff, Bool.or_eq_true]
  unfold exB
  rw [List.any_eq_true, List.any_eq_true]
  constructor
  · rintro ⟨e, he, h⟩
    by_cases e0 : e = k0
    · subst e0; exact Or.inr h
    · rw [hs e e0] at h; exact Or.inl ⟨e, he, h⟩
  · rintro (⟨e, he, h⟩ | h)
    · by_cases e0 : e = k0
      · subst e0; rw [h0, Bool.and_false] at h; cases h
      · exact ⟨e, he, by rw [hs e e0]; exact h⟩
    · exact ⟨k0, List.mem_range.mpr hk, h⟩
theorem exB_cg {M : Ob} {st st' : Nat → Bool} {n i : Nat} (hs : ∀ e, i < e → st' e = st e) : exB M st' n i = exB M st n i := by
  unfold exB
  congr 1
  funext e
  by_cases h : i < e
  · rw [hs e h]
  · rw [decide_eq_false h, Bool.false_and, Bool.false_and, Bool.false_and]
theorem bitN {S k : Nat} (hS : S < 4096) (hk : k < 12) : ((iN S >>> (iN k &&& iN 31)) &&& iN 1 = iN 0) ↔ S.testBit k = false := by
  have hle : S / 2 ^ k ≤ S := Nat.div_le_self _ _
  rw [iN_shr (by omega) (by omega), iN_and, show (1 : Nat) = 2 ^ 1 - 1 from rfl, Nat.and_two_pow_sub_one_eq_mod, Nat.testBit_eq_decide_div_mod_eq, decide_eq_false_iff_not]
  rw [iN_eq (by omega) (by decide)]
  omega
theorem shlN {k : Nat} (hk : k < 12) : iN 1 <<< (iN k &&& iN 31) = iN (2 ^ k) := by
  have : ∀ k, k < 12 → iN 1 <<< (iN k &&& iN 31) = iN (2 ^ k) := by decide
  exact this k hk
theorem orN {S k : Nat} (hS : S < 4096) (hk : k < 12) : S ||| 2 ^ k < 4096 ∧ ∀ i, (S ||| 2 ^ k).testBit i = (S.testBit i || decide (k = i)) := by
  refine ⟨?_, fun i => by rw [Nat.testBit_or, Nat.testBit_two_pow]⟩
  have h2 : 2 ^ k < 2 ^ 12 := Nat.pow_lt_pow_right (by decide) hk
  exact Nat.or_lt_two_pow (n := 12) hS h2
theorem X6_leftC {x : Ob} {E : Ev} {L : Nat → Nat} (hx : RL6 x E L) (hE : EvB E) (hL : LB E L) (p : Nat) (hp : p < 100) (c : Int32) : f_X6_leftOf x (iN p) c = some (iN (lf E L p c)) := by
  have h6 := hE.1
  by_cases h : p < eL E
  · exact X6_left hx hE hL h c
  · rw [lf, if_neg h]
    simp (disch := omega) only [f_X6_leftOf, hx.1, ↓nM_lit, iN_lit, iN_add, iN_mul, iN_lt, iN_le, iN_eq, iN_c, gd_iN, iN_nM, nM_iN, iN_ltM, nM_lt, nM_le, iN_leM, iN_0M, nM_p1, iN_0s1, decide_true, decide_eq_true_eq, Nat.not_lt_zero, if_true, if_false, show eL E ≤ p by omega]
theorem lf16 {E : Ev} {L : Nat → Nat} (hE : EvB E) (hL : LB E L) (p : Nat) (c : Int32) : lf E L p c < 16 := by
  by_cases h : p < eL E
  · exact lf_lt hE hL h c
  · rw [lf, if_neg h]; decide
theorem X8_fits {x8 M x : Ob} {E : Ev} {L : Nat → Nat} {n w p k : Nat} (h8 : QX8 x8 M) (e59 : M 59 0 = iN n) (hn : n ≤ 12) (hx : RL6 x E L) (hE : EvB E) (hL : LB E L) (hp : p < eL E) (hw : x 1 p = iN w) (hw40 : w < 40) (hk : k < n) :
    f_X8_fits x8 x (iN k) (iN p) = some (if fo M E L w p k = true then iN 1 else iN 0) := by
  have h6 := hE.1
  obtain ⟨-, q0, q2, q3, q4⟩ := h8
  have k59 : x8 0 0 = iN n := by rw [q0]; exact e59
  have enn : nn (M 59 0) = n := by rw [e59, nn, iN_c (by omega)]
  obtain ⟨c0, c1, c2, -, -⟩ := q2 k (by rw [enn]; exact hk)
  have hpat := hasP_y k59 (show n < 2147483648 by omega) hk
  have hwd : f_X6_wordIn x (iN p) = some (iN w) := by
    simp (disch := omega) only [f_X6_wordIn, hx.1, ↓nM_lit, iN_lit, iN_add, iN_mul, iN_lt, iN_le, iN_eq, iN_c, gd_iN, iN_nM, nM_iN, iN_ltM, nM_lt, nM_le, iN_leM, iN_0M, nM_p1, iN_0s1, decide_true, decide_eq_true_eq, Nat.not_lt_zero, if_true, if_false, eq_grd, eq_lb, eq_b1, eq_b2, eq_b3, eq_b4, eq_b5, show ¬ (eL E ≤ p) by omega, show p < 6 by omega, hw]
  obtain ⟨r1, r2⟩ := q3 k (by omega)
  obtain ⟨s1, s2⟩ := q4 (40 * k + w) (by omega)
  have ekw : k * 40 + w = 40 * k + w := by omega
  have off : f_X8_isOff x8 (iN k) (iN w) = some (if M 64 k = iN 0 ∧ M 65 (40 * k + w) = iN 0 then iN 0 else iN 1) := by
    simp (disch := omega) only [f_X8_isOff, hpat, isB_y hw40 (show 40 < 2147483648 by decide), eq_grd, eq_lb, eq_b1, eq_b2, eq_b3, eq_b4, eq_b5, ↓nM_lit, iN_lit, iN_add, iN_mul, iN_lt, iN_le, iN_eq, iN_c, gd_iN, iN_nM, nM_iN, iN_ltM, nM_lt, nM_le, iN_leM, iN_0M, nM_p1, iN_0s1, decide_true, decide_eq_true_eq, Nat.not_lt_zero, if_true, if_false, show ¬ (1 = 0) by decide, if_false, show k < 12 by omega, ekw, show 40 * k + w < 480 by omega, r1, s1]
    by_cases h1 : M 64 k = iN 0
    · by_cases h2 : M 65 (40 * k + w) = iN 0
      · simp only [h1, h2, if_true, and_self]
      · simp only [h1, h2, if_true, if_false, and_false]
    · simp only [h1, if_false, false_and]
  have loop : f_X8_fits_L18 200 x8 x (iN k) (iN p) (iN 0) = (if hasL E L p (M 60 k) = true then if hasL E L (p + 1) (M 61 k) = true then if hasL E L (p + 2) (M 62 k) = true then some (1, iN 3) else some (2, iN 2) else some (2, iN 1) else some (2, iN 0)) := by
    have st : ∀ (f i : Nat) (c : Int32), i < 3 → x8 1 (3 * k + i) = c → f_X8_fits_L18 (f + 1) x8 x (iN k) (iN p) (iN i) = if hasL E L (p + i) c = true then f_X8_fits_L18 f x8 x (iN k) (iN p) (iN (i + 1)) else some (2, iN i) := by
      intro f i c hi hc
      have hlf := lf16 hE hL (p + i) c
      have e3 : k * 3 + i = 3 * k + i := by omega
      simp (disch := omega) only [f_X8_fits_L18, ↓nM_lit, iN_lit, iN_add, iN_mul, iN_lt, iN_le, iN_eq, iN_c, gd_iN, iN_nM, nM_iN, iN_ltM, nM_lt, nM_le, iN_leM, iN_0M, nM_p1, iN_0s1, decide_true, decide_eq_true_eq, Nat.not_lt_zero, if_true, if_false, eq_grd, eq_lb, eq_b1, eq_b2, eq_b3, eq_b4, eq_b5, show ¬ (3 ≤ i) by omega, e3, show 3 * k + i < 36 by omega, hc]
      by_cases h : c = nM
      · simp only [h, if_true, hasL, decide_true, Bool.true_or]
      · simp (disch := omega) only [h, if_false, X6_leftC hx hE hL (p + i) (by omega) c, eq_grd, eq_lb, eq_b1, eq_b2, eq_b3, eq_b4, eq_b5, ↓nM_lit, iN_lit, iN_add, iN_mul, iN_lt, iN_le, iN_eq, iN_c, gd_iN, iN_nM, nM_iN, iN_ltM, nM_lt, nM_le, iN_leM, iN_0M, nM_p1, iN_0s1, decide_true, decide_eq_true_eq, Nat.not_lt_zero, if_true, if_false, hasL, decide_false, Bool.false_or, decide_eq_true_eq]
        by_cases h2 : lf E L (p + i) c = 0
        · simp only [h2, if_true, ne_eq, not_true, if_false]
        · simp only [h2, if_false, ne_eq, not_false_eq_true, if_true]
    have t0 := st 199 0 _ (by decide) c0
    have t1 := st 198 1 _ (by decide) c1
    have t2 := st 197 2 _ (by decide) c2
    have t3 : f_X8_fits_L18 197 x8 x (iN k) (iN p) (iN 3) = some (1, iN 3) := by
      rw [show (197 : Nat) = 196 + 1 from rfl, f_X8_fits_L18]
      simp (disch := omega) only [↓nM_lit, iN_lit, iN_add, iN_mul, iN_lt, iN_le, iN_eq, iN_c, gd_iN, iN_nM, nM_iN, iN_ltM, nM_lt, nM_le, iN_leM, iN_0M, nM_p1, iN_0s1, decide_true, decide_eq_true_eq, Nat.not_lt_zero, if_true, if_false, Nat.le_refl]
    rw [show (200 : Nat) = 199 + 1 from rfl, t0, Nat.add_zero]
    rw [show (199 : Nat) = 198 + 1 from rfl] at t0 ⊢
    rw [show 0 + 1 = 1 from rfl, t1]
    rw [show (198 : Nat) = 197 + 1 from rfl, show 1 + 1 = 2 from rfl, t2, show 2 + 1 = 3 from rfl, t3]
  have loop' : f_X8_fits_L18 200 x8 x (iN k) (iN p) 0 = _ := loop
  rw [f_X8_fits, hwd, eq_b1, off, eq_b1]
  by_cases h1 : M 64 k = iN 0 ∧ M 65 (40 * k + w) = iN 0
  · rw [if_pos h1, if_pos (show iN 0 = 0 from rfl), loop']
    unfold fo
    rw [decide_eq_true h1.1, decide_eq_true h1.2, Bool.and_true, Bool.and_true]
    by_cases g0 : hasL E L p (M 60 k) = true
    · rw [if_pos g0, g0, Bool.true_and]
      by_cases g1 : hasL E L (p + 1) (M 61 k) = true
      · rw [if_pos g1, g1, Bool.true_and]
        by_cases g2 : hasL E L (p + 2) (M 62 k) = true
        · rw [if_pos g2, if_pos g2]; rfl
        · rw [if_neg g2, if_neg g2]; rfl
      · rw [if_neg g1]
        have : hasL E L (p + 1) (M 61 k) = false := by cases h : hasL E L (p + 1) (M 61 k); rfl; exact absurd h g1
        rw [this]; rfl
    · rw [if_neg g0]
      have : hasL E L p (M 60 k) = false := by cases h : hasL E L p (M 60 k); rfl; exact absurd h g0
      rw [this]; rfl
  · rw [if_neg h1, if_neg (show ¬ (iN 1 = 0) by decide)]
    have : fo M E L w p k = false := by
      unfold fo
      by_cases h2 : M 64 k = iN 0
      · have h3 : ¬ (M 65 (40 * k + w) = iN 0) := fun h => h1 ⟨h2, h⟩
        rw [decide_eq_false h3, Bool.and_false]
      · rw [decide_eq_false h2, Bool.and_false, Bool.false_and]
    rw [this]; rfl
/-- the class's sets at a place -/
theorem X8_stand {x8 M x : Ob} {E : Ev} {L : Nat → Nat} {n w p : Nat} (h8 : QX8 x8 M) (e59 : M 59 0 = iN n) (hn : n ≤ 12) (hx : RL6 x E L) (hE : EvB E) (hL : LB E L) (hp : p < eL E) (hw : x 1 p = iN w) (hw40 : w < 40) :
    wp (f_X8_standing x8 x (iN p)) (fun r => ∃ F, F < 4096 ∧ r = iN F ∧ ∀ k, k < 12 → F.testBit k = (decide (k < n) && decide (M 63 k = nM) && stF M E L w p n n k)) := by
  obtain ⟨-, q0, q2, q3, q4⟩ := id h8
  have k59 : x8 0 0 = iN n := by rw [q0]; exact e59
  have enn : nn (M 59 0) = n := by rw [e59, nn, iN_c (by omega)]
  have eD : iN n - iN 1 = iD n := rfl
  rw [f_X8_standing, k59]
  simp only [wp_some, wp_grd, wp_lb, wp_ite, wp_b1, wp_b2, wp_b3, wp_b4, wp_b5, iN_lit, eD]
  refine lp_dn (F := fun f (s : Int32 × Int32) j => f_X8_standing_L13 f x8 x (iN p) s.1 s.2 j) (V := fun d s => d ≤ n ∧ ∃ S F, s = (iN S, iN F) ∧ S < 4096 ∧ F < 4096 ∧ (∀ i, i < d → S.testBit i = exB M (stF M E L w p n (n - d)) n i) ∧ ∀ k, k < 12 → F.testBit k = (decide (d ≤ k) && decide (k < n) && decide (M 63 k = nM) && stF M E L w p n (n - d) k)) ?_ ?_ 200 n (iN 0, iN 0) (by omega) ⟨Nat.le_refl _, 0, 0, rfl, by decide, by decide, ?_, ?_⟩
  · rintro f s ⟨-, S, F, e, hS, hF, -, hFb⟩
    subst e
    simp (disch := omega) only [f_X8_standing_L13, ↓nM_lit, iN_lit, iN_add, iN_mul, iN_lt, iN_le, iN_eq, iN_c, gd_iN, iN_nM, nM_iN, iN_ltM, nM_lt, nM_le, iN_leM, iN_0M, nM_p1, iN_0s1, decide_true, decide_eq_true_eq, Nat.not_lt_zero, if_true, if_false, wp_some, wp_grd, wp_lb, wp_ite, wp_b1, wp_b2, wp_b3, wp_b4, wp_b5]
    refine ⟨F, hF, rfl, ?_⟩
    intro k hk
    rw [hFb k hk, decide_eq_true (Nat.zero_le k), Bool.true_and, Nat.sub_zero]
  · rintro f s d ⟨hd, S, F, e, hS, hF, hSb, hFb⟩ hk
    subst e
    have hdn : d < n := by omega
    have hfit := X8_fits h8 e59 hn hx hE hL hp hw hw40 hdn
    obtain ⟨-, -, -, c3, c4⟩ := q2 d (by rw [enn]; exact hdn)
    have e1 : n - d = n - (d + 1) + 1 := by omega
    have est : ∀ k, stF M E L w p n (n - d) k = if k = d then fo M E L w p d && !(exB M (stF M E L w p n (n - (d + 1))) n d) else stF M E L w p n (n - (d + 1)) k := by
      intro k
      rw [e1, stF, show n - (n - (d + 1) + 1) = d by omega]
      by_cases h : k = d
      · rw [if_pos h, if_pos h, h]
      · rw [if_neg h, if_neg h]
    have hno : stF M E L w p n (n - (d + 1)) d = false := stF_no _ (by omega)
    have hex : ∀ i, exB M (stF M E L w p n (n - d)) n i = (exB M (stF M E L w p n (n - (d + 1))) n i || (decide (i < d) && decide (M 63 d = iN i) && stF M E L w p n (n - d) d)) := fun i => exB_step hdn hno (fun e he => by rw [est, if_neg he])
    have estd := est d
    rw [if_pos rfl] at estd
    simp (disch := omega) only [f_X8_standing_L13, ↓nM_lit, iN_lit, iN_add, iN_mul, iN_lt, iN_le, iN_eq, iN_c, gd_iN, iN_nM, nM_iN, iN_ltM, nM_lt, nM_le, iN_leM, iN_0M, nM_p1, iN_0s1, decide_true, decide_eq_true_eq, Nat.not_lt_zero, if_true, if_false, wp_some, wp_grd, wp_lb, wp_ite, wp_b1, wp_b2, wp_b3, wp_b4, wp_b5, eq_grd, eq_lb, eq_b1, eq_b2, eq_b3, eq_b4, eq_b5, bitN hS (show d < 12 by omega), iD_pM]
    -- the next state, when the pattern does not stand
    have stay : stF M E L w p n (n - d) d = false → wp (f_X8_standing_L13 f x8 x (iN p) (iN S) (iN F) (iD d)) (fun r => ∃ F, F < 4096 ∧ r.2.1 = iN F ∧ ∀ k, k < 12 → F.testBit k = (decide (k < n) && decide (M 63 k = nM) && stF M E L w p n n k)) := by
      intro h0
      refine hk (iN S, iN F) ⟨by omega, S, F, rfl, hS, hF, ?_, ?_⟩
      · intro i hi
        rw [hex i, h0, Bool.and_false, Bool.or_false]; exact hSb i (by omega)
      · intro k hk12
        rw [hFb k hk12, est k]
        by_cases h : k = d
        · subst h
          rw [if_pos rfl, ← estd, h0, hno, Bool.and_false, Bool.and_false]
        · rw [if_neg h]
          by_cases h2 : d ≤ k
          · rw [decide_eq_true h2, decide_eq_true (show d + 1 ≤ k by omega)]
          · rw [decide_eq_false h2, decide_eq_false (show ¬ (d + 1 ≤ k) by omega)]
    by_cases hb : S.testBit d = true
    · rw [if_neg (by rw [hb]; decide)]
      refine stay ?_
      rw [estd, ← hSb d (Nat.lt_succ_self d), hb, Bool.not_true, Bool.and_false]
    · have hb' : S.testBit d = false := by cases h : S.testBit d; rfl; exact absurd h hb
      rw [if_pos hb']
      have efo : stF M E L w p n (n - d) d = fo M E L w p d := by
        rw [estd, ← hSb d (Nat.lt_succ_self d), hb', Bool.not_false, Bool.and_true]
      by_cases hf : fo M E L w p d = true
      · rw [if_pos hf] at hfit
        simp only [hfit, eq_grd, eq_lb, eq_b1, eq_b2, eq_b3, eq_b4, eq_b5]
        have hst : stF M E L w p n (n - d) d = true := by rw [efo]; exact hf
        simp (disch := omega) only [↓nM_lit, iN_lit, iN_add, iN_mul, iN_lt, iN_le, iN_eq, iN_c, gd_iN, iN_nM, nM_iN, iN_ltM, nM_lt, nM_le, iN_leM, iN_0M, nM_p1, iN_0s1, decide_true, decide_eq_true_eq, Nat.not_lt_zero, if_true, if_false, show ¬ (1 = 0) by decide, if_false, eq_grd, eq_lb, eq_b1, eq_b2, eq_b3, eq_b4, eq_b5, wp_some, wp_grd, wp_lb, wp_ite, wp_b1, wp_b2, wp_b3, wp_b4, wp_b5, show d < 12 by omega, c3, true_and]
        rcases c4 with c4 | ⟨b, hbd, c4⟩
        · obtain ⟨o1, o2⟩ := orN hF (show d < 12 by omega)
          simp (disch := omega) only [c4, if_true, shlN (show d < 12 by omega), iN_or]
          refine hk (iN S, iN (F ||| 2 ^ d)) ⟨by omega, S, F ||| 2 ^ d, rfl, hS, o1, ?_, ?_⟩
          · intro i hi
            have : ¬ (M 63 d = iN i) := by rw [c4, nM_iN (by omega)]; exact id
            rw [hex i, decide_eq_false this, Bool.and_false, Bool.false_and, Bool.or_false]; exact hSb i (by omega)
          · intro k hk12
            rw [o2 k, hFb k hk12, est k]
            by_cases h : k = d
            · subst h
              rw [if_pos rfl, ← estd, hst, decide_eq_true rfl, decide_eq_true (Nat.le_refl k), decide_eq_true hdn, decide_eq_true c4, Bool.or_true]; rfl
            · rw [if_neg h, decide_eq_false (show ¬ (d = k) from fun e => h e.symm), Bool.or_false]
              by_cases h2 : d ≤ k
              · rw [decide_eq_true h2, decide_eq_true (show d + 1 ≤ k by omega)]
              · rw [decide_eq_false h2, decide_eq_false (show ¬ (d + 1 ≤ k) by omega)]
        · obtain ⟨o1, o2⟩ := orN hS (show b < 12 by omega)
          have hne : ¬ (iN b = nM) := by rw [iN_nM (by omega)]; exact id
          simp (disch := omega) only [c4, hne, if_false, shlN (show b < 12 by omega), iN_or]
          refine hk (iN (S ||| 2 ^ b), iN F) ⟨by omega, S ||| 2 ^ b, F, rfl, o1, hF, ?_, ?_⟩
          · intro i hi
            rw [o2 i, hex i, hst, Bool.and_true, decide_eq_true hi, Bool.true_and, hSb i (by omega), c4]
            congr 1
            by_cases h : b = i
            · subst h; rw [decide_eq_true rfl, decide_eq_true rfl]
            · rw [decide_eq_false h, decide_eq_false (by rw [iN_eq (by omega) (by omega)]; exact h)]
          · intro k hk12
            rw [hFb k hk12, est k]
            by_cases h : k = d
            · subst h
              rw [decide_eq_false (show ¬ (M 63 k = nM) from by rw [c4]; exact hne), Bool.and_false, Bool.and_false, Bool.false_and, Bool.false_and]
            · rw [if_neg h]
              by_cases h2 : d ≤ k
              · rw [decide_eq_true h2, decide_eq_true (show d + 1 ≤ k by omega)]
              · rw [decide_eq_false h2, decide_eq_false (show ¬ (d + 1 ≤ k) by omega)]
      · have hf' : fo M E L w p d = false := by cases h : fo M E L w p d; rfl; exact absurd h hf
        rw [if_neg hf] at hfit
        simp (disch := omega) only [hfit, wp_some, wp_grd, wp_lb, wp_ite, wp_b1, wp_b2, wp_b3, wp_b4, wp_b5, eq_grd, eq_lb, eq_b1, eq_b2, eq_b3, eq_b4, eq_b5, ↓nM_lit, iN_lit, iN_add, iN_mul, iN_lt, iN_le, iN_eq, iN_c, gd_iN, iN_nM, nM_iN, iN_ltM, nM_lt, nM_le, iN_leM, iN_0M, nM_p1, iN_0s1, decide_true, decide_eq_true_eq, Nat.not_lt_zero, if_true, if_false, if_true]
        exact stay (by rw [efo]; exact hf')
  · intro i hi
    rw [Nat.zero_testBit, Nat.sub_self]
    symm
    unfold exB
    rw [List.any_eq_false]
    intro e _
    rw [show stF M E L w p n 0 e = false from rfl, Bool.and_false]
    decide
  · intro k hk
    rw [Nat.zero_testBit, Nat.sub_self, show stF M E L w p n 0 k = false from rfl, Bool.and_false]
