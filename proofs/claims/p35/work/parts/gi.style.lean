/-! The law's faults of style. -/
theorem bitN1 {S k : Nat} (hS : S < 4096) (hk : k < 12) : ((iN S >>> (iN k &&& iN 31)) &&& iN 1 = iN 1) ↔ S.testBit k = true := by
  have hle : S / 2 ^ k ≤ S := Nat.div_le_self _ _
  rw [iN_shr (by omega) (by omega), iN_and, show (1 : Nat) = 2 ^ 1 - 1 from rfl, Nat.and_two_pow_sub_one_eq_mod, Nat.testBit_eq_decide_div_mod_eq, decide_eq_true_eq]
  rw [iN_eq (by omega) (by decide)]
def ptM (M : Ob) (k i : Nat) : Int32 := if i = 0 then M 60 k else if i = 1 then M 61 k else M 62 k
def hsK (M : Ob) (E : Ev) (L : Nat → Nat) (p k : Nat) (b : Bool) : Nat → Bool
  | 0 => b
  | i + 1 => hsK M E L p k b i && hasL E L (p + i) (ptM M k i)
theorem lf_out {E : Ev} {L : Nat → Nat} {p : Nat} {c : Int32} (h : eL E ≤ p) : lf E L p c = 0 := by rw [lf, if_neg (by omega)]
theorem L_std42 {c w u x l pr kr : Rw} {M : Ob} {L : Nat → Nat} {s p k : Nat} (h : LW0 c w u x M) (hP : LXp c pr kr M) (hs : s < 2) (hl : RLl l M s L) (hL : LB (evS M s) L) (hp : p < evn M s) (hk : k < nn (M 59 0)) (b : Bool) :
    wp (f_L_stands_L42 400 c w u x l pr kr (iN s) (iN p) (iN k) (biN b) (iN 0)) (fun r => r.1 = biN (hsK M (evS M s) L p k b 3)) := by
  obtain ⟨n3, e8, -, -⟩ := LX_t h.2.2.2 hs
  have hE := LW_E h hs
  obtain ⟨m, hm, -, e59, hi, -⟩ := hP
  have hkm : k < m := by rw [e59, nn, iN_c (by omega)] at hk; exact hk
  obtain ⟨q0, q1, q2, -, c0, c1, c2⟩ := hi k hkm
  have hcat : ∀ i, i < 3 → pr (5 * k + i) = ptM M k i ∧ cat0 (ptM M k i) := by
    intro i hi3
    rcases (show i = 0 ∨ i = 1 ∨ i = 2 by omega) with rfl | rfl | rfl
    · exact ⟨q0, c0⟩
    · exact ⟨q1, c1⟩
    · exact ⟨q2, c2⟩
  refine lp_up (F := fun f (Z : Int32) i => f_L_stands_L42 f c w u x l pr kr (iN s) (iN p) (iN k) Z i) (V := fun i Z => Z = biN (hsK M (evS M s) L p k b i)) (hi := 3) ?_ 400 0 (biN b) (by omega) (by omega) rfl
  intro f Z i hi3 hV hkk
  subst hV
  by_cases he : i = 3
  · subst he
    simp (disch := omega) only [f_L_stands_L42, ↓nM_lit, iN_lit, iN_add, iN_mul, iN_lt, iN_le, iN_eq, iN_c, gd_iN, iN_nM, nM_iN, iN_ltM, nM_lt, nM_le, iN_leM, iN_0M, nM_p1, iN_0s1, decide_true, decide_eq_true_eq, Nat.not_lt_zero, if_true, if_false, wp_some, wp_grd, wp_lb, wp_ite, wp_b1, wp_b2, wp_b3, wp_b4, wp_b5, ↓reduceIte, wp_b6, wp_b7, wp_b8, wp_b9, Nat.le_refl]
  · have hi' : i < 3 := by omega
    obtain ⟨ep, ec⟩ := hcat i hi'
    have nxt : hsK M (evS M s) L p k b (i + 1) = (hsK M (evS M s) L p k b i && hasL (evS M s) L (p + i) (ptM M k i)) := rfl
    cases hb : hsK M (evS M s) L p k b i with
    | false =>
      rw [hb, Bool.false_and] at nxt
      have e0 : biN false = iN 0 := rfl
      simp (disch := omega) only [f_L_stands_L42, ↓nM_lit, iN_lit, iN_add, iN_mul, iN_lt, iN_le, iN_eq, iN_c, gd_iN, iN_nM, nM_iN, iN_ltM, nM_lt, nM_le, iN_leM, iN_0M, nM_p1, iN_0s1, decide_true, decide_eq_true_eq, Nat.not_lt_zero, if_true, if_false, wp_some, wp_grd, wp_lb, wp_ite, wp_b1, wp_b2, wp_b3, wp_b4, wp_b5, ↓reduceIte, wp_b6, wp_b7, wp_b8, wp_b9, show ¬ (3 ≤ i) by omega, show 5 * k + i < 30 by omega, e0, true_and]
      exact hkk _ hi' (by rw [nxt]; rfl)
    | true =>
      rw [hb, Bool.true_and] at nxt
      have e0 : biN true = iN 1 := rfl
      rcases ec with ec | ⟨a, ha, ec⟩
      · have hh : hasL (evS M s) L (p + i) (ptM M k i) = true := by rw [hasL, decide_eq_true ec, Bool.true_or]
        simp (disch := omega) only [f_L_stands_L42, ↓nM_lit, iN_lit, iN_add, iN_mul, iN_lt, iN_le, iN_eq, iN_c, gd_iN, iN_nM, nM_iN, iN_ltM, nM_lt, nM_le, iN_leM, iN_0M, nM_p1, iN_0s1, decide_true, decide_eq_true_eq, Nat.not_lt_zero, if_true, if_false, wp_some, wp_grd, wp_lb, wp_ite, wp_b1, wp_b2, wp_b3, wp_b4, wp_b5, ↓reduceIte, wp_b6, wp_b7, wp_b8, wp_b9, show ¬ (3 ≤ i) by omega, show 5 * k + i < 30 by omega, e0, ep, ec, show ¬ (1 = 0) by omega, show (nM < iN 0) ↔ True by exact ⟨fun _ => trivial, fun _ => by decide⟩, true_and]
        exact hkk _ hi' (by rw [nxt, hh]; rfl)
      · have hne : ¬ (ptM M k i = nM) := by rw [ec, iN_nM (by omega)]; exact id
        by_cases hpi : p + i < evn M s
        · have hlf := L_left h hs hl hL hpi (ptM M k i)
          have hl16 := lf16 hE hL (p + i) (ptM M k i)
          rw [ec] at hlf
          rw [ec] at hl16
          by_cases hz : lf (evS M s) L (p + i) (iN a) = 0
          · have hh : hasL (evS M s) L (p + i) (ptM M k i) = false := by rw [hasL, decide_eq_false hne, Bool.false_or, ec, hz]; rfl
            simp (disch := omega) only [f_L_stands_L42, ↓nM_lit, iN_lit, iN_add, iN_mul, iN_lt, iN_le, iN_eq, iN_c, gd_iN, iN_nM, nM_iN, iN_ltM, nM_lt, nM_le, iN_leM, iN_0M, nM_p1, iN_0s1, decide_true, decide_eq_true_eq, Nat.not_lt_zero, if_true, if_false, wp_some, wp_grd, wp_lb, wp_ite, wp_b1, wp_b2, wp_b3, wp_b4, wp_b5, ↓reduceIte, wp_b6, wp_b7, wp_b8, wp_b9, show ¬ (3 ≤ i) by omega, show 5 * k + i < 30 by omega, e0, ep, ec, show ¬ (1 = 0) by omega, show ¬ (a < 0) by omega, show 8 + s < 12 by omega, e8, show ¬ (evn M s ≤ p + i) by omega, show 3 * s + p + i = 3 * s + (p + i) by omega, hlf, hz, Nat.le_refl, true_and]
            exact hkk _ hi' (by rw [nxt, hh]; rfl)
          · have hh : hasL (evS M s) L (p + i) (ptM M k i) = true := by rw [hasL, ec, decide_eq_true hz, Bool.or_true]
            simp (disch := omega) only [f_L_stands_L42, ↓nM_lit, iN_lit, iN_add, iN_mul, iN_lt, iN_le, iN_eq, iN_c, gd_iN, iN_nM, nM_iN, iN_ltM, nM_lt, nM_le, iN_leM, iN_0M, nM_p1, iN_0s1, decide_true, decide_eq_true_eq, Nat.not_lt_zero, if_true, if_false, wp_some, wp_grd, wp_lb, wp_ite, wp_b1, wp_b2, wp_b3, wp_b4, wp_b5, ↓reduceIte, wp_b6, wp_b7, wp_b8, wp_b9, show ¬ (3 ≤ i) by omega, show 5 * k + i < 30 by omega, e0, ep, ec, show ¬ (1 = 0) by omega, show ¬ (a < 0) by omega, show 8 + s < 12 by omega, e8, show ¬ (evn M s ≤ p + i) by omega, show 3 * s + p + i = 3 * s + (p + i) by omega, hlf, show ¬ (lf (evS M s) L (p + i) (iN a) ≤ 0) by omega, true_and]
            exact hkk _ hi' (by rw [nxt, hh]; rfl)
        · have hh : hasL (evS M s) L (p + i) (ptM M k i) = false := by rw [hasL, decide_eq_false hne, Bool.false_or, lf_out (by rw [evS_L]; omega)]; rfl
          simp (disch := omega) only [f_L_stands_L42, ↓nM_lit, iN_lit, iN_add, iN_mul, iN_lt, iN_le, iN_eq, iN_c, gd_iN, iN_nM, nM_iN, iN_ltM, nM_lt, nM_le, iN_leM, iN_0M, nM_p1, iN_0s1, decide_true, decide_eq_true_eq, Nat.not_lt_zero, if_true, if_false, wp_some, wp_grd, wp_lb, wp_ite, wp_b1, wp_b2, wp_b3, wp_b4, wp_b5, ↓reduceIte, wp_b6, wp_b7, wp_b8, wp_b9, show ¬ (3 ≤ i) by omega, show 5 * k + i < 30 by omega, e0, ep, ec, show ¬ (1 = 0) by omega, show ¬ (a < 0) by omega, show 8 + s < 12 by omega, e8, show evn M s ≤ p + i by omega, true_and]
          exact hkk _ hi' (by rw [nxt, hh]; rfl)
theorem L_stands {c w u x l pr kr : Rw} {M : Ob} {L : Nat → Nat} {s p k : Nat} (h : LW0 c w u x M) (hP : LXp c pr kr M) (hs : s < 2) (hl : RLl l M s L) (hL : LB (evS M s) L) (hp : p < evn M s) (hk : k < nn (M 59 0)) :
    f_L_stands c w u x l pr kr (iN s) (iN p) (iN k) = some (biN (fo M (evS M s) L (evw M s p) p k)) := by
  obtain ⟨n3, -, -, -⟩ := LX_t h.2.2.2 hs
  have key := L_std42 h hP hs hl hL hp hk
  obtain ⟨m, hm, -, e59, hi, hoff⟩ := hP
  have hkm : k < m := by rw [e59, nn, iN_c (by omega)] at hk; exact hk
  obtain ⟨o4, S, hS, eS, hw⟩ := hoff k (by omega)
  obtain ⟨ex, hwd, -, -, -⟩ := LW_at h hs hp
  obtain ⟨n6, -⟩ := LXw_n h.2.2.1
  have ew := hw (evw M s p) (by omega)
  have hJ : ∀ b : Bool, f_L_stands_J37 c w u x l pr kr (iN s) (iN p) (iN k) (biN b) = some (biN (hsK M (evS M s) L p k b 3)) := by
    intro b
    obtain ⟨r, er, h1⟩ := key b
    have er' : f_L_stands_L42 400 c w u x l pr kr (iN s) (iN p) (iN k) (biN b) 0 = some r := er
    rw [f_L_stands_J37, er', eq_b2, h1, biN_isb]; rfl
  have h3 : ∀ b, hsK M (evS M s) L p k b 3 = (b && hasL (evS M s) L p (M 60 k) && hasL (evS M s) L (p + 1) (M 61 k) && hasL (evS M s) L (p + 2) (M 62 k)) := fun b => rfl
  have efo : fo M (evS M s) L (evw M s p) p k = hsK M (evS M s) L p k (decide (M 64 k = iN 0) && decide (M 65 (40 * k + evw M s p) = iN 0)) 3 := by
    rw [h3, fo]
    cases hasL (evS M s) L p (M 60 k) <;> cases hasL (evS M s) L (p + 1) (M 61 k) <;> cases hasL (evS M s) L (p + 2) (M 62 k) <;> cases decide (M 64 k = iN 0) <;> cases decide (M 65 (40 * k + evw M s p) = iN 0) <;> rfl
  rw [efo]
  have hbit : ((iN S >>> (iN (evw M s p) &&& iN 31)) &&& iN 1 = iN 0) ↔ M 65 (40 * k + evw M s p) = iN 0 := by
    rw [bitN (show S < 4096 by omega) (show evw M s p < 12 by omega), ew, biN_0]
  by_cases h64 : M 64 k = iN 0
  · by_cases h65 : M 65 (40 * k + evw M s p) = iN 0
    · have hb := hbit.2 h65
      simp (disch := omega) only [f_L_stands, ↓nM_lit, iN_lit, iN_add, iN_mul, iN_lt, iN_le, iN_eq, iN_c, gd_iN, iN_nM, nM_iN, iN_ltM, nM_lt, nM_le, iN_leM, iN_0M, nM_p1, iN_0s1, decide_true, decide_eq_true_eq, Nat.not_lt_zero, if_true, if_false, wp_some, wp_grd, wp_lb, wp_ite, wp_b1, wp_b2, wp_b3, wp_b4, wp_b5, ↓reduceIte, wp_b6, wp_b7, wp_b8, wp_b9, eq_grd, eq_lb, eq_b1, eq_b2, eq_b3, eq_b4, eq_b5, eq_b6, eq_b7, eq_b8, eq_b9, show 5 * k + 4 < 30 by omega, o4, h64, show k < 6 by omega, show 3 * s + p < 6 by omega, eS, ex, hb]
      rw [h65, decide_eq_true rfl]
      exact hJ true
    · have hb : ¬ _ := fun hh => h65 (hbit.1 hh)
      simp (disch := omega) only [f_L_stands, f_L_stands_J36, ↓nM_lit, iN_lit, iN_add, iN_mul, iN_lt, iN_le, iN_eq, iN_c, gd_iN, iN_nM, nM_iN, iN_ltM, nM_lt, nM_le, iN_leM, iN_0M, nM_p1, iN_0s1, decide_true, decide_eq_true_eq, Nat.not_lt_zero, if_true, if_false, wp_some, wp_grd, wp_lb, wp_ite, wp_b1, wp_b2, wp_b3, wp_b4, wp_b5, ↓reduceIte, wp_b6, wp_b7, wp_b8, wp_b9, eq_grd, eq_lb, eq_b1, eq_b2, eq_b3, eq_b4, eq_b5, eq_b6, eq_b7, eq_b8, eq_b9, show 5 * k + 4 < 30 by omega, o4, h64, show k < 6 by omega, show 3 * s + p < 6 by omega, eS, ex, hb]
      rw [decide_eq_false h65, Bool.and_false]
      exact hJ false
  · simp (disch := omega) only [f_L_stands, f_L_stands_J36, ↓nM_lit, iN_lit, iN_add, iN_mul, iN_lt, iN_le, iN_eq, iN_c, gd_iN, iN_nM, nM_iN, iN_ltM, nM_lt, nM_le, iN_leM, iN_0M, nM_p1, iN_0s1, decide_true, decide_eq_true_eq, Nat.not_lt_zero, if_true, if_false, wp_some, wp_grd, wp_lb, wp_ite, wp_b1, wp_b2, wp_b3, wp_b4, wp_b5, ↓reduceIte, wp_b6, wp_b7, wp_b8, wp_b9, eq_grd, eq_lb, eq_b1, eq_b2, eq_b3, eq_b4, eq_b5, eq_b6, eq_b7, eq_b8, eq_b9, show 5 * k + 4 < 30 by omega, o4, h64]
    first | exact hJ false | (simp only [decide_false, Bool.false_and]; exact hJ false)
theorem exB_0 {M : Ob} {st : Nat → Bool} {k : Nat} : exB M st (k + 1) k = false := by
  unfold exB
  rw [List.any_eq_false]
  intro e he
  rw [decide_eq_false (show ¬ (k < e) by have := List.mem_range.mp he; omega), Bool.false_and, Bool.false_and]
  decide
/-- no exception of it stands -/
theorem L_sty60 {c w u x l pr kr z : Rw} {M : Ob} {s p k n F : Nat} (hP : LXp c pr kr M) (h63 : ∀ k, k < n → M 63 k = nM ∨ ∃ b, b < k ∧ M 63 k = iN b) (en : nn (M 59 0) = n) (hk : k < n) {st : Nat → Bool} (hF : F < 4096) (hst : ∀ e, k < e → e < n → F.testBit e = st e) (b : Bool) (v8 v9 v10 : Int32) :
    wp (f_L_style_L60 400 c w u x l pr kr z v8 v9 v10 (iN F) (iN k) (biN b) (iN (k + 1))) (fun r => r.1 = biN (b && !(exB M st n k))) := by
  obtain ⟨m, hm, e3, e59, hi, -⟩ := hP
  have emn : m = n := by rw [← en, e59, nn, iN_c (by omega)]
  subst emn
  refine lp_up (F := fun f (Z : Int32) i => f_L_style_L60 f c w u x l pr kr z v8 v9 v10 (iN F) (iN k) Z i) (V := fun i Z => k < i ∧ Z = biN (b && !(exB M st i k))) (hi := m) ?_ 400 (k + 1) (biN b) (by omega) (by omega) ⟨by omega, by rw [exB_0, Bool.not_false, Bool.and_true]⟩
  rintro f Z i him ⟨hki, hV⟩ hkk
  subst hV
  by_cases he : i = m
  · subst he
    simp (disch := omega) only [f_L_style_L60, ↓nM_lit, iN_lit, iN_add, iN_mul, iN_lt, iN_le, iN_eq, iN_c, gd_iN, iN_nM, nM_iN, iN_ltM, nM_lt, nM_le, iN_leM, iN_0M, nM_p1, iN_0s1, decide_true, decide_eq_true_eq, Nat.not_lt_zero, if_true, if_false, wp_some, wp_grd, wp_lb, wp_ite, wp_b1, wp_b2, wp_b3, wp_b4, wp_b5, ↓reduceIte, wp_b6, wp_b7, wp_b8, wp_b9, e3, Nat.le_refl]
  · have hi' : i < m := by omega
    obtain ⟨-, -, -, q3, -⟩ := hi i hi'
    have nxt : exB M st (i + 1) k = (exB M st i k || (decide (M 63 i = iN k) && F.testBit i)) := by
      rw [exB_up, decide_eq_true hki, Bool.true_and, hst i hki hi']
    cases hb : (b && !(exB M st i k)) with
    | false =>
      have e0 : biN false = iN 0 := rfl
      simp (disch := omega) only [f_L_style_L60, ↓nM_lit, iN_lit, iN_add, iN_mul, iN_lt, iN_le, iN_eq, iN_c, gd_iN, iN_nM, nM_iN, iN_ltM, nM_lt, nM_le, iN_leM, iN_0M, nM_p1, iN_0s1, decide_true, decide_eq_true_eq, Nat.not_lt_zero, if_true, if_false, wp_some, wp_grd, wp_lb, wp_ite, wp_b1, wp_b2, wp_b3, wp_b4, wp_b5, ↓reduceIte, wp_b6, wp_b7, wp_b8, wp_b9, e3, show ¬ (m ≤ i) by omega, e0]
      refine hkk _ hi' ⟨by omega, ?_⟩
      rw [nxt]
      cases b with
      | false => rfl
      | true =>
        cases hx : exB M st i k with
        | false => rw [hx] at hb; cases hb
        | true => rfl
    | true =>
      have e0 : biN true = iN 1 := rfl
      have hbt : b = true := by cases b; exact hb; rfl
      have hxf : exB M st i k = false := by cases hx : exB M st i k; rfl; rw [hx, hbt] at hb; cases hb
      by_cases h3 : M 63 i = iN k
      · by_cases hbit : F.testBit i = true
        · have hno : ¬ ((iN F >>> (iN i &&& iN 31)) &&& iN 1 = iN 0) := by rw [bitN hF (by omega), hbit]; decide
          simp (disch := omega) only [f_L_style_L60, ↓nM_lit, iN_lit, iN_add, iN_mul, iN_lt, iN_le, iN_eq, iN_c, gd_iN, iN_nM, nM_iN, iN_ltM, nM_lt, nM_le, iN_leM, iN_0M, nM_p1, iN_0s1, decide_true, decide_eq_true_eq, Nat.not_lt_zero, if_true, if_false, wp_some, wp_grd, wp_lb, wp_ite, wp_b1, wp_b2, wp_b3, wp_b4, wp_b5, ↓reduceIte, wp_b6, wp_b7, wp_b8, wp_b9, e3, show ¬ (m ≤ i) by omega, e0, show ¬ (1 = 0) by omega, show 5 * i + 3 < 30 by omega, q3, h3, hno, true_and]
          refine hkk _ hi' ⟨by omega, ?_⟩
          rw [nxt, hbit, decide_eq_true h3, hxf, hbt]; rfl
        · have hbf : F.testBit i = false := by cases h : F.testBit i; rfl; exact absurd h hbit
          have hyes : (iN F >>> (iN i &&& iN 31)) &&& iN 1 = iN 0 := (bitN hF (by omega)).2 hbf
          simp (disch := omega) only [f_L_style_L60, ↓nM_lit, iN_lit, iN_add, iN_mul, iN_lt, iN_le, iN_eq, iN_c, gd_iN, iN_nM, nM_iN, iN_ltM, nM_lt, nM_le, iN_leM, iN_0M, nM_p1, iN_0s1, decide_true, decide_eq_true_eq, Nat.not_lt_zero, if_true, if_false, wp_some, wp_grd, wp_lb, wp_ite, wp_b1, wp_b2, wp_b3, wp_b4, wp_b5, ↓reduceIte, wp_b6, wp_b7, wp_b8, wp_b9, e3, show ¬ (m ≤ i) by omega, e0, show ¬ (1 = 0) by omega, show 5 * i + 3 < 30 by omega, q3, h3, hyes, true_and]
          refine hkk _ hi' ⟨by omega, ?_⟩
          rw [nxt, hbf, Bool.and_false, Bool.or_false, hxf, hbt]; rfl
      · simp (disch := omega) only [f_L_style_L60, ↓nM_lit, iN_lit, iN_add, iN_mul, iN_lt, iN_le, iN_eq, iN_c, gd_iN, iN_nM, nM_iN, iN_ltM, nM_lt, nM_le, iN_leM, iN_0M, nM_p1, iN_0s1, decide_true, decide_eq_true_eq, Nat.not_lt_zero, if_true, if_false, wp_some, wp_grd, wp_lb, wp_ite, wp_b1, wp_b2, wp_b3, wp_b4, wp_b5, ↓reduceIte, wp_b6, wp_b7, wp_b8, wp_b9, e3, show ¬ (m ≤ i) by omega, e0, show ¬ (1 = 0) by omega, show 5 * i + 3 < 30 by omega, q3, h3, true_and]
        refine hkk _ hi' ⟨by omega, ?_⟩
        rw [nxt, decide_eq_false h3, Bool.false_and, Bool.or_false, hxf, hbt]; rfl
theorem L_sty28 {c w u x l pr kr z : Rw} {M : Ob} {L : Nat → Nat} {s p n : Nat} (h : LW0 c w u x M) (hP : LXp c pr kr M) (h63 : ∀ k, k < n → M 63 k = nM ∨ ∃ b, b < k ∧ M 63 k = iN b) (en : nn (M 59 0) = n) (hn : n ≤ 6) (hs : s < 2) (hl : RLl l M s L) (hL : LB (evS M s) L) (hp : p < evn M s) (v9 : Int32) : ∀ (d k F : Nat), d ≤ n → d < k → F < 4096 → (∀ e, d ≤ e → e < n → F.testBit e = stF M (evS M s) L (evw M s p) p n (n - d) e) → (∀ e, e < d → F.testBit e = false) →
    wp (f_L_style_L28 k c w u x l pr kr z (iN s) v9 (iN p) (iN F) (iD d)) (fun r => ∃ F', F' < 4096 ∧ r.1 = iN F' ∧ ∀ e, e < n → F'.testBit e = stF M (evS M s) L (evw M s p) p n n e) := by
  intro d
  induction d with
  | zero =>
    intro k F _ hk hF hb _
    obtain ⟨k, rfl⟩ : ∃ k', k = k' + 1 := ⟨k - 1, by omega⟩
    rw [iD_0]
    simp (disch := omega) only [f_L_style_L28, ↓nM_lit, iN_lit, iN_add, iN_mul, iN_lt, iN_le, iN_eq, iN_c, gd_iN, iN_nM, nM_iN, iN_ltM, nM_lt, nM_le, iN_leM, iN_0M, nM_p1, iN_0s1, decide_true, decide_eq_true_eq, Nat.not_lt_zero, if_true, if_false, wp_some, wp_grd, wp_lb, wp_ite, wp_b1, wp_b2, wp_b3, wp_b4, wp_b5, ↓reduceIte, wp_b6, wp_b7, wp_b8, wp_b9, show (nM < iN 0) ↔ True by exact ⟨fun _ => trivial, fun _ => by decide⟩]
    exact ⟨F, hF, rfl, fun e he => hb e (Nat.zero_le _) he⟩
  | succ d ih =>
    intro k F hd hk hF hb hlo
    obtain ⟨k, rfl⟩ : ∃ k', k = k' + 1 := ⟨k - 1, by omega⟩
    rw [iD_s]
    have hst := L_stands h hP hs hl hL hp (show d < nn (M 59 0) by omega)
    have e1 : n - d = n - (d + 1) + 1 := by omega
    have est : ∀ e, stF M (evS M s) L (evw M s p) p n (n - d) e = if e = d then fo M (evS M s) L (evw M s p) p d && !(exB M (stF M (evS M s) L (evw M s p) p n (n - (d + 1))) n d) else stF M (evS M s) L (evw M s p) p n (n - (d + 1)) e := by
      intro e
      rw [e1, stF, show n - (n - (d + 1) + 1) = d by omega]
      by_cases h : e = d
      · rw [if_pos h, if_pos h, h]
      · rw [if_neg h, if_neg h]
    have h60 := L_sty60 (c := c) (w := w) (u := u) (x := x) (l := l) (z := z) (s := s) (p := p) hP h63 en (show d < n by omega) (st := stF M (evS M s) L (evw M s p) p n (n - (d + 1))) hF (fun e h1 h2 => hb e h1 h2) (fo M (evS M s) L (evw M s p) p d) (iN s) v9 (iN p)
    simp (disch := omega) only [f_L_style_L28, ↓nM_lit, iN_lit, iN_add, iN_mul, iN_lt, iN_le, iN_eq, iN_c, gd_iN, iN_nM, nM_iN, iN_ltM, nM_lt, nM_le, iN_leM, iN_0M, nM_p1, iN_0s1, decide_true, decide_eq_true_eq, Nat.not_lt_zero, if_true, if_false, wp_some, wp_grd, wp_lb, wp_ite, wp_b1, wp_b2, wp_b3, wp_b4, wp_b5, ↓reduceIte, wp_b6, wp_b7, wp_b8, wp_b9, show ¬ (d < 0) by omega, hst, eq_grd, eq_lb, eq_b1, eq_b2, eq_b3, eq_b4, eq_b5, eq_b6, eq_b7, eq_b8, eq_b9]
    refine wp_mono h60 ?_
    rintro ⟨r1, r2⟩ hr
    simp only at hr ⊢
    have estd := est d
    rw [if_pos rfl] at estd
    rw [← estd] at hr
    have hFd := hlo d (Nat.lt_succ_self d)
    cases hv : stF M (evS M s) L (evw M s p) p n (n - d) d with
    | false =>
      rw [hv] at hr
      have hr0 : r1 = iN 0 := hr
      rw [hr0]
      simp (disch := omega) only [↓nM_lit, iN_lit, iN_add, iN_mul, iN_lt, iN_le, iN_eq, iN_c, gd_iN, iN_nM, nM_iN, iN_ltM, nM_lt, nM_le, iN_leM, iN_0M, nM_p1, iN_0s1, decide_true, decide_eq_true_eq, Nat.not_lt_zero, if_true, if_false, wp_some, wp_grd, wp_lb, wp_ite, wp_b1, wp_b2, wp_b3, wp_b4, wp_b5, ↓reduceIte, wp_b6, wp_b7, wp_b8, wp_b9, iN_or, Nat.or_zero, iD_pM]
      refine ih k F (by omega) (by omega) hF ?_ (fun e he => hlo e (by omega))
      intro e h1 h2
      by_cases hed : e = d
      · subst hed; rw [hv]; exact hFd
      · rw [est, if_neg hed]; exact hb e (by omega) h2
    | true =>
      rw [hv] at hr
      have hr0 : r1 = iN 1 := hr
      rw [hr0]
      obtain ⟨o1, o2⟩ := orN hF (show d < 12 by omega)
      simp (disch := omega) only [↓nM_lit, iN_lit, iN_add, iN_mul, iN_lt, iN_le, iN_eq, iN_c, gd_iN, iN_nM, nM_iN, iN_ltM, nM_lt, nM_le, iN_leM, iN_0M, nM_p1, iN_0s1, decide_true, decide_eq_true_eq, Nat.not_lt_zero, if_true, if_false, wp_some, wp_grd, wp_lb, wp_ite, wp_b1, wp_b2, wp_b3, wp_b4, wp_b5, ↓reduceIte, wp_b6, wp_b7, wp_b8, wp_b9, show ¬ (1 = 0) by omega, shlN (show d < 12 by omega), iN_or, iD_pM]
      refine ih k (F ||| 2 ^ d) (by omega) (by omega) o1 ?_ ?_
      · intro e h1 h2
        rw [o2]
        by_cases hed : e = d
        · subst hed; rw [hv, decide_eq_true rfl, Bool.or_true]
        · rw [est, if_neg hed, decide_eq_false (fun h => hed h.symm), Bool.or_false]; exact hb e (by omega) h2
      · intro e he
        rw [o2, hlo e (by omega), decide_eq_false (by omega)]; rfl
def ZY (z : Rw) (fs : List Nat) : Prop := ∀ i, i < fs.length → z i = iN (fs.getD i 0)
theorem L_sty137 {c w u x l pr kr z0 : Rw} {M : Ob} {L : Nat → Nat} {s p n F : Nat} {fs : List Nat} (hP : LXp c pr kr M) (h63 : ∀ k, k < n → M 63 k = nM ∨ ∃ b, b < k ∧ M 63 k = iN b) (en : nn (M 59 0) = n) (hn : n ≤ 6) (hF : F < 4096) (hFb : ∀ e, e < n → F.testBit e = stF M (evS M s) L (evw M s p) p n n e) (hz : ZY z0 fs) (hl : fs.length + n ≤ 64) (hp : p < 100) (v8 : Int32) :
    wp (f_L_style_L137 400 c w u x l pr kr z0 v8 (iN fs.length) (iN p) (iN F) (iN 0)) (fun r => r.1 = iN (fs ++ (SLk M (evS M s) L (evw M s p) p n n).map (fun k => 10 * k + p)).length ∧ ZY r.2.2 (fs ++ (SLk M (evS M s) L (evw M s p) p n n).map (fun k => 10 * k + p))) := by
  obtain ⟨m, hm, e3, e59, hi, -⟩ := hP
  have emn : m = n := by rw [← en, e59, nn, iN_c (by omega)]
  subst emn
  refine lp_up (F := fun f (Z : Int32 × Rw) i => f_L_style_L137 f c w u x l pr kr Z.2 v8 Z.1 (iN p) (iN F) i) (V := fun i Z => Z.1 = iN (fs ++ (SLk M (evS M s) L (evw M s p) p m i).map (fun k => 10 * k + p)).length ∧ ZY Z.2 (fs ++ (SLk M (evS M s) L (evw M s p) p m i).map (fun k => 10 * k + p))) (hi := m) ?_ 400 0 (iN fs.length, z0) (by omega) (by omega) (by rw [show SLk M (evS M s) L (evw M s p) p m 0 = [] from rfl, List.map_nil, List.append_nil]; exact ⟨rfl, hz⟩)
  rintro f ⟨cn, z⟩ i him ⟨hc, hV⟩ hkk
  simp only at hc hV
  subst hc
  have hlen : (fs ++ (SLk M (evS M s) L (evw M s p) p m i).map (fun k => 10 * k + p)).length = fs.length + (SLk M (evS M s) L (evw M s p) p m i).length := by rw [List.length_append, List.length_map]
  have hle := SLk_len (M := M) (E := evS M s) (L := L) (w := evw M s p) (p := p) (n := m) i
  by_cases he : i = m
  · subst he
    simp (disch := omega) only [f_L_style_L137, ↓nM_lit, iN_lit, iN_add, iN_mul, iN_lt, iN_le, iN_eq, iN_c, gd_iN, iN_nM, nM_iN, iN_ltM, nM_lt, nM_le, iN_leM, iN_0M, nM_p1, iN_0s1, decide_true, decide_eq_true_eq, Nat.not_lt_zero, if_true, if_false, wp_some, wp_grd, wp_lb, wp_ite, wp_b1, wp_b2, wp_b3, wp_b4, wp_b5, ↓reduceIte, wp_b6, wp_b7, wp_b8, wp_b9, e3, Nat.le_refl]
    exact ⟨trivial, hV⟩
  · have hi' : i < m := by omega
    obtain ⟨-, -, -, q3, -⟩ := hi i hi'
    have nxt := SLk_s (M := M) (E := evS M s) (L := L) (w := evw M s p) (p := p) (n := m) (k := i)
    have hbi := hFb i hi'
    have skip : SPr M (evS M s) L (evw M s p) p m i = false → wp (f_L_style_L137 f c w u x l pr kr z v8 (iN (fs ++ (SLk M (evS M s) L (evw M s p) p m i).map (fun k => 10 * k + p)).length) (iN p) (iN F) (iN (i + 1))) (fun r => r.1 = iN (fs ++ (SLk M (evS M s) L (evw M s p) p m m).map (fun k => 10 * k + p)).length ∧ ZY r.2.2 (fs ++ (SLk M (evS M s) L (evw M s p) p m m).map (fun k => 10 * k + p))) := by
      intro hsp
      refine hkk (_, z) hi' ?_
      rw [nxt, hsp, if_neg (by decide), List.append_nil]
      exact ⟨rfl, hV⟩
    have hb1 := bitN1 hF (show i < 12 by omega)
    by_cases hbit : F.testBit i = true
    · have hyes := hb1.2 hbit
      rcases h63 i hi' with h3 | ⟨b, hb, h3⟩
      · have hsp : SPr M (evS M s) L (evw M s p) p m i = true := by rw [SPr, decide_eq_true h3, Bool.true_and, ← hbi]; exact hbit
        have hnew : fs ++ (SLk M (evS M s) L (evw M s p) p m (i + 1)).map (fun k => 10 * k + p) = (fs ++ (SLk M (evS M s) L (evw M s p) p m i).map (fun k => 10 * k + p)) ++ [10 * i + p] := by
          rw [nxt, hsp, if_pos rfl, List.map_append, ← List.append_assoc]; rfl
        simp (disch := omega) only [f_L_style_L137, ↓nM_lit, iN_lit, iN_add, iN_mul, iN_lt, iN_le, iN_eq, iN_c, gd_iN, iN_nM, nM_iN, iN_ltM, nM_lt, nM_le, iN_leM, iN_0M, nM_p1, iN_0s1, decide_true, decide_eq_true_eq, Nat.not_lt_zero, if_true, if_false, wp_some, wp_grd, wp_lb, wp_ite, wp_b1, wp_b2, wp_b3, wp_b4, wp_b5, ↓reduceIte, wp_b6, wp_b7, wp_b8, wp_b9, e3, show ¬ (m ≤ i) by omega, hyes, show 5 * i + 3 < 30 by omega, q3, h3, show (iN 0 ≤ nM) ↔ False by exact ⟨fun h => absurd h (by decide), False.elim⟩, hlen, show fs.length + (SLk M (evS M s) L (evw M s p) p m i).length < 64 by omega, true_and]
        refine hkk (iN (fs.length + (SLk M (evS M s) L (evw M s p) p m i).length + 1), upd z (fs.length + (SLk M (evS M s) L (evw M s p) p m i).length) (iN (10 * i + p))) hi' ⟨?_, ?_⟩
        · show iN _ = _
          rw [hnew, List.length_append, hlen]; rfl
        · intro k hk
          show upd z (fs.length + (SLk M (evS M s) L (evw M s p) p m i).length) (iN (10 * i + p)) k = _
          rw [hnew, List.length_append, hlen] at hk
          rw [hnew]
          by_cases hkk2 : k = fs.length + (SLk M (evS M s) L (evw M s p) p m i).length
          · rw [hkk2, upd_eq, ← hlen]
            exact congrArg iN (getD_mid _ [] _ _).symm
          · have hk' : k < fs.length + (SLk M (evS M s) L (evw M s p) p m i).length := by
              have : ([10 * i + p] : List Nat).length = 1 := rfl
              omega
            rw [upd_ne hkk2, hV k (by rw [hlen]; exact hk')]
            exact congrArg iN (getD_app_l (by rw [hlen]; exact hk')).symm
      · have hsp : SPr M (evS M s) L (evw M s p) p m i = false := by
          rw [SPr, decide_eq_false (show ¬ (M 63 i = nM) by rw [h3, iN_nM (by omega)]; exact id), Bool.false_and]
        simp (disch := omega) only [f_L_style_L137, ↓nM_lit, iN_lit, iN_add, iN_mul, iN_lt, iN_le, iN_eq, iN_c, gd_iN, iN_nM, nM_iN, iN_ltM, nM_lt, nM_le, iN_leM, iN_0M, nM_p1, iN_0s1, decide_true, decide_eq_true_eq, Nat.not_lt_zero, if_true, if_false, wp_some, wp_grd, wp_lb, wp_ite, wp_b1, wp_b2, wp_b3, wp_b4, wp_b5, ↓reduceIte, wp_b6, wp_b7, wp_b8, wp_b9, e3, show ¬ (m ≤ i) by omega, hyes, show 5 * i + 3 < 30 by omega, q3, h3, Nat.zero_le, true_and]
        exact skip hsp
    · have hno : ¬ ((iN F >>> (iN i &&& iN 31)) &&& iN 1 = iN 1) := fun hh => hbit (hb1.1 hh)
      have hbf : F.testBit i = false := by cases h : F.testBit i; rfl; exact absurd h hbit
      have hsp : SPr M (evS M s) L (evw M s p) p m i = false := by rw [SPr, ← hbi, hbf, Bool.and_false]
      simp (disch := omega) only [f_L_style_L137, ↓nM_lit, iN_lit, iN_add, iN_mul, iN_lt, iN_le, iN_eq, iN_c, gd_iN, iN_nM, nM_iN, iN_ltM, nM_lt, nM_le, iN_leM, iN_0M, nM_p1, iN_0s1, decide_true, decide_eq_true_eq, Nat.not_lt_zero, if_true, if_false, wp_some, wp_grd, wp_lb, wp_ite, wp_b1, wp_b2, wp_b3, wp_b4, wp_b5, ↓reduceIte, wp_b6, wp_b7, wp_b8, wp_b9, e3, show ¬ (m ≤ i) by omega, hno]
      exact skip hsp
theorem L_style {c w u x l pr kr z : Rw} {M : Ob} {L : Nat → Nat} {s n : Nat} (h : LW0 c w u x M) (hP : LXp c pr kr M) (h63 : ∀ k, k < n → M 63 k = nM ∨ ∃ b, b < k ∧ M 63 k = iN b) (en : nn (M 59 0) = n) (hs : s < 2) (hl : RLl l M s L) (hL : LB (evS M s) L) :
    wp (f_L_style c w u x l pr kr z (iN s)) (fun r => r.1 = iN (FLS M (evS M s) L (evw M s) n (evn M s)).length ∧ ZY r.2 (FLS M (evS M s) L (evw M s) n (evn M s))) := by
  obtain ⟨n3, e8, -, -⟩ := LX_t h.2.2.2 hs
  have hn : n ≤ 6 ∧ c 3 = iN n := by
    obtain ⟨m, hm, e3, e59, -⟩ := id hP
    have emn : m = n := by rw [← en, e59, nn, iN_c (by omega)]
    subst emn
    exact ⟨hm, e3⟩
  obtain ⟨hn6, e3⟩ := hn
  have key : wp (f_L_style_L6 400 c w u x l pr kr z (iN s) (iN 0) (iN 0)) (fun r => r.1 = iN (FLS M (evS M s) L (evw M s) n (evn M s)).length ∧ ZY r.2.2 (FLS M (evS M s) L (evw M s) n (evn M s))) := by
    refine lp_up (F := fun f (Z : Int32 × Rw) i => f_L_style_L6 f c w u x l pr kr Z.2 (iN s) Z.1 i) (V := fun p Z => Z.1 = iN (FLS M (evS M s) L (evw M s) n p).length ∧ ZY Z.2 (FLS M (evS M s) L (evw M s) n p)) (hi := evn M s) ?_ 400 0 (iN 0, z) (by omega) (by omega) ⟨rfl, fun i hi => absurd hi (Nat.not_lt_zero i)⟩
    rintro f ⟨cn, zz⟩ p hp ⟨hc, hV⟩ hkk
    simp only at hc hV
    subst hc
    by_cases he : p = evn M s
    · subst he
      simp (disch := omega) only [f_L_style_L6, ↓nM_lit, iN_lit, iN_add, iN_mul, iN_lt, iN_le, iN_eq, iN_c, gd_iN, iN_nM, nM_iN, iN_ltM, nM_lt, nM_le, iN_leM, iN_0M, nM_p1, iN_0s1, decide_true, decide_eq_true_eq, Nat.not_lt_zero, if_true, if_false, wp_some, wp_grd, wp_lb, wp_ite, wp_b1, wp_b2, wp_b3, wp_b4, wp_b5, ↓reduceIte, wp_b6, wp_b7, wp_b8, wp_b9, show 8 + s < 12 by omega, e8, Nat.le_refl, true_and]
      exact hV
    · have hp' : p < evn M s := by omega
      have hle := FLS_len (M := M) (E := evS M s) (L := L) (wd := evw M s) (n := n) p
      have hnp : n * p ≤ 12 := Nat.le_trans (Nat.mul_le_mul hn6 (show p ≤ 2 by omega)) (by omega)
      simp (disch := omega) only [f_L_style_L6, ↓nM_lit, iN_lit, iN_add, iN_mul, iN_lt, iN_le, iN_eq, iN_c, gd_iN, iN_nM, nM_iN, iN_ltM, nM_lt, nM_le, iN_leM, iN_0M, nM_p1, iN_0s1, decide_true, decide_eq_true_eq, Nat.not_lt_zero, if_true, if_false, wp_some, wp_grd, wp_lb, wp_ite, wp_b1, wp_b2, wp_b3, wp_b4, wp_b5, ↓reduceIte, wp_b6, wp_b7, wp_b8, wp_b9, show 8 + s < 12 by omega, e8, show ¬ (evn M s ≤ p) by omega, e3, true_and]
      refine wp_mono (L_sty28 (z := zz) h hP h63 en hn6 hs hl hL hp' (iN (FLS M (evS M s) L (evw M s) n p).length) n 400 0 (Nat.le_refl _) (by omega) (by omega) ?_ (fun e _ => Nat.zero_testBit e)) ?_
      · intro e h1 h2; omega
      · rintro ⟨r1, r2⟩ ⟨F, hF, er, hFb⟩
        simp only at er ⊢
        rw [er]
        refine wp_mono (L_sty137 (c := c) (w := w) (u := u) (x := x) (l := l) hP h63 en hn6 hF hFb hV (by omega) (by omega) (iN s)) ?_
        rintro ⟨t1, t2, t3⟩ ⟨k1, k2⟩
        simp only at k1 k2 ⊢
        refine hkk (t1, t3) hp' ?_
        rw [FLS_s]
        exact ⟨k1, k2⟩
  simp (disch := omega) only [f_L_style, ↓nM_lit, iN_lit, iN_add, iN_mul, iN_lt, iN_le, iN_eq, iN_c, gd_iN, iN_nM, nM_iN, iN_ltM, nM_lt, nM_le, iN_leM, iN_0M, nM_p1, iN_0s1, decide_true, decide_eq_true_eq, Nat.not_lt_zero, if_true, if_false, wp_some, wp_grd, wp_lb, wp_ite, wp_b1, wp_b2, wp_b3, wp_b4, wp_b5, ↓reduceIte, wp_b6, wp_b7, wp_b8, wp_b9]
  exact key
