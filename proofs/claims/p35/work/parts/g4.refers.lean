/-! The law refers. -/
theorem agr_L {a b : Nat} (ha : a < 4) (hb : b < 4) : f_L_agree (iN a) (iN b) = some (biN (decide (a = b) || decide (a = 0) || decide (b = 0))) := by
  have := b4_s (P := fun a => b4 (fun b => decide (f_L_agree (iN a) (iN b) = some (biN (decide (a = b) || decide (a = 0) || decide (b = 0)))))) (by decide) ha
  exact of_decide_eq_true (b4_s this hb)
/-- the rows f, v with what place i is referred to -/
def PF (i : Nat) (f0 v0 : Rw) (o : Option (Nat × Nat × Nat)) (f v : Rw) : Prop := (∀ j, f j = if j = i then rnO o else f0 j) ∧ ∀ j, v j = if j = 2 * i then iN (gO o % 4) else if j = 2 * i + 1 then iN (gO o / 4) else v0 j
def nS (M : Ob) (t q : Nat) (o : Option Nat) : Option (Nat × Nat × Nat) := match o with
  | none => none
  | some k => some (t, q, eP (evS M t) q k % 16)
def nA (M : Ob) (Ls : Nat → Nat → Nat) (φ : Nat) : Nat → Option (Nat × Nat × Nat)
  | 0 => none
  | T + 1 => if T % 3 < evn M (T / 3) then (match nG (nOk (evS M (T / 3)) (Ls (T / 3)) φ (T % 3)) 4 0 with
    | some k => some (T / 3, T % 3, eP (evS M (T / 3)) (T % 3) k % 16)
    | none => nA M Ls φ T) else nA M Ls φ T
theorem fv_0 (f : Nat) : fv f 0 = f % 4 := by unfold fv; rw [Nat.pow_zero, Nat.div_one]
theorem fv_1 (f : Nat) : fv f 1 = f / 4 % 4 := by unfold fv; rw [Nat.pow_one]
theorem fv_2 (f : Nat) : fv f 2 = f / 16 % 4 := rfl
theorem dec_e (f : Nat) : dec f = 100 * (f % 4) + 10 * (f / 4 % 4) + f / 16 % 4 := by unfold dec; rw [fv_0, fv_1, fv_2]
theorem dg3 {k a b c : Nat} (ha : a ≤ 3) (hb : b ≤ 3) (hc : c ≤ 3) : (1000 * k + (100 * a + 10 * b + c)) / 100 - (1000 * k + (100 * a + 10 * b + c)) / 100 / 10 * 10 = a ∧ (1000 * k + (100 * a + 10 * b + c)) / 10 - (1000 * k + (100 * a + 10 * b + c)) / 10 / 10 * 10 = b ∧ (1000 * k + (100 * a + 10 * b + c)) - (1000 * k + (100 * a + 10 * b + c)) / 10 * 10 = c := by
  have e1 : (1000 * k + (100 * a + 10 * b + c)) / 100 = 10 * k + a := by omega
  have e2 : (1000 * k + (100 * a + 10 * b + c)) / 10 = 100 * k + 10 * a + b := by omega
  rw [e1, e2]
  omega
theorem dgd (k f : Nat) : (1000 * k + dec f) / 100 - (1000 * k + dec f) / 100 / 10 * 10 = f % 4 ∧ (1000 * k + dec f) / 10 - (1000 * k + dec f) / 10 / 10 * 10 = f / 4 % 4 ∧ (1000 * k + dec f) - (1000 * k + dec f) / 10 * 10 = f / 16 % 4 := by
  rw [dec_e]
  exact dg3 (by omega) (by omega) (by omega)
theorem dg0 (f : Nat) : dec f / 10 - dec f / 10 / 10 * 10 = f / 4 % 4 := by
  have := (dgd 0 f).2.1
  rw [Nat.mul_zero, Nat.zero_add] at this
  exact this
theorem gO_le (M : Ob) (t q k : Nat) : gO (some (t, q, eP (evS M t) q k % 16)) % 4 = eP (evS M t) q k % 4 ∧ gO (some (t, q, eP (evS M t) q k % 16)) / 4 = eP (evS M t) q k / 4 % 4 := by
  unfold gO
  simp only
  omega
theorem L_ref_in {c w u x l f0 v0 : Rw} {M : Ob} {t q : Nat} {L : Nat → Nat} (h : LW0 c w u x M) (ht : t < 2) (hl : RLl l M t L) (hL : LB (evS M t) L) (hq : q < evn M t) {i φ : Nat} (hi : i < 6) (hφ : φ < 64) (d : Nat) : ∀ (n r : Nat) (f v : Rw), r + d = 4 → r ≤ eC (evS M t) q → d < n → PF i f0 v0 none f v →
    wp (f_L_refers_L112 n c w u x l f v (iN i) (iN (1000 + dec φ)) (iN (3 * t + q)) (iN 1) (iN r)) (fun z => PF i f0 v0 (nS M t q (nG (nOk (evS M t) L φ q) d r)) z.2.1 z.2.2) := by
  have hE := LW_E h ht
  obtain ⟨ex, -, ec, c2, et⟩ := LW_at h ht hq
  have n3 := (LX_t h.2.2.2 ht).1
  have hq' : q < eL (evS M t) := by rw [evS_L]; exact hq
  have h16 := LB16 hE hL hq'
  have el := hl q hq
  have hd := dec_e φ
  induction d with
  | zero => intro n r f v hr hc; omega
  | succ d ih =>
    intro n r f v hr hc hn hPF
    obtain ⟨n, rfl⟩ : ∃ m, n = m + 1 := ⟨n - 1, by omega⟩
    have hfi : f i = nM := by rw [hPF.1 i, if_pos rfl]; rfl
    by_cases h5 : r = eC (evS M t) q
    · have hz : nG (nOk (evS M t) L φ q) (d + 1) r = none := by
        refine nG_none _ _ ?_
        intro k hk _
        unfold nOk
        rw [Nat.testBit_lt_two_pow (Nat.lt_of_lt_of_le (hL q hq') (Nat.pow_le_pow_right (by decide) (show eC (evS M t) q ≤ k by omega)))]
        rfl
      rw [hz]
      simp (disch := omega) only [f_L_refers_L112, ↓nM_lit, iN_lit, iN_add, iN_mul, iN_lt, iN_le, iN_eq, iN_c, gd_iN, iN_nM, nM_iN, iN_ltM, nM_lt, nM_le, iN_leM, iN_0M, nM_p1, iN_0s1, decide_true, decide_eq_true_eq, Nat.not_lt_zero, if_true, if_false, wp_some, wp_grd, wp_lb, wp_ite, wp_b1, wp_b2, wp_b3, wp_b4, wp_b5, eq_grd, eq_lb, eq_b1, eq_b2, eq_b3, eq_b4, eq_b5, hi, hfi, ex, ec, show 3 * t + q < 6 by omega, show ¬ (1 = 0) by decide, show eC (evS M t) q ≤ r by omega, true_and]
      exact hPF
    · obtain ⟨er, et1, et2, et3⟩ := et r (by omega)
      have ih' := ih n (r + 1) f v (by omega) (by omega) (by omega) hPF
      have hP := dec_e (eP (evS M t) q r)
      have keep : nOk (evS M t) L φ q r = false → wp (f_L_refers_L112 n c w u x l f v (iN i) (iN (1000 + dec φ)) (iN (3 * t + q)) (iN 1) (iN (r + 1))) (fun z => PF i f0 v0 (nS M t q (nG (nOk (evS M t) L φ q) (d + 1) r)) z.2.1 z.2.2) := by
        intro hno
        rw [nG, hno]
        exact ih'
      cases hb : (L q).testBit r with
      | false =>
        have hno : nOk (evS M t) L φ q r = false := by unfold nOk; rw [hb]; rfl
        simp (disch := omega) only [f_L_refers_L112, ↓nM_lit, iN_lit, iN_add, iN_mul, iN_lt, iN_le, iN_eq, iN_c, gd_iN, iN_nM, nM_iN, iN_ltM, nM_lt, nM_le, iN_leM, iN_0M, nM_p1, iN_0s1, decide_true, decide_eq_true_eq, Nat.not_lt_zero, if_true, if_false, wp_some, wp_grd, wp_lb, wp_ite, wp_b1, wp_b2, wp_b3, wp_b4, wp_b5, eq_grd, eq_lb, eq_b1, eq_b2, eq_b3, eq_b4, eq_b5, hi, hfi, ex, ec, er, el, show 3 * t + q < 6 by omega, show ¬ (1 = 0) by decide, show ¬ (eC (evS M t) q ≤ r) by omega, true_and, bit_1 h16 (show r < 4 by omega), hb, reduceCtorEq]
        exact keep hno
      | true =>
        by_cases h0 : nn (eT (evS M t) q r) = 0
        · have e0 : 1000 * nn (eT (evS M t) q r) + dec (eP (evS M t) q r) = dec (eP (evS M t) q r) := by omega
          have d1 : dec (eP (evS M t) q r) / 100 = eP (evS M t) q r % 4 := by omega
          have d2 : dec (eP (evS M t) q r) / 10 - dec (eP (evS M t) q r) / 10 / 10 * 10 = eP (evS M t) q r / 4 % 4 := dg0 _
          have d3 : (1000 + dec φ) / 100 - (1000 + dec φ) / 100 / 10 * 10 = φ % 4 := (dgd 1 φ).1
          have d4 : (1000 + dec φ) / 10 - (1000 + dec φ) / 10 / 10 * 10 = φ / 4 % 4 := (dgd 1 φ).2.1
          have hok : nOk (evS M t) L φ q r = ((decide (eP (evS M t) q r % 4 = φ % 4) || decide (eP (evS M t) q r % 4 = 0) || decide (φ % 4 = 0)) && (decide (eP (evS M t) q r / 4 % 4 = φ / 4 % 4) || decide (eP (evS M t) q r / 4 % 4 = 0) || decide (φ / 4 % 4 = 0))) := by
            unfold nOk agN
            rw [hb, et1, h0]
            simp only [decide_true, Bool.true_and]
          have a1 := agr_L (a := eP (evS M t) q r % 4) (b := φ % 4) (by omega) (by omega)
          have a2 := agr_L (a := eP (evS M t) q r / 4 % 4) (b := φ / 4 % 4) (by omega) (by omega)
          simp (disch := omega) only [f_L_refers_L112, ↓nM_lit, iN_lit, iN_add, iN_mul, iN_lt, iN_le, iN_eq, iN_c, gd_iN, iN_nM, nM_iN, iN_ltM, nM_lt, nM_le, iN_leM, iN_0M, nM_p1, iN_0s1, decide_true, decide_eq_true_eq, Nat.not_lt_zero, if_true, if_false, wp_some, wp_grd, wp_lb, wp_ite, wp_b1, wp_b2, wp_b3, wp_b4, wp_b5, eq_grd, eq_lb, eq_b1, eq_b2, eq_b3, eq_b4, eq_b5, hi, hfi, ex, ec, er, el, show 3 * t + q < 6 by omega, show ¬ (1 = 0) by decide, show ¬ (eC (evS M t) q ≤ r) by omega, true_and, bit_1 h16 (show r < 4 by omega), hb, e0, show ¬ (1000 ≤ dec (eP (evS M t) q r)) by omega, iN_div, iN_sub, d1, d2, d3, d4, a1, a2, biN_0]
          cases b1 : (decide (eP (evS M t) q r % 4 = φ % 4) || decide (eP (evS M t) q r % 4 = 0) || decide (φ % 4 = 0)) with
          | false =>
            simp only [if_true]
            exact keep (by rw [hok, b1]; rfl)
          | true =>
            simp only [reduceCtorEq, if_false]
            cases b2 : (decide (eP (evS M t) q r / 4 % 4 = φ / 4 % 4) || decide (eP (evS M t) q r / 4 % 4 = 0) || decide (φ / 4 % 4 = 0)) with
            | false =>
              simp only [if_true]
              exact keep (by rw [hok, b1, b2]; rfl)
            | true =>
              have hyes : nOk (evS M t) L φ q r = true := by rw [hok, b1, b2]; rfl
              have t1 : (3 * t + q) / 3 = t := by omega
              have t2 : 3 * t + q - t * 3 = q := by omega
              simp (disch := omega) only [reduceCtorEq, if_false, ↓nM_lit, iN_lit, iN_add, iN_mul, iN_lt, iN_le, iN_eq, iN_c, gd_iN, iN_nM, nM_iN, iN_ltM, nM_lt, nM_le, iN_leM, iN_0M, nM_p1, iN_0s1, decide_true, decide_eq_true_eq, Nat.not_lt_zero, if_true, if_false, wp_some, wp_grd, wp_lb, wp_ite, wp_b1, wp_b2, wp_b3, wp_b4, wp_b5, eq_grd, eq_lb, eq_b1, eq_b2, eq_b3, eq_b4, eq_b5, t1, t2, show 2 * i < 12 by omega, show 2 * i + 1 < 12 by omega, true_and]
              rw [nG, if_pos hyes]
              obtain ⟨n, rfl⟩ : ∃ m, n = m + 1 := ⟨n - 1, by omega⟩
              have e9 : upd f i (iN (t * 10 + q)) i = iN (t * 10 + q) := upd_eq _ _ _
              simp (disch := omega) only [f_L_refers_L112, ↓nM_lit, iN_lit, iN_add, iN_mul, iN_lt, iN_le, iN_eq, iN_c, gd_iN, iN_nM, nM_iN, iN_ltM, nM_lt, nM_le, iN_leM, iN_0M, nM_p1, iN_0s1, decide_true, decide_eq_true_eq, Nat.not_lt_zero, if_true, if_false, wp_some, wp_grd, wp_lb, wp_ite, wp_b1, wp_b2, wp_b3, wp_b4, wp_b5, eq_grd, eq_lb, eq_b1, eq_b2, eq_b3, eq_b4, eq_b5, hi, e9, show ¬ (1 = 0) by decide, Nat.zero_le, true_and]
              have g1 := gO_le M t q r
              refine ⟨?_, ?_⟩
              · intro j
                rw [upd_ap]
                by_cases hj : j = i
                · rw [if_pos hj, if_pos hj]; show iN (t * 10 + q) = iN (10 * t + q); rw [Nat.mul_comm]
                · rw [if_neg hj, if_neg hj, hPF.1 j, if_neg hj]
              · intro j
                rw [upd_ap, upd_ap]
                show _ = if j = 2 * i then iN (gO (some (t, q, eP (evS M t) q r % 16)) % 4) else if j = 2 * i + 1 then iN (gO (some (t, q, eP (evS M t) q r % 16)) / 4) else v0 j
                rw [g1.1, g1.2]
                by_cases hj : j = 2 * i
                · rw [if_neg (by omega), if_pos hj, if_pos hj]
                · by_cases hj2 : j = 2 * i + 1
                  · rw [if_pos hj2, if_neg hj, if_pos hj2]
                  · rw [if_neg hj2, if_neg hj, if_neg hj, if_neg hj2, hPF.2 j, if_neg hj, if_neg hj2]
        · have hno : nOk (evS M t) L φ q r = false := by
            unfold nOk
            rw [et1]
            have : ¬ (iN (nn (eT (evS M t) q r)) = iN 0) := by rw [iN_eq (by omega) (by decide)]; exact h0
            simp only [this, decide_false, Bool.and_false, Bool.false_and]
          simp (disch := omega) only [f_L_refers_L112, ↓nM_lit, iN_lit, iN_add, iN_mul, iN_lt, iN_le, iN_eq, iN_c, gd_iN, iN_nM, nM_iN, iN_ltM, nM_lt, nM_le, iN_leM, iN_0M, nM_p1, iN_0s1, decide_true, decide_eq_true_eq, Nat.not_lt_zero, if_true, if_false, wp_some, wp_grd, wp_lb, wp_ite, wp_b1, wp_b2, wp_b3, wp_b4, wp_b5, eq_grd, eq_lb, eq_b1, eq_b2, eq_b3, eq_b4, eq_b5, hi, hfi, ex, ec, er, el, show 3 * t + q < 6 by omega, show ¬ (1 = 0) by decide, show ¬ (eC (evS M t) q ≤ r) by omega, true_and, bit_1 h16 (show r < 4 by omega), hb, show 1000 ≤ 1000 * nn (eT (evS M t) q r) + dec (eP (evS M t) q r) by omega]
          exact keep hno
