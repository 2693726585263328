/-! Readings of a word and what is left of a category, by the law. -/
theorem dec_pk {a b c : Nat} (ha : a ≤ 3) (hb : b ≤ 3) (hc : c ≤ 3) : dec (pk3 a b c) = 100 * a + 10 * b + c := by
  unfold dec fv pk3
  have e0 : 4 ^ 0 = 1 := rfl
  have e1 : 4 ^ 1 = 4 := rfl
  have e2 : 4 ^ 2 = 16 := rfl
  rw [e0, e1, e2]
  omega
theorem LXw_n {c w u : Rw} {M : Ob} (h : LXw c w u M) : nn (M 0 0) ≤ 6 ∧ c 0 = iN (nn (M 0 0)) := by
  obtain ⟨m, h1, h2, h3, -⟩ := h
  rw [h3, nn, iN_c (by omega)]
  exact ⟨h1, h2⟩
theorem LXw_at {c w u : Rw} {M : Ob} (h : LXw c w u M) {i : Nat} (hi : i < nn (M 0 0)) : ∃ e b, e < 2 ∧ b ≤ 2 ∧ w (4 * i) = iN e ∧ M 1 i = iN e ∧ w (4 * i + 1) = iN b ∧ M 2 i = iN b ∧ (∀ r, r < b → w (4 * i + 2 + r) = iN (cdM M i r)) ∧ ((u e = nM ∧ M 6 e = iN 0) ∨ (u e = iN (cdG M e) ∧ M 6 e = iN 1)) := by
  obtain ⟨m, h1, h2, h3, h4, h5, h6⟩ := h
  have hm : i < m := by rw [h3, nn, iN_c (by omega)] at hi; exact hi
  obtain ⟨e, e1, e2, e3⟩ := h4 i hm
  obtain ⟨b, b1, -, b2, b3, b4⟩ := h5 i (by omega)
  exact ⟨e, b, e1, b1, e2, e3, b2, b3, b4, h6 e e1⟩
/-- the code of a word's reading -/
def cod (M : Ob) (i r : Nat) : Nat := 1000 * nn (ctM M i r) + dec (pkM M i r)
theorem cod_lt {M : Ob} (hm : WLex M) {i r : Nat} (hi : i < 40) (hr : r < 4) : cod M i r < 10000 ∧ nn (ctM M i r) ≤ 9 ∧ ctM M i r = iN (nn (ctM M i r)) ∧ dec (pkM M i r) ≤ 333 ∧ cod M i r / 1000 = nn (ctM M i r) := by
  obtain ⟨a, ha, ea⟩ := ctM_le hm hi hr
  have h0 := feM_le hm hi hr (show 0 < 3 by decide)
  have h1 := feM_le hm hi hr (show 1 < 3 by decide)
  have h2 := feM_le hm hi hr (show 2 < 3 by decide)
  unfold cod
  rw [pkM, dec_pk h0 h1 h2, ea, nn, iN_c (by omega)]
  refine ⟨by omega, ha, rfl, by omega, by omega⟩
theorem cod_G {M : Ob} (hm : WLex M) {i e : Nat} (h2 : nn (M 2 i) = 0) (h1 : nn (M 1 i) = e) (he : e < 10) : cod M i 0 = cdG M e ∧ cdG M e < 10000 := by
  obtain ⟨-, -, -, -, -, m8, -, m7⟩ := hm
  obtain ⟨a0, b0, c0⟩ := m8 (12 * e) (by omega)
  obtain ⟨a1, b1, c1⟩ := m8 (12 * e + 1) (by omega)
  obtain ⟨a2, b2, c2⟩ := m8 (12 * e + 2) (by omega)
  obtain ⟨a3, b3, c3⟩ := m7 (4 * e) (by omega)
  unfold cod cdG pkM ctM feM
  simp only [h2, h1, if_true, Nat.mul_zero, Nat.add_zero]
  rw [c0, c1, c2, c3, nnI (show a0 < 2147483648 by omega), nnI (show a1 < 2147483648 by omega), nnI (show a2 < 2147483648 by omega), nnI (show a3 < 2147483648 by omega), dec_pk b0 b1 b2]
  omega
theorem cod_M {M : Ob} (hm : WLex M) {i r : Nat} (h2 : nn (M 2 i) ≠ 0) (hi : i < 40) (hr : r < 4) : cod M i r = cdM M i r := by
  obtain ⟨-, -, -, -, m5, -, m4, -⟩ := hm
  obtain ⟨a0, b0, c0⟩ := m5 (12 * i + 3 * r) (by omega)
  obtain ⟨a1, b1, c1⟩ := m5 (12 * i + 3 * r + 1) (by omega)
  obtain ⟨a2, b2, c2⟩ := m5 (12 * i + 3 * r + 2) (by omega)
  unfold cod cdM pkM ctM feM
  simp only [h2, if_false, Nat.add_zero]
  rw [c0, c1, c2, nnI (show a0 < 2147483648 by omega), nnI (show a1 < 2147483648 by omega), nnI (show a2 < 2147483648 by omega), dec_pk b0 b1 b2]
  omega
theorem L_rds {c w u : Rw} {M : Ob} (hm : WLex M) (hx : LXw c w u M) {i : Nat} (hi : i < nn (M 0 0)) : f_L_readings w u (iN i) = some (iN (cnM M i)) ∧ cnM M i ≤ 2 := by
  obtain ⟨e, b, he, hb, w0, m1, w1, m2, wr, hu⟩ := LXw_at hx hi
  have hi6 := (LXw_n hx).1
  have nb : nn (M 2 i) = b := by rw [m2, nn, iN_c (by omega)]
  have ne : nn (M 1 i) = e := by rw [m1, nn, iN_c (by omega)]
  unfold cnM
  rw [nb, ne]
  by_cases h0 : b = 0
  · subst h0
    rcases hu with ⟨hu, h6⟩ | ⟨hu, h6⟩
    · have n6 : nn (M 6 e) = 0 := by rw [h6]; rfl
      rw [if_pos rfl, n6]
      simp (disch := omega) only [f_L_readings, ↓nM_lit, iN_lit, iN_add, iN_mul, iN_lt, iN_le, iN_eq, iN_c, gd_iN, iN_nM, nM_iN, iN_ltM, nM_lt, nM_le, iN_leM, iN_0M, nM_p1, iN_0s1, decide_true, decide_eq_true_eq, Nat.not_lt_zero, if_true, if_false, eq_grd, eq_lb, eq_b1, eq_b2, eq_b3, eq_b4, eq_b5, w0, w1, hu, show 4 * i + 1 < 24 by omega, show 4 * i < 24 by omega, he, Nat.le_refl, Nat.zero_le, and_self]
    · have n6 : nn (M 6 e) = 1 := by rw [h6]; rfl
      have hG := (cod_G hm nb ne (by omega)).2
      rw [if_pos rfl, n6]
      simp (disch := omega) only [f_L_readings, ↓nM_lit, iN_lit, iN_add, iN_mul, iN_lt, iN_le, iN_eq, iN_c, gd_iN, iN_nM, nM_iN, iN_ltM, nM_lt, nM_le, iN_leM, iN_0M, nM_p1, iN_0s1, decide_true, decide_eq_true_eq, Nat.not_lt_zero, if_true, if_false, eq_grd, eq_lb, eq_b1, eq_b2, eq_b3, eq_b4, eq_b5, w0, w1, hu, show 4 * i + 1 < 24 by omega, show 4 * i < 24 by omega, he, Nat.le_refl, Nat.zero_le, and_self, show 1 ≤ 2 by omega]
  · rw [if_neg h0]
    simp (disch := omega) only [f_L_readings, ↓nM_lit, iN_lit, iN_add, iN_mul, iN_lt, iN_le, iN_eq, iN_c, gd_iN, iN_nM, nM_iN, iN_ltM, nM_lt, nM_le, iN_leM, iN_0M, nM_p1, iN_0s1, decide_true, decide_eq_true_eq, Nat.not_lt_zero, if_true, if_false, eq_grd, eq_lb, eq_b1, eq_b2, eq_b3, eq_b4, eq_b5, w1, show 4 * i + 1 < 24 by omega, show ¬ (b ≤ 0) by omega, true_and]
    exact hb
theorem L_rdg {c w u : Rw} {M : Ob} (hm : WLex M) (hx : LXw c w u M) {i r : Nat} (hi : i < nn (M 0 0)) (hr : r < cnM M i) : f_L_reading w u (iN i) (iN r) = some (iN (cod M i r)) := by
  obtain ⟨e, b, he, hb, w0, m1, w1, m2, wr, hu⟩ := LXw_at hx hi
  have hi6 := (LXw_n hx).1
  have nb : nn (M 2 i) = b := by rw [m2, nn, iN_c (by omega)]
  have ne : nn (M 1 i) = e := by rw [m1, nn, iN_c (by omega)]
  unfold cnM at hr
  rw [nb, ne] at hr
  by_cases h0 : b = 0
  · subst h0
    rw [if_pos rfl] at hr
    rcases hu with ⟨hu, h6⟩ | ⟨hu, h6⟩
    · have n6 : nn (M 6 e) = 0 := by rw [h6]; rfl
      omega
    · have n6 : nn (M 6 e) = 1 := by rw [h6]; rfl
      have hr0 : r = 0 := by omega
      subst hr0
      rw [(cod_G hm nb ne (by omega)).1]
      simp (disch := omega) only [f_L_reading, ↓nM_lit, iN_lit, iN_add, iN_mul, iN_lt, iN_le, iN_eq, iN_c, gd_iN, iN_nM, nM_iN, iN_ltM, nM_lt, nM_le, iN_leM, iN_0M, nM_p1, iN_0s1, decide_true, decide_eq_true_eq, Nat.not_lt_zero, if_true, if_false, eq_grd, eq_lb, eq_b1, eq_b2, eq_b3, eq_b4, eq_b5, w0, w1, hu, show 4 * i + 1 < 24 by omega, show 4 * i < 24 by omega, he, Nat.le_refl]
  · rw [if_neg h0] at hr
    rw [cod_M hm (by rw [nb]; exact h0) (by omega) (by omega)]
    simp (disch := omega) only [f_L_reading, ↓nM_lit, iN_lit, iN_add, iN_mul, iN_lt, iN_le, iN_eq, iN_c, gd_iN, iN_nM, nM_iN, iN_ltM, nM_lt, nM_le, iN_leM, iN_0M, nM_p1, iN_0s1, decide_true, decide_eq_true_eq, Nat.not_lt_zero, if_true, if_false, eq_grd, eq_lb, eq_b1, eq_b2, eq_b3, eq_b4, eq_b5, w1, show 4 * i + 1 < 24 by omega, show ¬ (b ≤ 0) by omega, show 4 * i + 2 + r < 24 by omega, wr r hr]
/-- what the law looks at: its rows of words, readings and texts beside M -/
def LW0 (c w u x : Rw) (M : Ob) : Prop := WLex M ∧ WTxt M ∧ LXw c w u M ∧ LXt c x M
theorem LX_t {c x : Rw} {M : Ob} (h : LXt c x M) {s : Nat} (hs : s < 2) : evn M s ≤ 3 ∧ c (8 + s) = iN (evn M s) ∧ M 9 s = iN (evn M s) ∧ ∀ p, p < evn M s → x (3 * s + p) = M 10 (6 * s + p) := by
  obtain ⟨n, h1, h2, h3, h4⟩ := h.1 s hs
  have e : evn M s = n := by rw [evn, h3, nn, iN_c (by omega)]
  rw [e]; exact ⟨h1, h2, h3, h4⟩
theorem LW_at {c w u x : Rw} {M : Ob} (h : LW0 c w u x M) {s p : Nat} (hs : s < 2) (hp : p < evn M s) : x (3 * s + p) = iN (evw M s p) ∧ evw M s p < nn (M 0 0) ∧ f_L_readings w u (iN (evw M s p)) = some (iN (eC (evS M s) p)) ∧ eC (evS M s) p ≤ 2 ∧ ∀ r, r < eC (evS M s) p → f_L_reading w u (iN (evw M s p)) (iN r) = some (iN (1000 * nn (eT (evS M s) p r) + dec (eP (evS M s) p r))) ∧ eT (evS M s) p r = iN (nn (eT (evS M s) p r)) ∧ nn (eT (evS M s) p r) ≤ 9 ∧ dec (eP (evS M s) p r) ≤ 333 := by
  obtain ⟨hm, ht, hw, hx⟩ := h
  obtain ⟨h1, h2, h3, h4⟩ := LX_t hx hs
  obtain ⟨t1, t2, t3⟩ := WTxt_at ht (show s < 4 by omega)
  obtain ⟨t4, t5⟩ := t3 p hp
  have h6 := (LXw_n hw).1
  have hC : eC (evS M s) p = cnM M (evw M s p) := by rw [evS_e]; exact evW_C hp
  obtain ⟨r1, r2⟩ := L_rds hm hw t4
  refine ⟨by rw [h4 p hp, t5], t4, by rw [hC]; exact r1, by rw [hC]; exact r2, ?_⟩
  intro r hr
  rw [hC] at hr
  have eT' : eT (evS M s) p r = ctM M (evw M s p) r := by rw [evS_e]; exact evW_T hp hr
  have eP' : eP (evS M s) p r = pkM M (evw M s p) r := by rw [evS_e]; exact evW_P hp hr
  obtain ⟨k1, k2, k3, k4, k5⟩ := cod_lt hm (show evw M s p < 40 by omega) (show r < 4 by omega)
  rw [eT', eP']
  exact ⟨L_rdg hm hw t4 hr, k3, k2, k4⟩
theorem LW_E {c w u x : Rw} {M : Ob} (h : LW0 c w u x M) {s : Nat} (hs : s < 2) : EvB (evS M s) := evS_B h.1 h.2.1 (by omega)
/-- the readings left stand in the law's row -/
def RLl (l : Rw) (M : Ob) (s : Nat) (L : Nat → Nat) : Prop := ∀ p, p < evn M s → l (3 * s + p) = iN (L p)
theorem L_left_L {c w u x l : Rw} {M : Ob} {s : Nat} {L : Nat → Nat} (h : LW0 c w u x M) (hs : s < 2) (hl : RLl l M s L) (hL : LB (evS M s) L) {p : Nat} (hp : p < evn M s) (ct : Int32) (f k : Nat) (hk : k ≤ eC (evS M s) p) (hf : eC (evS M s) p - k < f) : f_L_leftOf_L6 f w u x l (iN (3 * s + p)) ct (iN (loK (L p) (fun k => decide (eT (evS M s) p k = ct)) k)) (iN k) = some (iN (lf (evS M s) L p ct), iN (eC (evS M s) p)) := by
  have hE := LW_E h hs
  obtain ⟨ex, -, ec, c2, et⟩ := LW_at h hs hp
  have n3 := (LX_t h.2.2.2 hs).1
  have hp' : p < eL (evS M s) := by rw [evS_L]; exact hp
  have h16 := LB16 hE hL hp'
  have el := hl p hp
  induction f generalizing k with
  | zero => omega
  | succ f ih =>
    by_cases h5 : k = eC (evS M s) p
    · subst h5
      simp (disch := omega) only [f_L_leftOf_L6, ↓nM_lit, iN_lit, iN_add, iN_mul, iN_lt, iN_le, iN_eq, iN_c, gd_iN, iN_nM, nM_iN, iN_ltM, nM_lt, nM_le, iN_leM, iN_0M, nM_p1, iN_0s1, decide_true, decide_eq_true_eq, Nat.not_lt_zero, if_true, if_false, eq_grd, eq_lb, eq_b1, eq_b2, eq_b3, eq_b4, eq_b5, show 3 * s + p < 6 by omega, ex, ec, Nat.le_refl, loK_cn (hL p hp') (hE.2 p hp').1, lf, hp']
    · have ih' := ih (k + 1) (by omega) (by omega)
      have hlt := loK_lt (L p) (fun k => decide (eT (evS M s) p k = ct)) k
      obtain ⟨er, et1, et2, et3⟩ := et k (by omega)
      cases hb : (L p).testBit k with
      | false =>
        rw [loK_f (by rw [hb]; intro h; cases h)] at ih'
        simp (disch := omega) only [f_L_leftOf_L6, ↓nM_lit, iN_lit, iN_add, iN_mul, iN_lt, iN_le, iN_eq, iN_c, gd_iN, iN_nM, nM_iN, iN_ltM, nM_lt, nM_le, iN_leM, iN_0M, nM_p1, iN_0s1, decide_true, decide_eq_true_eq, Nat.not_lt_zero, if_true, if_false, eq_grd, eq_lb, eq_b1, eq_b2, eq_b3, eq_b4, eq_b5, ex, ec, show ¬ (eC (evS M s) p ≤ k) by omega, show 3 * s + p < 6 by omega, el, bit_1 h16 (show k < 4 by omega), hb, reduceCtorEq, Int32.or_zero, bit_or0, ih']
      | true =>
        have ed : (1000 * nn (eT (evS M s) p k) + dec (eP (evS M s) p k)) / 1000 = nn (eT (evS M s) p k) := by omega
        by_cases hc : eT (evS M s) p k = ct
        · rw [loK_t hb (by simp only [hc, decide_true])] at ih'
          have hc2 : iN (nn (eT (evS M s) p k)) = ct := by rw [← et1]; exact hc
          simp (disch := omega) only [f_L_leftOf_L6, ↓nM_lit, iN_lit, iN_add, iN_mul, iN_lt, iN_le, iN_eq, iN_c, gd_iN, iN_nM, nM_iN, iN_ltM, nM_lt, nM_le, iN_leM, iN_0M, nM_p1, iN_0s1, decide_true, decide_eq_true_eq, Nat.not_lt_zero, if_true, if_false, eq_grd, eq_lb, eq_b1, eq_b2, eq_b3, eq_b4, eq_b5, ex, ec, show ¬ (eC (evS M s) p ≤ k) by omega, show 3 * s + p < 6 by omega, el, bit_1 h16 (show k < 4 by omega), hb, er, iN_div, ed, hc2, bit_or hlt (show k < 4 by omega), ih']
        · rw [loK_f (by intro _; simp only [hc, decide_false])] at ih'
          have hc2 : ¬ (iN (nn (eT (evS M s) p k)) = ct) := by rw [← et1]; exact hc
          simp (disch := omega) only [f_L_leftOf_L6, ↓nM_lit, iN_lit, iN_add, iN_mul, iN_lt, iN_le, iN_eq, iN_c, gd_iN, iN_nM, nM_iN, iN_ltM, nM_lt, nM_le, iN_leM, iN_0M, nM_p1, iN_0s1, decide_true, decide_eq_true_eq, Nat.not_lt_zero, if_true, if_false, eq_grd, eq_lb, eq_b1, eq_b2, eq_b3, eq_b4, eq_b5, ex, ec, show ¬ (eC (evS M s) p ≤ k) by omega, show 3 * s + p < 6 by omega, el, bit_1 h16 (show k < 4 by omega), hb, er, iN_div, ed, hc2, bit_or0, ih']
theorem L_left {c w u x l : Rw} {M : Ob} {s : Nat} {L : Nat → Nat} (h : LW0 c w u x M) (hs : s < 2) (hl : RLl l M s L) (hL : LB (evS M s) L) {p : Nat} (hp : p < evn M s) (ct : Int32) : f_L_leftOf w u x l (iN (3 * s + p)) ct = some (iN (lf (evS M s) L p ct)) := by
  have h2 := (LW_at h hs hp).2.2.2.1
  have := L_left_L h hs hl hL hp ct 400 0 (by omega) (by omega)
  rw [loK] at this
  simp only [f_L_leftOf, ↓nM_lit, iN_lit, iN_add, iN_mul, iN_lt, iN_le, iN_eq, iN_c, gd_iN, iN_nM, nM_iN, iN_ltM, nM_lt, nM_le, iN_leM, iN_0M, nM_p1, iN_0s1, decide_true, decide_eq_true_eq, Nat.not_lt_zero, if_true, if_false, this, eq_grd, eq_lb, eq_b1, eq_b2, eq_b3, eq_b4, eq_b5]
