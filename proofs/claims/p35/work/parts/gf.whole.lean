/-! The law's edge for the whole. -/
theorem L_whole {y : Cy} {G : Ob} {ch : Ch} {n0 n s : Nat} (hG : WGr G) (hx : LCh y G ch n0) (hW : WCh G ch) (hs : s < 2) (e8 : yc y (8 + s) = iN n) (hn : n ≤ 3) :
    wp (f_L_whole (yc y) (ye y) (yj y) (yb y) (ym y) (iN s)) (fun r => (wI G ch n = none ∧ r = nM) ∨ ∃ i d, wI G ch n = some i ∧ r = iN d ∧ d < n0 ∧ LT y G (wT ch n i) d) := by
  have h64 := hx.2.1
  by_cases h0 : n = 0
  · subst h0
    simp (disch := omega) only [f_L_whole, f_L_whole_L19, ↓nM_lit, iN_lit, iN_add, iN_mul, iN_lt, iN_le, iN_eq, iN_c, gd_iN, iN_nM, nM_iN, iN_ltM, nM_lt, nM_le, iN_leM, iN_0M, nM_p1, iN_0s1, decide_true, decide_eq_true_eq, Nat.not_lt_zero, if_true, if_false, wp_some, wp_grd, wp_lb, wp_ite, wp_b1, wp_b2, wp_b3, wp_b4, wp_b5, ↓reduceIte, wp_b6, wp_b7, wp_b8, wp_b9, show 8 + s < 12 by omega, e8, L_span (b := 0) (w := 0) (by omega) (by omega), Nat.le_refl, true_and]
    exact Or.inl ⟨rfl, trivial⟩
  · obtain ⟨mm, bb⟩ := hx.2.2 0 n (by omega) (by omega)
    rw [show 6 * 0 + n - 1 = n - 1 by omega] at mm bb
    have h8 := hW.2 (n - 1)
    have hsp : lsp 0 n < 6 := lsp_lt (by omega) (by omega)
    have ew : wI G ch n = bsI G (iN 9) (ch (n - 1)) (ch (n - 1)).length := if_neg h0
    have key : wp (f_L_whole_L19 400 (yc y) (ye y) (yj y) (yb y) (ym y) (iN s) nM (iN (lsp 0 n)) (iN 0)) (fun r => (wI G ch n = none ∧ r.1 = nM) ∨ ∃ i d, wI G ch n = some i ∧ r.1 = iN d ∧ d < n0 ∧ LT y G (wT ch n i) d) := by
      refine lp_up (F := fun f (Z : Int32) i => f_L_whole_L19 f (yc y) (ye y) (yj y) (yb y) (ym y) (iN s) Z (iN (lsp 0 n)) i) (V := fun k Z => (bsI G (iN 9) (ch (n - 1)) k = none ∧ Z = nM) ∨ ∃ i d, bsI G (iN 9) (ch (n - 1)) k = some i ∧ Z = iN d ∧ d < n0 ∧ LT y G ((ch (n - 1)).getD i dum) d) (hi := (ch (n - 1)).length) ?_ 400 0 nM (by omega) (by omega) (Or.inl ⟨rfl, rfl⟩)
      intro f Z k hk hV hkk
      by_cases he : k = (ch (n - 1)).length
      · subst he
        simp (disch := omega) only [f_L_whole_L19, ↓nM_lit, iN_lit, iN_add, iN_mul, iN_lt, iN_le, iN_eq, iN_c, gd_iN, iN_nM, nM_iN, iN_ltM, nM_lt, nM_le, iN_leM, iN_0M, nM_p1, iN_0s1, decide_true, decide_eq_true_eq, Nat.not_lt_zero, if_true, if_false, wp_some, wp_grd, wp_lb, wp_ite, wp_b1, wp_b2, wp_b3, wp_b4, wp_b5, ↓reduceIte, wp_b6, wp_b7, wp_b8, wp_b9, show 8 + s < 12 by omega, e8, show ¬ (n ≤ 0) by omega, hsp, mm, Nat.le_refl, true_and]
        rw [ew]
        exact hV
      · have hlt : k < (ch (n - 1)).length := by omega
        obtain ⟨d, hd, ed, hT⟩ := bb k hlt
        obtain ⟨t1, t2⟩ := LT_2 hT
        obtain ⟨cl, hcl, ecl⟩ := tC_le hG _ (hW.1 _ _ (getD_mem hlt)).1
        have ncl : nn (tC G ((ch (n - 1)).getD k dum)) = cl := by rw [ecl, nn, iN_c (by omega)]
        rw [ncl] at t1
        have dl := dec_le (tF G ((ch (n - 1)).getD k dum))
        have f1 : (1000 * cl + dec (tF G ((ch (n - 1)).getD k dum))) / 1000 = cl := by omega
        by_cases h9 : cl = 9
        · subst h9
          have hc : iN 9 = nM ∨ tC G ((ch (n - 1)).getD k dum) = iN 9 := Or.inr ecl
          rcases hV with ⟨b1, rfl⟩ | ⟨i, d', b1, rfl, b2, b3⟩
          · simp (disch := omega) only [f_L_whole_L19, ↓nM_lit, iN_lit, iN_add, iN_mul, iN_lt, iN_le, iN_eq, iN_c, gd_iN, iN_nM, nM_iN, iN_ltM, nM_lt, nM_le, iN_leM, iN_0M, nM_p1, iN_0s1, decide_true, decide_eq_true_eq, Nat.not_lt_zero, if_true, if_false, wp_some, wp_grd, wp_lb, wp_ite, wp_b1, wp_b2, wp_b3, wp_b4, wp_b5, ↓reduceIte, wp_b6, wp_b7, wp_b8, wp_b9, show 8 + s < 12 by omega, e8, show ¬ (n ≤ 0) by omega, hsp, mm, show ¬ ((ch (n - 1)).length ≤ k) by omega, show 8 * lsp 0 n + k < 48 by omega, ed, show d < 64 by omega, t1, iN_div, f1, true_and]
            refine hkk _ hlt (Or.inr ⟨k, d, ?_, rfl, hd, hT⟩)
            rw [bsI, if_pos hc, b1]
          · obtain ⟨u1, u2⟩ := LT_2 b3
            by_cases hle : tK G ((ch (n - 1)).getD i dum) ≤ tK G ((ch (n - 1)).getD k dum)
            · simp (disch := omega) only [f_L_whole_L19, ↓nM_lit, iN_lit, iN_add, iN_mul, iN_lt, iN_le, iN_eq, iN_c, gd_iN, iN_nM, nM_iN, iN_ltM, nM_lt, nM_le, iN_leM, iN_0M, nM_p1, iN_0s1, decide_true, decide_eq_true_eq, Nat.not_lt_zero, if_true, if_false, wp_some, wp_grd, wp_lb, wp_ite, wp_b1, wp_b2, wp_b3, wp_b4, wp_b5, ↓reduceIte, wp_b6, wp_b7, wp_b8, wp_b9, show 8 + s < 12 by omega, e8, show ¬ (n ≤ 0) by omega, hsp, mm, show ¬ ((ch (n - 1)).length ≤ k) by omega, show 8 * lsp 0 n + k < 48 by omega, ed, show d < 64 by omega, show d' < 64 by omega, t1, t2, u2, iN_div, f1, hle, true_and]
              refine hkk _ hlt (Or.inr ⟨i, d', ?_, rfl, b2, b3⟩)
              rw [bsI, if_pos hc, b1]
              simp only [if_pos hle]
            · simp (disch := omega) only [f_L_whole_L19, ↓nM_lit, iN_lit, iN_add, iN_mul, iN_lt, iN_le, iN_eq, iN_c, gd_iN, iN_nM, nM_iN, iN_ltM, nM_lt, nM_le, iN_leM, iN_0M, nM_p1, iN_0s1, decide_true, decide_eq_true_eq, Nat.not_lt_zero, if_true, if_false, wp_some, wp_grd, wp_lb, wp_ite, wp_b1, wp_b2, wp_b3, wp_b4, wp_b5, ↓reduceIte, wp_b6, wp_b7, wp_b8, wp_b9, show 8 + s < 12 by omega, e8, show ¬ (n ≤ 0) by omega, hsp, mm, show ¬ ((ch (n - 1)).length ≤ k) by omega, show 8 * lsp 0 n + k < 48 by omega, ed, show d < 64 by omega, show d' < 64 by omega, t1, t2, u2, iN_div, f1, hle, true_and]
              refine hkk _ hlt (Or.inr ⟨k, d, ?_, rfl, hd, hT⟩)
              rw [bsI, if_pos hc, b1]
              simp only [if_neg hle]
        · have hc : ¬ (iN 9 = nM ∨ tC G ((ch (n - 1)).getD k dum) = iN 9) := by
            rintro (h | h)
            · exact absurd h (by decide)
            · rw [ecl, iN_eq (by omega) (by omega)] at h; exact h9 h
          simp (disch := omega) only [f_L_whole_L19, ↓nM_lit, iN_lit, iN_add, iN_mul, iN_lt, iN_le, iN_eq, iN_c, gd_iN, iN_nM, nM_iN, iN_ltM, nM_lt, nM_le, iN_leM, iN_0M, nM_p1, iN_0s1, decide_true, decide_eq_true_eq, Nat.not_lt_zero, if_true, if_false, wp_some, wp_grd, wp_lb, wp_ite, wp_b1, wp_b2, wp_b3, wp_b4, wp_b5, ↓reduceIte, wp_b6, wp_b7, wp_b8, wp_b9, show 8 + s < 12 by omega, e8, show ¬ (n ≤ 0) by omega, hsp, mm, show ¬ ((ch (n - 1)).length ≤ k) by omega, show 8 * lsp 0 n + k < 48 by omega, ed, show d < 64 by omega, t1, iN_div, f1, h9, true_and]
          refine hkk _ hlt ?_
          rw [bsI, if_neg hc]
          exact hV
    simp (disch := omega) only [f_L_whole, ↓nM_lit, iN_lit, iN_add, iN_mul, iN_lt, iN_le, iN_eq, iN_c, gd_iN, iN_nM, nM_iN, iN_ltM, nM_lt, nM_le, iN_leM, iN_0M, nM_p1, iN_0s1, decide_true, decide_eq_true_eq, Nat.not_lt_zero, if_true, if_false, wp_some, wp_grd, wp_lb, wp_ite, wp_b1, wp_b2, wp_b3, wp_b4, wp_b5, ↓reduceIte, wp_b6, wp_b7, wp_b8, wp_b9, show 8 + s < 12 by omega, e8, L_span (b := 0) (w := n) (by omega) (by omega), true_and]
    exact key
