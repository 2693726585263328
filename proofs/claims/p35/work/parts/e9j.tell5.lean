/-! sure, seen. -/
def M9s (N : Ob) (n : Nat) (sn c st o b : Int32) : Ob := upo (upo (upo (upo (upo (upo (upo N 16 n sn) 17 n c) 18 n st) 19 n o) 20 n b) 15 0 (iN (n + 1))) 52 0 (N 52 0 + iN 1)
theorem M9s_o {N : Ob} {n : Nat} {sn c st o b : Int32} (k : Nat) (h : (k < 15 ∨ 20 < k) ∧ k ≠ 52) : M9s N n sn c st o b k = N k := by
  unfold M9s
  rw [upo_ne (by omega), upo_ne (by omega), upo_ne (by omega), upo_ne (by omega), upo_ne (by omega), upo_ne (by omega), upo_ne (by omega)]
theorem M9s_15 {N : Ob} {n : Nat} {sn c st o b : Int32} : M9s N n sn c st o b 15 0 = iN (n + 1) := by
  unfold M9s; rw [upo_ne (by decide), up_s]
theorem M9s_k {N : Ob} {n : Nat} {sn c st o b : Int32} (i : Nat) : M9s N n sn c st o b 16 i = (if i = n then sn else N 16 i) ∧ M9s N n sn c st o b 17 i = (if i = n then c else N 17 i) ∧ M9s N n sn c st o b 18 i = (if i = n then st else N 18 i) ∧ M9s N n sn c st o b 19 i = (if i = n then o else N 19 i) ∧ M9s N n sn c st o b 20 i = (if i = n then b else N 20 i) := by
  unfold M9s
  refine ⟨?_, ?_, ?_, ?_, ?_⟩
  · rw [upo_ne (by decide), upo_ne (by decide), upo_ne (by decide), upo_ne (by decide), upo_ne (by decide), upo_ne (by decide), upo_ap]; simp only [true_and]
  · rw [upo_ne (by decide), upo_ne (by decide), upo_ne (by decide), upo_ne (by decide), upo_ne (by decide), upo_ap, upo_ne (by decide)]; simp only [true_and]
  · rw [upo_ne (by decide), upo_ne (by decide), upo_ne (by decide), upo_ne (by decide), upo_ap, upo_ne (by decide), upo_ne (by decide)]; simp only [true_and]
  · rw [upo_ne (by decide), upo_ne (by decide), upo_ne (by decide), upo_ap, upo_ne (by decide), upo_ne (by decide), upo_ne (by decide)]; simp only [true_and]
  · rw [upo_ne (by decide), upo_ne (by decide), upo_ap, upo_ne (by decide), upo_ne (by decide), upo_ne (by decide), upo_ne (by decide)]; simp only [true_and]
theorem M9s_52 {N : Ob} {n : Nat} {sn c st o b : Int32} : M9s N n sn c st o b 52 0 = N 52 0 + iN 1 := by
  unfold M9s; rw [up_s]
theorem X11_str {N : Ob} {n : Nat} (hn : n < 8) (h15 : N 15 0 = iN n) {sn : Int32} (hs : sn = iN 0 ∨ sn = iN 1) (c st o b : Int32) : f_X11_strike N sn c st o b = some (iN n, M9s N n sn c st o b) := by
  have hb : isb sn = true := by rcases hs with e | e <;> subst e <;> decide
  simp (disch := omega) only [f_X11_strike, h15, eq_grd, eq_lb, eq_b1, eq_b2, eq_b3, eq_b4, eq_b5, ↓nM_lit, iN_lit, iN_add, iN_mul, iN_lt, iN_le, iN_eq, iN_c, gd_iN, iN_nM, nM_iN, iN_ltM, nM_lt, nM_le, iN_leM, iN_0M, nM_p1, iN_0s1, decide_true, decide_eq_true_eq, Nat.not_lt_zero, if_true, if_false, hn, hb, upo_ne, up_s, iN_s1 (show 0 < n + 1 by omega), Nat.add_sub_cancel, M9s]
/-- the class's rules, one more -/
def X7p (x : Ob) (n : Nat) (su c st o b : Int32) : Ob := upo (upo (upo (upo (upo (upo x 1 n su) 2 n c) 3 n st) 4 n o) 5 n b) 0 0 (iN (n + 1))
theorem X7_add {x : Ob} {n : Nat} (hn : n < 8) (h0 : x 0 0 = iN n) {su : Int32} (hs : su = iN 0 ∨ su = iN 1) (c st o b : Int32) : f_X7_add x su c st o b = some (iN n, X7p x n su c st o b) := by
  have hb : isb su = true := by rcases hs with e | e <;> subst e <;> decide
  simp (disch := omega) only [f_X7_add, h0, isB_y hn (show 8 < 2147483648 by decide), eq_grd, eq_lb, eq_b1, eq_b2, eq_b3, eq_b4, eq_b5, ↓nM_lit, iN_lit, iN_add, iN_mul, iN_lt, iN_le, iN_eq, iN_c, gd_iN, iN_nM, nM_iN, iN_ltM, nM_lt, nM_le, iN_leM, iN_0M, nM_p1, iN_0s1, decide_true, decide_eq_true_eq, Nat.not_lt_zero, if_true, if_false, show ¬ (1 = 0) by decide, if_false, hn, hb, upo_ne, up_s, iN_s1 (show 0 < n + 1 by omega), Nat.add_sub_cancel, X7p]
theorem X7p_k {x : Ob} {n : Nat} {su c st o b : Int32} (i : Nat) : X7p x n su c st o b 0 0 = iN (n + 1) ∧ X7p x n su c st o b 1 i = (if i = n then su else x 1 i) ∧ X7p x n su c st o b 2 i = (if i = n then c else x 2 i) ∧ X7p x n su c st o b 3 i = (if i = n then st else x 3 i) ∧ X7p x n su c st o b 4 i = (if i = n then o else x 4 i) ∧ X7p x n su c st o b 5 i = (if i = n then b else x 5 i) := by
  unfold X7p
  refine ⟨up_s _ _ _ _, ?_, ?_, ?_, ?_, ?_⟩
  · rw [upo_ne (by decide), upo_ne (by decide), upo_ne (by decide), upo_ne (by decide), upo_ne (by decide), upo_ap]; simp only [true_and]
  · rw [upo_ne (by decide), upo_ne (by decide), upo_ne (by decide), upo_ne (by decide), upo_ap, upo_ne (by decide)]; simp only [true_and]
  · rw [upo_ne (by decide), upo_ne (by decide), upo_ne (by decide), upo_ap, upo_ne (by decide), upo_ne (by decide)]; simp only [true_and]
  · rw [upo_ne (by decide), upo_ne (by decide), upo_ap, upo_ne (by decide), upo_ne (by decide), upo_ne (by decide)]; simp only [true_and]
  · rw [upo_ne (by decide), upo_ap, upo_ne (by decide), upo_ne (by decide), upo_ne (by decide), upo_ne (by decide)]; simp only [true_and]
/-- both sides have one more rule of striking -/
theorem str_RI {j : Nat} {K : Nat → Ob} {N : Ob} (hj : j < 1000000) (h : RI j K N) {n : Nat} (hn : n < 8) (h15 : N 15 0 = iN n) {sn su c st o b : Int32} (hs : (sn = iN 0 ∧ su = iN 1) ∨ (sn = iN 1 ∧ su = iN 0 ∧ (st = iN 1 ∨ st = nM))) :
    wp (f_X10_outdateAll (va_up K 2 (X7p (K 2) n su c st o b))) (fun K2 => RI (j + 1) K2 (M9s N n sn c st o b)) := by
  have c0 := fun k h => M9s_o (N := N) (n := n) (sn := sn) (c := c) (st := st) (o := o) (b := b) k h
  have c15 := M9s_15 (N := N) (n := n) (sn := sn) (c := c) (st := st) (o := o) (b := b)
  have ck := fun i => M9s_k (N := N) (n := n) (sn := sn) (c := c) (st := st) (o := o) (b := b) i
  have c52 := M9s_52 (N := N) (n := n) (sn := sn) (c := c) (st := st) (o := o) (b := b)
  generalize M9s N n sn c st o b = M' at *
  have hgr : gr M' = gr N := by funext k; unfold gr; split; exact c0 k (by omega); rfl
  have e15 : sr M' 15 0 = iN (n + 1) := by rw [← sr_e (by decide) (by decide)]; exact c15
  have e15n : sr N 15 0 = iN n := by rw [← sr_e (by decide) (by decide)]; exact h15
  have enn : nn (sr M' 15 0) = n + 1 := by rw [e15, nn, iN_c (by omega)]
  have ennn : nn (sr N 15 0) = n := by rw [e15n, nn, iN_c (by omega)]
  obtain ⟨hl, ht, hR, hG⟩ := h.1
  refine RI_out hj h ?_ ?_ (fun i hi => vu_ne (by omega)) (c0 9 (by omega)) (c0 10 (by omega)) c52 (fun k k1 k2 => c0 k (by omega)) (ZE_cg (c0 21 (by omega)) (c0 26 (by omega)) h.2.2.2.2.2)
  · refine ⟨WLex_cg (fun k hk => c0 k (by omega)) hl, WTxt_cg (fun k hk => c0 k (by omega)) ht, ?_, by rw [hgr]; exact hG⟩
    refine ⟨⟨n + 1, by omega, e15⟩, fun k k1 k2 => sr_e k1 k2, ?_⟩
    intro g hg
    rw [enn] at hg
    rw [← sr_e (show 15 ≤ 16 by decide) (by decide), ← sr_e (show 15 ≤ 18 by decide) (by decide), (ck g).1, (ck g).2.2.1]
    by_cases e : g = n
    · rw [if_pos e, if_pos e]
      rcases hs with ⟨e1, -⟩ | ⟨e1, -, e2⟩
      · exact Or.inl e1
      · exact Or.inr ⟨e1, e2⟩
    · rw [if_neg e, if_neg e]
      have := hR.2.2 g (by rw [ennn]; omega)
      rw [← sr_e (show 15 ≤ 16 by decide) (by decide), ← sr_e (show 15 ≤ 18 by decide) (by decide)] at this
      exact this
  · obtain ⟨h3, h7, h2, hs5, h8⟩ := h.2.1
    refine ⟨by rw [vu_ne (by decide)]; exact RX3_cg (fun k hk => c0 k (by omega)) h3, ?_, by rw [vu_ne (by decide), hgr]; exact h2, by rw [vu_ne (by decide), hgr]; exact hs5, by rw [vu_ne (by decide)]; exact RX8_cg (fun k k1 k2 => c0 k (by omega)) h8⟩
    rw [vu_eq]
    obtain ⟨-, x0, xr⟩ := h7
    refine ⟨⟨n + 1, by omega, e15⟩, by rw [e15]; exact (X7p_k 0).1, ?_⟩
    intro g hg
    rw [enn] at hg
    obtain ⟨-, p1, p2, p3, p4, p5⟩ := X7p_k (x := K 2) (n := n) (su := su) (c := c) (st := st) (o := o) (b := b) g
    obtain ⟨q1, q2, q3, q4, q5⟩ := ck g
    rw [p1, p2, p3, p4, p5, ← sr_e (show 15 ≤ 16 by decide) (by decide), ← sr_e (show 15 ≤ 17 by decide) (by decide), ← sr_e (show 15 ≤ 18 by decide) (by decide), ← sr_e (show 15 ≤ 19 by decide) (by decide), ← sr_e (show 15 ≤ 20 by decide) (by decide), q1, q2, q3, q4, q5]
    by_cases e : g = n
    · simp only [e, if_true]
      refine ⟨?_, trivial, trivial, trivial, trivial⟩
      rcases hs with ⟨e1, e2⟩ | ⟨e1, e2, -⟩
      · exact Or.inl ⟨e1, e2⟩
      · exact Or.inr ⟨e1, e2⟩
    · simp only [e, if_false]
      have := xr g (by rw [ennn]; omega)
      rw [← sr_e (show 15 ≤ 16 by decide) (by decide), ← sr_e (show 15 ≤ 17 by decide) (by decide), ← sr_e (show 15 ≤ 18 by decide) (by decide), ← sr_e (show 15 ≤ 19 by decide) (by decide), ← sr_e (show 15 ≤ 20 by decide) (by decide)] at this
      exact this
theorem RI_str {j : Nat} {K : Nat → Ob} {M : Ob} (h : RI j K M) : ∃ n, n ≤ 8 ∧ M 15 0 = iN n ∧ K 2 0 0 = iN n := by
  obtain ⟨a, ha, e⟩ := h.1.2.2.1.1
  have e' : M 15 0 = iN a := by rw [sr_e (M := M) (show 15 ≤ 15 by decide) (by decide)]; exact e
  exact ⟨a, ha, e', by rw [h.2.1.2.1.2.1]; exact e⟩
theorem J34_0 (x : Ob) (p1 p2 p3 : Int32) : f_X11_sure_J34 x p1 p2 p3 (iN 0) = some (0, upo x 67 0 (iN 1)) := by
  rw [f_X11_sure_J34, mB_0, mB_0, eq_b2]
  split <;> exact if_pos rfl
theorem J43_0 (x : Ob) (p1 p2 p3 p4 : Int32) : f_X11_seen_J43 x p1 p2 p3 p4 (iN 0) = some (0, upo x 67 0 (iN 1)) := by
  rw [f_X11_seen_J43, mB_0, mB_0, eq_b2]
  split <;> exact if_pos rfl
theorem J34_1 {x : Ob} {n : Nat} (hn : n ≤ 8) (h15 : x 15 0 = iN n) (p1 p2 p3 : Int32) : f_X11_sure_J34 x p1 p2 p3 (iN 1) = if n = 8 then some (0, upo x 67 0 (iN 2)) else bnd2 (f_X11_strike (upo x 67 0 (iN 0)) (iN 0) p1 p2 p3 nM) (fun r9 x_o10 => some (r9, x_o10)) := by
  rw [f_X11_sure_J34, h15]
  by_cases h : n = 8
  · subst h
    rw [if_pos (by decide), if_pos rfl]
    rw [show (0 : Int32) = iN 0 from rfl, mB_10, eq_b2]
    exact if_pos rfl
  · rw [if_neg h, if_neg (show ¬ ((8 : Int32) ≤ iN n) from (by rw [iN_le (by decide) (by omega)]; omega : ¬ (iN 8 ≤ iN n)))]
    rw [show (1 : Int32) = iN 1 from rfl, mB_11, eq_b2]
    rw [if_neg (show ¬ ((iN 1, upo x 67 0 (iN 0)).1 = 0) from (by decide : ¬ (iN 1 = 0)))]
    rfl
theorem J43_1 {x : Ob} {n : Nat} (hn : n ≤ 8) (h15 : x 15 0 = iN n) (p1 p2 p3 p4 : Int32) : f_X11_seen_J43 x p1 p2 p3 p4 (iN 1) = if n = 8 then some (0, upo x 67 0 (iN 2)) else bnd2 (f_X11_strike (upo x 67 0 (iN 0)) (iN 1) p1 p2 p3 p4) (fun r9 x_o10 => some (r9, x_o10)) := by
  rw [f_X11_seen_J43, h15]
  by_cases h : n = 8
  · subst h
    rw [if_pos (by decide), if_pos rfl]
    rw [show (0 : Int32) = iN 0 from rfl, mB_10, eq_b2]
    exact if_pos rfl
  · rw [if_neg h, if_neg (show ¬ ((8 : Int32) ≤ iN n) from (by rw [iN_le (by decide) (by omega)]; omega : ¬ (iN 8 ≤ iN n)))]
    rw [show (1 : Int32) = iN 1 from rfl, mB_11, eq_b2]
    rw [if_neg (show ¬ ((iN 1, upo x 67 0 (iN 0)).1 = 0) from (by decide : ¬ (iN 1 = 0)))]
theorem J20_n (K : Nat → Ob) {p1 p2 p3 : Int32} (h : nb p1 10 ∨ nb p3 10) : f_X10_sure_J20 K p1 p2 p3 (iN 1) = some (2, 0, K) := by
  rcases in_or p1 (show 10 < 2147483648 by decide) with ⟨c, hc, e1⟩ | hn
  · rcases h with h | h
    · subst e1
      rcases h with h | h
      · rw [iN_lt0 (by omega)] at h; exact h.elim
      · rw [iN_le (by decide) (by omega)] at h; omega
    · subst e1
      simp (disch := omega) only [f_X10_sure_J20, isB_y hc (show 10 < 2147483648 by decide), isB_n h, eq_grd, eq_lb, eq_b1, eq_b2, eq_b3, eq_b4, eq_b5, ↓nM_lit, iN_lit, iN_add, iN_mul, iN_lt, iN_le, iN_eq, iN_c, gd_iN, iN_nM, nM_iN, iN_ltM, nM_lt, nM_le, iN_leM, iN_0M, nM_p1, iN_0s1, decide_true, decide_eq_true_eq, Nat.not_lt_zero, if_true, if_false, show ¬ (1 = 0) by decide, if_false, if_true]
  · simp (disch := omega) only [f_X10_sure_J20, isB_n hn, eq_grd, eq_lb, eq_b1, eq_b2, eq_b3, eq_b4, eq_b5, ↓nM_lit, iN_lit, iN_add, iN_mul, iN_lt, iN_le, iN_eq, iN_c, gd_iN, iN_nM, nM_iN, iN_ltM, nM_lt, nM_le, iN_leM, iN_0M, nM_p1, iN_0s1, decide_true, decide_eq_true_eq, Nat.not_lt_zero, if_true, if_false, if_true]
theorem J19_n (K : Nat → Ob) (p1 p2 p3 : Int32) : f_X10_sure_J19 K p1 p2 p3 = some (2, 0, K) := by
  rcases in_or p1 (show 10 < 2147483648 by decide) with ⟨c, hc, e1⟩ | hn
  · subst e1
    simp (disch := omega) only [f_X10_sure_J19, f_X10_sure_J20, isB_y hc (show 10 < 2147483648 by decide), eq_grd, eq_lb, eq_b1, eq_b2, eq_b3, eq_b4, eq_b5, ↓nM_lit, iN_lit, iN_add, iN_mul, iN_lt, iN_le, iN_eq, iN_c, gd_iN, iN_nM, nM_iN, iN_ltM, nM_lt, nM_le, iN_leM, iN_0M, nM_p1, iN_0s1, decide_true, decide_eq_true_eq, Nat.not_lt_zero, if_true, if_false, show ¬ (1 = 0) by decide, if_false, if_true]
  · simp (disch := omega) only [f_X10_sure_J19, f_X10_sure_J20, isB_n hn, eq_grd, eq_lb, eq_b1, eq_b2, eq_b3, eq_b4, eq_b5, ↓nM_lit, iN_lit, iN_add, iN_mul, iN_lt, iN_le, iN_eq, iN_c, gd_iN, iN_nM, nM_iN, iN_ltM, nM_lt, nM_le, iN_leM, iN_0M, nM_p1, iN_0s1, decide_true, decide_eq_true_eq, Nat.not_lt_zero, if_true, if_false, if_true]
theorem op_sure {j : Nat} {K : Nat → Ob} {M : Ob} (hj : j < 1000000) (h : RI j K M) (p1 p2 p3 : Int32) : Op_sure RI j K M p1 p2 p3 := by
  have bad : f_X10_sure K p1 p2 p3 = some (2, 0, K) → f_X11_sure M p1 p2 p3 = some (0, upo M 67 0 (iN 1)) → Op_sure RI j K M p1 p2 p3 := fun e1 e2 =>
    ⟨2, 0, K, 0, upo M 67 0 (iN 1), iN 1, e1, e2, congrArg some (u67 _ _), Or.inr (Or.inl ⟨rfl, rfl⟩), RI_j (RI_67 _ h)⟩
  by_cases hnear : p2 < -5 ∨ 5 < p2 ∨ p2 = 0
  · refine bad ?_ ?_
    · rw [f_X10_sure]
      rcases hnear with h1 | h1 | h1
      · rw [if_pos h1, J19_n]
      · by_cases h0 : p2 < -5
        · rw [if_pos h0, J19_n]
        · rw [if_neg h0, if_pos h1, J19_n]
      · subst h1
        rw [if_neg (by decide), if_neg (by decide), if_pos rfl, J19_n]
    · rcases in_or p1 (show 10 < 2147483648 by decide) with ⟨c, hc, e1⟩ | hn
      · subst e1
        rw [f_X11_sure, isD_y hc, eq_b1, if_neg (by decide), f_X11_isIn, f_X11_sure_J33]
        rcases hnear with h1 | h1 | h1
        · rw [if_pos h1, eq_b1, if_pos rfl]; exact J34_0 _ _ _ _
        · by_cases h0 : p2 < -5
          · rw [if_pos h0, eq_b1, if_pos rfl]; exact J34_0 _ _ _ _
          · rw [if_neg h0, if_pos h1, eq_b1, if_pos rfl]; exact J34_0 _ _ _ _
        · subst h1
          rw [if_neg (by decide), if_neg (by decide), eq_b1, if_neg (by decide), if_pos rfl]; exact J34_0 _ _ _ _
      · rw [f_X11_sure, isD_n hn, eq_b1, if_pos (show iN 0 = 0 from rfl), f_X11_sure_J33]; exact J34_0 _ _ _ _
  · have n1 : ¬ (p2 < -5) := fun h => hnear (Or.inl h)
    have n2 : ¬ (5 < p2) := fun h => hnear (Or.inr (Or.inl h))
    have n3 : ¬ (p2 = 0) := fun h => hnear (Or.inr (Or.inr h))
    have k0 : f_X10_sure K p1 p2 p3 = f_X10_sure_J20 K p1 p2 p3 (iN 1) := by
      rw [f_X10_sure, if_neg n1, if_neg n2, if_neg n3]; rfl
    rcases in_or p1 (show 10 < 2147483648 by decide) with ⟨c, hc, e1⟩ | hn
    · have m0 : f_X11_sure M p1 p2 p3 = bnd1 (f_X11_isDigit p3) (fun r23 => if r23 = 0 then f_X11_sure_J33 M p1 p2 p3 else f_X11_sure_J34 M p1 p2 p3 1) := by
        subst e1
        rw [f_X11_sure, isD_y hc, eq_b1, if_neg (by decide), f_X11_isIn, if_neg n1, if_neg n2, eq_b1, if_neg (by decide), if_neg n3]
      rcases in_or p3 (show 10 < 2147483648 by decide) with ⟨o, ho, e3⟩ | hn
      · obtain ⟨n, hn8, e15, k15⟩ := RI_str h
        have m1 : f_X11_sure M p1 p2 p3 = f_X11_sure_J34 M p1 p2 p3 (iN 1) := by
          rw [m0, e3, isD_y ho, eq_b1, if_neg (by decide)]; rfl
        rw [J34_1 hn8 e15] at m1
        by_cases h8 : n = 8
        · refine ⟨3, 0, K, 0, upo M 67 0 (iN 2), iN 2, ?_, ?_, congrArg some (u67 _ _), Or.inr (Or.inr ⟨rfl, rfl⟩), RI_j (RI_67 _ h)⟩
          · rw [k0]
            subst e1; subst e3; subst h8
            simp (disch := omega) only [f_X10_sure_J20, isB_y hc (show 10 < 2147483648 by decide), isB_y ho (show 10 < 2147483648 by decide), f_X7_isFull, k15, eq_grd, eq_lb, eq_b1, eq_b2, eq_b3, eq_b4, eq_b5, ↓nM_lit, iN_lit, iN_add, iN_mul, iN_lt, iN_le, iN_eq, iN_c, gd_iN, iN_nM, nM_iN, iN_ltM, nM_lt, nM_le, iN_leM, iN_0M, nM_p1, iN_0s1, decide_true, decide_eq_true_eq, Nat.not_lt_zero, if_true, if_false, show ¬ (1 = 0) by decide, show ¬ (8 < 8) by decide, if_false, if_true]
          · rw [m1, if_pos h8]
        · have hN := RI_67 (iN 0) h
          have n15 : upo M 67 0 (iN 0) 15 0 = iN n := by rw [upo_ne (by decide)]; exact e15
          obtain ⟨K2, o1, o2⟩ := str_RI hj hN (show n < 8 by omega) n15 (sn := iN 0) (su := iN 1) (c := p1) (st := p2) (o := p3) (b := nM) (Or.inl ⟨rfl, rfl⟩)
          refine ⟨0, iN n, K2, iN n, M9s (upo M 67 0 (iN 0)) n (iN 0) p1 p2 p3 nM, iN 0, ?_, ?_, ?_, Or.inl ⟨rfl, rfl, rfl⟩, o2⟩
          · rw [k0]
            have ha := X7_add (show n < 8 by omega) k15 (su := iN 1) (Or.inr rfl) p1 p2 p3 nM
            subst e1; subst e3
            simp (disch := omega) only [f_X10_sure_J20, isB_y hc (show 10 < 2147483648 by decide), isB_y ho (show 10 < 2147483648 by decide), f_X7_isFull, k15, f_X7_addSure, ha, o1, eq_grd, eq_lb, eq_b1, eq_b2, eq_b3, eq_b4, eq_b5, ↓nM_lit, iN_lit, iN_add, iN_mul, iN_lt, iN_le, iN_eq, iN_c, gd_iN, iN_nM, nM_iN, iN_ltM, nM_lt, nM_le, iN_leM, iN_0M, nM_p1, iN_0s1, decide_true, decide_eq_true_eq, Nat.not_lt_zero, if_true, if_false, show ¬ (1 = 0) by decide, show n < 8 by omega, if_false, if_true]
          · rw [m1, if_neg h8, X11_str (show n < 8 by omega) n15 (Or.inl rfl), eq_b2]
          · rw [f_X11_thrown, M9s_o 67 (by omega), u67]
      · refine bad (by rw [k0]; exact J20_n K (Or.inr hn)) ?_
        rw [m0, isD_n hn, eq_b1, if_pos (show iN 0 = 0 from rfl), f_X11_sure_J33]; exact J34_0 _ _ _ _
    · refine bad (by rw [k0]; exact J20_n K (Or.inl hn)) ?_
      rw [f_X11_sure, isD_n hn, eq_b1, if_pos (show iN 0 = 0 from rfl), f_X11_sure_J33]; exact J34_0 _ _ _ _
theorem cN_or (p : Int32) : ((p = nM ∨ ∃ c, c < 10 ∧ p = iN c) ∧ f_X10_isCategoryOrNone p = some (iN 1)) ∨ (p ≠ nM ∧ nb p 10 ∧ f_X10_isCategoryOrNone p = some (iN 0)) := by
  by_cases h : p = nM
  · exact Or.inl ⟨Or.inl h, by rw [h]; rfl⟩
  · have h' : ¬ (p = -1) := h
    rcases in_or p (show 10 < 2147483648 by decide) with ⟨c, hc, e⟩ | hn
    · refine Or.inl ⟨Or.inr ⟨c, hc, e⟩, ?_⟩
      subst e
      simp (disch := omega) only [f_X10_isCategoryOrNone, isB_y hc (show 10 < 2147483648 by decide), eq_grd, eq_lb, eq_b1, eq_b2, eq_b3, eq_b4, eq_b5, ↓nM_lit, iN_lit, iN_add, iN_mul, iN_lt, iN_le, iN_eq, iN_c, gd_iN, iN_nM, nM_iN, iN_ltM, nM_lt, nM_le, iN_leM, iN_0M, nM_p1, iN_0s1, decide_true, decide_eq_true_eq, Nat.not_lt_zero, if_true, if_false, show ¬ (1 = 0) by decide]
    · refine Or.inr ⟨h, hn, ?_⟩
      rw [f_X10_isCategoryOrNone, if_neg h']
      simp (disch := omega) only [isB_n hn, eq_grd, eq_lb, eq_b1, eq_b2, eq_b3, eq_b4, eq_b5, ↓nM_lit, iN_lit, iN_add, iN_mul, iN_lt, iN_le, iN_eq, iN_c, gd_iN, iN_nM, nM_iN, iN_ltM, nM_lt, nM_le, iN_leM, iN_0M, nM_p1, iN_0s1, decide_true, decide_eq_true_eq, Nat.not_lt_zero, if_true, if_false]
theorem op_seen {j : Nat} {K : Nat → Ob} {M : Ob} (hj : j < 1000000) (h : RI j K M) (p1 p2 p3 p4 : Int32) : Op_seen RI j K M p1 p2 p3 p4 := by
  have bad : f_X10_seen K p1 p2 p3 p4 = some (2, 0, K) → f_X11_seen M p1 p2 p3 p4 = some (0, upo M 67 0 (iN 1)) → Op_seen RI j K M p1 p2 p3 p4 := fun e1 e2 =>
    ⟨2, 0, K, 0, upo M 67 0 (iN 1), iN 1, e1, e2, congrArg some (u67 _ _), Or.inr (Or.inl ⟨rfl, rfl⟩), RI_j (RI_67 _ h)⟩
  have r42 : f_X11_seen_J42 M p1 p2 p3 p4 = some (0, upo M 67 0 (iN 1)) := by
    rw [f_X11_seen_J42]; exact J43_0 _ _ _ _ _
  have k15n : ∀ s0, (s0 = iN 0 ∨ nb p1 10 ∨ nb p3 10 ∨ f_X10_isCategoryOrNone p4 = some (iN 0)) → f_X10_seen_J15 K p1 p2 p3 p4 s0 = some (2, 0, K) := by
    intro s0 hs
    rcases in_or p1 (show 10 < 2147483648 by decide) with ⟨c, hc, e1⟩ | hn
    · rw [f_X10_seen_J15, e1]
      simp (disch := omega) only [isB_y hc (show 10 < 2147483648 by decide), eq_grd, eq_lb, eq_b1, eq_b2, eq_b3, eq_b4, eq_b5, ↓nM_lit, iN_lit, iN_add, iN_mul, iN_lt, iN_le, iN_eq, iN_c, gd_iN, iN_nM, nM_iN, iN_ltM, nM_lt, nM_le, iN_leM, iN_0M, nM_p1, iN_0s1, decide_true, decide_eq_true_eq, Nat.not_lt_zero, if_true, if_false, show ¬ (1 = 0) by decide, if_false]
      by_cases h0 : s0 = iN 0
      · simp only [h0, if_true]
      · simp only [h0, if_false]
        rcases in_or p3 (show 10 < 2147483648 by decide) with ⟨o, ho, e3⟩ | hn3
        · rw [e3]
          simp (disch := omega) only [isB_y ho (show 10 < 2147483648 by decide), eq_grd, eq_lb, eq_b1, eq_b2, eq_b3, eq_b4, eq_b5, ↓nM_lit, iN_lit, iN_add, iN_mul, iN_lt, iN_le, iN_eq, iN_c, gd_iN, iN_nM, nM_iN, iN_ltM, nM_lt, nM_le, iN_leM, iN_0M, nM_p1, iN_0s1, decide_true, decide_eq_true_eq, Nat.not_lt_zero, if_true, if_false, show ¬ (1 = 0) by decide, if_false]
          rcases hs with hs | hs | hs | hs
          · exact absurd hs h0
          · subst e1
            rcases hs with hs | hs
            · rw [iN_lt0 (by omega)] at hs; exact hs.elim
            · rw [iN_le (by decide) (by omega)] at hs; omega
          · subst e3
            rcases hs with hs | hs
            · rw [iN_lt0 (by omega)] at hs; exact hs.elim
            · rw [iN_le (by decide) (by omega)] at hs; omega
          · simp (disch := omega) only [hs, eq_grd, eq_lb, eq_b1, eq_b2, eq_b3, eq_b4, eq_b5, ↓nM_lit, iN_lit, iN_add, iN_mul, iN_lt, iN_le, iN_eq, iN_c, gd_iN, iN_nM, nM_iN, iN_ltM, nM_lt, nM_le, iN_leM, iN_0M, nM_p1, iN_0s1, decide_true, decide_eq_true_eq, Nat.not_lt_zero, if_true, if_false, if_true]
        · simp (disch := omega) only [isB_n hn3, eq_grd, eq_lb, eq_b1, eq_b2, eq_b3, eq_b4, eq_b5, ↓nM_lit, iN_lit, iN_add, iN_mul, iN_lt, iN_le, iN_eq, iN_c, gd_iN, iN_nM, nM_iN, iN_ltM, nM_lt, nM_le, iN_leM, iN_0M, nM_p1, iN_0s1, decide_true, decide_eq_true_eq, Nat.not_lt_zero, if_true, if_false, if_true]
    · simp (disch := omega) only [f_X10_seen_J15, isB_n hn, eq_grd, eq_lb, eq_b1, eq_b2, eq_b3, eq_b4, eq_b5, ↓nM_lit, iN_lit, iN_add, iN_mul, iN_lt, iN_le, iN_eq, iN_c, gd_iN, iN_nM, nM_iN, iN_ltM, nM_lt, nM_le, iN_leM, iN_0M, nM_p1, iN_0s1, decide_true, decide_eq_true_eq, Nat.not_lt_zero, if_true, if_false, if_true]
  by_cases hstep : p2 = nM ∨ p2 = iN 1
  · have k0 : f_X10_seen K p1 p2 p3 p4 = f_X10_seen_J15 K p1 p2 p3 p4 (iN 1) := by
      rw [f_X10_seen, f_X10_seen_J10]
      rcases hstep with e | e
      · rw [if_pos (show p2 = -1 from e)]; rfl
      · rw [e, if_neg (by decide), if_pos (by rfl)]; rfl
    have m0 : ∀ c, c < 10 → p1 = iN c → f_X11_seen M p1 p2 p3 p4 = f_X11_seen_J17 M p1 p2 p3 p4 := by
      intro c hc e1
      rw [f_X11_seen, e1, isD_y hc, eq_b1, if_neg (by decide)]
      rcases hstep with e | e
      · rw [if_pos (show p2 = -1 from e)]
      · rw [e, if_neg (by decide), if_pos (by rfl)]
    rcases in_or p1 (show 10 < 2147483648 by decide) with ⟨c, hc, e1⟩ | hn
    · rcases in_or p3 (show 10 < 2147483648 by decide) with ⟨o, ho, e3⟩ | hn
      · rcases cN_or p4 with ⟨hp4, e4⟩ | ⟨hne, hn, e4⟩
        · obtain ⟨n, hn8, e15, k15⟩ := RI_str h
          have m1 : f_X11_seen M p1 p2 p3 p4 = f_X11_seen_J43 M p1 p2 p3 p4 (iN 1) := by
            rw [m0 c hc e1, f_X11_seen_J17, e3, isD_y ho, eq_b1, if_neg (by decide)]
            rcases hp4 with e | ⟨q, hq, e⟩
            · rw [if_pos (show p4 = -1 from e), f_X11_seen_J38]; rfl
            · have : ¬ (p4 = -1) := by
                intro h1
                have h2 : iN q = nM := by rw [← e]; exact h1
                rw [iN_nM (by omega)] at h2; exact h2
              rw [if_neg this, e, isD_y hq, eq_b1, if_neg (by decide), f_X11_seen_J38]; rfl
          rw [J43_1 hn8 e15] at m1
          by_cases h8 : n = 8
          · refine ⟨3, 0, K, 0, upo M 67 0 (iN 2), iN 2, ?_, ?_, congrArg some (u67 _ _), Or.inr (Or.inr ⟨rfl, rfl⟩), RI_j (RI_67 _ h)⟩
            · rw [k0]
              subst e1; subst e3; subst h8
              simp (disch := omega) only [f_X10_seen_J15, isB_y hc (show 10 < 2147483648 by decide), isB_y ho (show 10 < 2147483648 by decide), e4, f_X7_isFull, k15, eq_grd, eq_lb, eq_b1, eq_b2, eq_b3, eq_b4, eq_b5, ↓nM_lit, iN_lit, iN_add, iN_mul, iN_lt, iN_le, iN_eq, iN_c, gd_iN, iN_nM, nM_iN, iN_ltM, nM_lt, nM_le, iN_leM, iN_0M, nM_p1, iN_0s1, decide_true, decide_eq_true_eq, Nat.not_lt_zero, if_true, if_false, show ¬ (1 = 0) by decide, show ¬ (8 < 8) by decide, if_false, if_true]
            · rw [m1, if_pos h8]
          · have hN := RI_67 (iN 0) h
            have n15 : upo M 67 0 (iN 0) 15 0 = iN n := by rw [upo_ne (by decide)]; exact e15
            obtain ⟨K2, o1, o2⟩ := str_RI hj hN (show n < 8 by omega) n15 (sn := iN 1) (su := iN 0) (c := p1) (st := p2) (o := p3) (b := p4) (Or.inr ⟨rfl, rfl, hstep.symm⟩)
            refine ⟨0, iN n, K2, iN n, M9s (upo M 67 0 (iN 0)) n (iN 1) p1 p2 p3 p4, iN 0, ?_, ?_, ?_, Or.inl ⟨rfl, rfl, rfl⟩, o2⟩
            · rw [k0]
              have ha := X7_add (show n < 8 by omega) k15 (su := iN 0) (Or.inl rfl) p1 p2 p3 p4
              subst e1; subst e3
              simp (disch := omega) only [f_X10_seen_J15, isB_y hc (show 10 < 2147483648 by decide), isB_y ho (show 10 < 2147483648 by decide), e4, f_X7_isFull, k15, f_X7_addSeen, ha, o1, eq_grd, eq_lb, eq_b1, eq_b2, eq_b3, eq_b4, eq_b5, ↓nM_lit, iN_lit, iN_add, iN_mul, iN_lt, iN_le, iN_eq, iN_c, gd_iN, iN_nM, nM_iN, iN_ltM, nM_lt, nM_le, iN_leM, iN_0M, nM_p1, iN_0s1, decide_true, decide_eq_true_eq, Nat.not_lt_zero, if_true, if_false, show ¬ (1 = 0) by decide, show n < 8 by omega, if_false, if_true]
            · rw [m1, if_neg h8, X11_str (show n < 8 by omega) n15 (Or.inr rfl), eq_b2]
            · rw [f_X11_thrown, M9s_o 67 (by omega), u67]
        · refine bad (by rw [k0]; exact k15n _ (Or.inr (Or.inr (Or.inr e4)))) ?_
          rw [m0 c hc e1, f_X11_seen_J17, r42, e3, isD_y ho, eq_b1, if_neg (by decide), if_neg (show ¬ (p4 = -1) from hne), isD_n hn, eq_b1, if_pos (show iN 0 = 0 from rfl)]
      · refine bad (by rw [k0]; exact k15n _ (Or.inr (Or.inr (Or.inl hn)))) ?_
        rw [m0 c hc e1, f_X11_seen_J17, isD_n hn, eq_b1, if_pos (show iN 0 = 0 from rfl), r42]
    · refine bad (by rw [k0]; exact k15n _ (Or.inr (Or.inl hn))) ?_
      rw [f_X11_seen, isD_n hn, eq_b1, if_pos (show iN 0 = 0 from rfl), r42]
  · have s1 : ¬ (p2 = -1) := fun e => hstep (Or.inl e)
    have s2 : ¬ (p2 = 1) := fun e => hstep (Or.inr e)
    refine bad ?_ ?_
    · rw [f_X10_seen, if_neg s1, if_neg s2]
      exact k15n _ (Or.inl rfl)
    · rcases in_or p1 (show 10 < 2147483648 by decide) with ⟨c, hc, e1⟩ | hn
      · rw [f_X11_seen, e1, isD_y hc, eq_b1, if_neg (by decide), if_neg s1, if_neg s2]
        rw [e1] at r42
        exact r42
      · rw [f_X11_seen, isD_n hn, eq_b1, if_pos (show iN 0 = 0 from rfl), r42]
