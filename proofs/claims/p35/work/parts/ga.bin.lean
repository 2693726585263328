/-! The law's loop over pairs of edges. -/
def bst (G : Ob) (s g : Nat) (la lb : List Tr) (k i : Nat) (ch : Ch) : Ch := if G 24 g ≠ nM ∧ k < la.length ∧ i < lb.length ∧ tC G (la.getD k dum) = G 23 g ∧ tC G (lb.getD i dum) = G 24 g then tryE G ch s g (la.getD k dum) (lb.getD i dum) else ch
def chY (G : Ob) (s : Nat) (la lb : List Tr) : Nat → Ch → Ch
  | 0, ch => ch
  | y + 1, ch => bst G s (y / 64) la lb (y / 8 % 8) (y % 8) (chY G s la lb y ch)
theorem chY_i {G : Ob} {s g k : Nat} {la lb : List Tr} {ch : Ch} (hk : k < 8) (i : Nat) (hi : i ≤ 8) : chY G s la lb (64 * g + 8 * k + i) ch = if G 24 g ≠ nM ∧ k < la.length ∧ tC G (la.getD k dum) = G 23 g then (lb.take i).foldl (fun ch r => if tC G r = G 24 g then tryE G ch s g (la.getD k dum) r else ch) (chY G s la lb (64 * g + 8 * k) ch) else chY G s la lb (64 * g + 8 * k) ch := by
  induction i with
  | zero => rw [Nat.add_zero, List.take_zero]; simp
  | succ i ih =>
    have ih := ih (by omega)
    rw [← Nat.add_assoc, chY, ih, show (64 * g + 8 * k + i) / 64 = g by omega, show (64 * g + 8 * k + i) / 8 % 8 = k by omega, show (64 * g + 8 * k + i) % 8 = i by omega]
    by_cases hc : G 24 g ≠ nM ∧ k < la.length ∧ tC G (la.getD k dum) = G 23 g
    · rw [if_pos hc, if_pos hc]
      by_cases hl : i < lb.length
      · rw [take_s hl, List.foldl_append, List.foldl_cons, List.foldl_nil, bst]
        by_cases h2 : tC G (lb.getD i dum) = G 24 g
        · rw [if_pos ⟨hc.1, hc.2.1, hl, hc.2.2, h2⟩, if_pos h2]
        · rw [if_neg (fun h => h2 h.2.2.2.2), if_neg h2]
      · rw [List.take_of_length_le (by omega), List.take_of_length_le (by omega), bst, if_neg (fun h => hl h.2.2.1)]
    · rw [if_neg hc, if_neg hc, bst, if_neg (fun h => hc ⟨h.1, h.2.1, h.2.2.2.1⟩)]
theorem chY_k {G : Ob} {s g : Nat} {la lb : List Tr} {ch : Ch} (h8 : lb.length ≤ 8) (k : Nat) (hk : k ≤ 8) : chY G s la lb (64 * g + 8 * k) ch = if G 24 g ≠ nM then (la.take k).foldl (fun ch l => if tC G l = G 23 g then usR G s g l lb ch else ch) (chY G s la lb (64 * g) ch) else chY G s la lb (64 * g) ch := by
  induction k with
  | zero => rw [Nat.mul_zero, Nat.add_zero, List.take_zero]; simp
  | succ k ih =>
    have ih := ih (by omega)
    have e := chY_i (G := G) (s := s) (g := g) (la := la) (lb := lb) (ch := ch) (show k < 8 by omega) 8 (Nat.le_refl _)
    rw [show 64 * g + 8 * (k + 1) = 64 * g + 8 * k + 8 by omega, e, ih, List.take_of_length_le h8]
    by_cases h24 : G 24 g ≠ nM
    · rw [if_pos h24, if_pos h24]
      by_cases hl : k < la.length
      · rw [take_s hl, List.foldl_append, List.foldl_cons, List.foldl_nil]
        by_cases h2 : tC G (la.getD k dum) = G 23 g
        · rw [if_pos ⟨h24, hl, h2⟩, if_pos h2]; rfl
        · rw [if_neg (fun h => h2 h.2.2), if_neg h2]
      · rw [if_neg (fun h => hl h.2.1), List.take_of_length_le (by omega), List.take_of_length_le (by omega)]
    · rw [if_neg (fun h => h24 h.1), if_neg h24, if_neg h24]
theorem chY_n {G : Ob} {s a b : Nat} {ch : Ch} (ha8 : (ch a).length ≤ 8) (hb8 : (ch b).length ≤ 8) (hsa : a ≠ s) (hsb : b ≠ s) (g : Nat) : chY G s (ch a) (ch b) (64 * g) ch = rlF G s a b g ch := by
  induction g with
  | zero => rfl
  | succ g ih =>
    have e := chY_k (G := G) (s := s) (g := g) (la := ch a) (lb := ch b) (ch := ch) hb8 8 (Nat.le_refl _)
    rw [show 64 * (g + 1) = 64 * g + 8 * 8 by omega, e, ih, rlF, List.take_of_length_le ha8, rlF_ne hsa, rlF_ne hsb]
    by_cases h : G 24 g = nM
    · rw [if_neg (fun h2 => h2 h), if_pos h]
    · rw [if_pos h, if_neg h]; rfl
theorem chY_ne {G : Ob} {s : Nat} {la lb : List Tr} {s' : Nat} (h : s' ≠ s) (y : Nat) (ch : Ch) : chY G s la lb y ch s' = ch s' := by
  induction y with
  | zero => rfl
  | succ y ih =>
    rw [chY, bst]
    split
    · rw [tryE_ne h, ih]
    · exact ih
theorem LG_at {g q nr : Rw} {G : Ob} (hX : LG g q nr G) {r : Nat} (hr : r < nn (G 21 0)) : g (4 * r) = G 22 r ∧ g (4 * r + 1) = G 23 r ∧ g (4 * r + 2) = G 24 r := by
  obtain ⟨h1, h2, h3, -⟩ := hX.2 r hr
  exact ⟨h1, h2, h3⟩
/-- what is known while the chart is laid -/
def LB2 (c0 : Rw) (g q nr : Rw) (G : Ob) : Prop := LG g q nr G ∧ WGr G ∧ c0 2 = iN (nn (G 21 0))
/-- edges of a finished span -/
theorem Iv_at {G : Ob} {ch : Ch} {b m P : Nat} (hI : Iv G ch b m P) {b' w' : Nat} (h1 : 1 ≤ w') (h2 : b' + w' ≤ 6) {t : Tr} (ht : t ∈ ch (6 * b' + w' - 1)) : WT G t ∧ tB t = b' ∧ tW t = w' := by
  obtain ⟨wt, st, bt⟩ := hI.2.2.1 _ t ht
  have pt := tW_pos _ wt
  have spt := sp_mod pt bt
  rw [sp] at st
  rw [st] at spt
  have spa := sp_mod h1 h2
  exact ⟨wt, by omega, by omega⟩
def VB (c0 : Rw) (G : Ob) (ch : Ch) (b m P n : Nat) (y0 : Cy) (ch1 : Ch) (N : Nat) (Z : Cy × Nat) : Prop := ∃ ch' n', n ≤ n' ∧ SL2 c0 G ch' b m P n' Z.1 ∧ oldL n y0 Z.1 ∧ (∀ s', s' ≠ 6 * b + m - 1 → ch' s' = ch s') ∧ (yc Z.1 7 = iN 0 → yc y0 7 = iN 0 ∧ ch' = ch1) ∧ Z.2 ≤ N
theorem L_bin {c0 w u x l v g q nr : Rw} {G : Ob} {ch : Ch} {b m n a N0 : Nat} {y0 : Cy} (h : LB2 c0 g q nr G) (hS : SL2 c0 G ch b m 0 n y0) (ha : 1 ≤ a) (ham : a < m) (hN : N0 + 64 * nn (G 21 0) ≤ 4000) (v14 v15 v16 v19 : Int32) :
    wp (f_L_chart_L285 400 (yc y0) w u x l v g q nr (ye y0) (yj y0) (ya y0) (yb y0) (ym y0) N0 v14 v15 v16 (iN (lsp b m)) v19 (iN (lsp b a)) (iN (lsp (b + a) (m - a))) (iN 0)) (fun r => VB c0 G ch b m 0 n y0 (rlF G (6 * b + m - 1) (6 * b + a - 1) (6 * (b + a) + (m - a) - 1) (nn (G 21 0)) ch) (N0 + 64 * nn (G 21 0)) ((r.2.1, r.2.2.1, r.2.2.2.1, r.2.2.2.2.1, r.2.2.2.2.2.1, r.2.2.2.2.2.2.1), r.2.2.2.2.2.2.2)) := by
  obtain ⟨hX, hG, hc2⟩ := h
  have h5 := hX.1
  obtain ⟨-, -, sI, s3⟩ := id hS
  have hla := sI.2.2.2.2.1 (6 * b + a - 1)
  have hlb := sI.2.2.2.2.1 (6 * (b + a) + (m - a) - 1)
  have hsp1 := lsp_lt ha (show b + a ≤ 3 by omega)
  have hsp2 := lsp_lt (show 1 ≤ m - a by omega) (show b + a + (m - a) ≤ 3 by omega)
  rw [← chY_n hla hlb (show 6 * b + a - 1 ≠ 6 * b + m - 1 by omega) (show 6 * (b + a) + (m - a) - 1 ≠ 6 * b + m - 1 by omega)]
  generalize hng : nn (G 21 0) = ng at *
  refine lp_up (F := fun f (Z : Cy × Nat) i => f_L_chart_L285 f (yc Z.1) w u x l v g q nr (ye Z.1) (yj Z.1) (ya Z.1) (yb Z.1) (ym Z.1) Z.2 v14 v15 v16 (iN (lsp b m)) v19 (iN (lsp b a)) (iN (lsp (b + a) (m - a))) i) (V := fun y Z => VB c0 G ch b m 0 n y0 (chY G (6 * b + m - 1) (ch (6 * b + a - 1)) (ch (6 * (b + a) + (m - a) - 1)) y ch) (N0 + y) Z) (hi := 64 * ng) ?_ 400 0 (y0, N0) (by omega) (by omega) ⟨ch, n, Nat.le_refl _, hS, oldL_r, fun _ _ => rfl, fun h => ⟨h, rfl⟩, Nat.le_refl _⟩
  rintro f ⟨Z, N⟩ y hy ⟨ch', n', hn1, hS', ho, hne, h7, hNN⟩ hk
  simp only at hS' ho h7 hNN
  have hc2' : yc Z 2 = iN ng := by rw [hS'.1 2 (by decide) (by decide), hc2]
  by_cases he : y = 64 * ng
  · subst he
    simp (disch := omega) only [f_L_chart_L285, ↓nM_lit, iN_lit, iN_add, iN_mul, iN_lt, iN_le, iN_eq, iN_c, gd_iN, iN_nM, nM_iN, iN_ltM, nM_lt, nM_le, iN_leM, iN_0M, nM_p1, iN_0s1, decide_true, decide_eq_true_eq, Nat.not_lt_zero, if_true, if_false, wp_some, wp_grd, wp_lb, wp_ite, wp_b1, wp_b2, wp_b3, wp_b4, wp_b5, ↓reduceIte, wp_b6, wp_b7, wp_b8, wp_b9, hc2', Nat.le_refl]
    exact ⟨ch', n', hn1, hS', ho, hne, h7, hNN⟩
  · have hy' : y < 64 * ng := by omega
    obtain ⟨t1, t2, t3⟩ := LG_at hX (show y / 64 < nn (G 21 0) by omega)
    obtain ⟨-, sR', sI', -⟩ := id hS'
    have hm64 := sR'.2.1
    obtain ⟨ma, ba⟩ := sR'.2.2 b a ha (by omega)
    obtain ⟨mb, bb⟩ := sR'.2.2 (b + a) (m - a) (by omega) (by omega)
    have na : ch' (6 * b + a - 1) = ch (6 * b + a - 1) := hne _ (by omega)
    have nb : ch' (6 * (b + a) + (m - a) - 1) = ch (6 * (b + a) + (m - a) - 1) := hne _ (by omega)
    rw [na] at ma ba
    rw [nb] at mb bb
    obtain ⟨-, -, w3, -⟩ := hG.2 (y / 64) (by omega)
    have skip : bst G (6 * b + m - 1) (y / 64) (ch (6 * b + a - 1)) (ch (6 * (b + a) + (m - a) - 1)) (y / 8 % 8) (y % 8) (chY G (6 * b + m - 1) (ch (6 * b + a - 1)) (ch (6 * (b + a) + (m - a) - 1)) y ch) = chY G (6 * b + m - 1) (ch (6 * b + a - 1)) (ch (6 * (b + a) + (m - a) - 1)) y ch → wp (f_L_chart_L285 f (yc Z) w u x l v g q nr (ye Z) (yj Z) (ya Z) (yb Z) (ym Z) N v14 v15 v16 (iN (lsp b m)) v19 (iN (lsp b a)) (iN (lsp (b + a) (m - a))) (iN (y + 1))) (fun r => VB c0 G ch b m 0 n y0 (chY G (6 * b + m - 1) (ch (6 * b + a - 1)) (ch (6 * (b + a) + (m - a) - 1)) (64 * ng) ch) (N0 + 64 * ng) ((r.2.1, r.2.2.1, r.2.2.2.1, r.2.2.2.2.1, r.2.2.2.2.2.1, r.2.2.2.2.2.2.1), r.2.2.2.2.2.2.2)) := by
      intro hs
      refine hk (Z, N) hy' ⟨ch', n', hn1, hS', ho, hne, ?_, by simp only; omega⟩
      intro h0
      obtain ⟨k1, k2⟩ := h7 h0
      exact ⟨k1, by rw [chY, hs]; exact k2⟩
    have q1 : y / 8 - y / 8 / 8 * 8 = y / 8 % 8 := by omega
    have q2 : y - y / 8 * 8 = y % 8 := by omega
    rcases w3 with ⟨h24, -, -⟩ | ⟨⟨rc, hrc, erc⟩, -⟩
    · simp (disch := omega) only [f_L_chart_L285, ↓nM_lit, iN_lit, iN_add, iN_mul, iN_lt, iN_le, iN_eq, iN_c, gd_iN, iN_nM, nM_iN, iN_ltM, nM_lt, nM_le, iN_leM, iN_0M, nM_p1, iN_0s1, decide_true, decide_eq_true_eq, Nat.not_lt_zero, if_true, if_false, wp_some, wp_grd, wp_lb, wp_ite, wp_b1, wp_b2, wp_b3, wp_b4, wp_b5, ↓reduceIte, wp_b6, wp_b7, wp_b8, wp_b9, eq_grd, eq_lb, eq_b1, eq_b2, eq_b3, eq_b4, eq_b5, eq_b6, eq_b7, eq_b8, eq_b9, hc2', show ¬ (64 * ng ≤ y) by omega, iN_div, iN_sub, q1, q2, show 4 * (y / 64) + 2 < 20 by omega, t3, h24, true_and, show (nM < iN 0) ↔ True by exact ⟨fun _ => trivial, fun _ => by decide⟩]
      exact skip (by rw [bst, if_neg (fun h => h.1 h24)])
    · have h24 : G 24 (y / 64) ≠ nM := by rw [erc]; intro hc; exact (iN_nM (by omega)).mp hc
      by_cases hka : y / 8 % 8 < (ch (6 * b + a - 1)).length
      · by_cases hib : y % 8 < (ch (6 * (b + a) + (m - a) - 1)).length
        · obtain ⟨d1, hd1, eb1, hT1⟩ := ba _ hka
          obtain ⟨d2, hd2, eb2, hT2⟩ := bb _ hib
          have hm1 : (ch (6 * b + a - 1)).getD (y / 8 % 8) dum ∈ ch' (6 * b + a - 1) := by rw [na]; exact getD_mem hka
          have hm2 : (ch (6 * (b + a) + (m - a) - 1)).getD (y % 8) dum ∈ ch' (6 * (b + a) + (m - a) - 1) := by rw [nb]; exact getD_mem hib
          obtain ⟨wl, bl, ll⟩ := Iv_at sI' ha (by omega) hm1
          obtain ⟨wr, br, lr⟩ := Iv_at sI' (show 1 ≤ m - a by omega) (by omega) hm2
          generalize hlt : (ch (6 * b + a - 1)).getD (y / 8 % 8) dum = lt at *
          generalize hrt : (ch (6 * (b + a) + (m - a) - 1)).getD (y % 8) dum = rt at *
          obtain ⟨cl, hcl, ecl⟩ := tC_le hG _ wl
          obtain ⟨cr, hcr, ecr⟩ := tC_le hG _ wr
          have ncl : nn (tC G lt) = cl := by rw [ecl, nn, iN_c (by omega)]
          have ncr : nn (tC G rt) = cr := by rw [ecr, nn, iN_c (by omega)]
          have el := (LT_2 hT1).1
          have er := (LT_2 hT2).1
          rw [ncl] at el
          rw [ncr] at er
          have dl := dec_le (tF G lt)
          have dr := dec_le (tF G rt)
          have f1 : (1000 * cl + dec (tF G lt)) / 1000 = cl := by omega
          have f2 : (1000 * cr + dec (tF G rt)) / 1000 = cr := by omega
          by_cases hc1 : tC G lt = G 23 (y / 64)
          · by_cases hc2 : tC G rt = G 24 (y / 64)
            · have g1 : iN cl = G 23 (y / 64) := by rw [← ecl]; exact hc1
              have g2 : iN cr = iN rc := by rw [← ecr, hc2, erc]
              have hisL : isL G b m 0 n' Z (y / 64) lt rt (iN d2) := Or.inr ⟨h24, ⟨d2, hd2, rfl, hT2⟩, wr, hc2, by omega, by omega, bl, rfl⟩
              have key := L_tries hX hG hS' (show y / 64 < nn (G 21 0) by omega) hd1 hT1 wl hc1 hisL
              have hN4 : decide (N + 1 ≤ 4000) = true := decide_eq_true (by omega)
              simp (maxSteps := 4000000) (disch := omega) only [f_L_chart_L285, ↓nM_lit, iN_lit, iN_add, iN_mul, iN_lt, iN_le, iN_eq, iN_c, gd_iN, iN_nM, nM_iN, iN_ltM, nM_lt, nM_le, iN_leM, iN_0M, nM_p1, iN_0s1, decide_true, decide_eq_true_eq, Nat.not_lt_zero, if_true, if_false, wp_some, wp_grd, wp_lb, wp_ite, wp_b1, wp_b2, wp_b3, wp_b4, wp_b5, ↓reduceIte, wp_b6, wp_b7, wp_b8, wp_b9, eq_grd, eq_lb, eq_b1, eq_b2, eq_b3, eq_b4, eq_b5, eq_b6, eq_b7, eq_b8, eq_b9, hc2', show ¬ (64 * ng ≤ y) by omega, iN_div, iN_sub, q1, q2, show 4 * (y / 64) + 2 < 20 by omega, show 4 * (y / 64) + 1 < 20 by omega, t2, t3, erc, hsp1, hsp2, ma, mb, show ¬ ((ch (6 * b + a - 1)).length ≤ y / 8 % 8) by omega, show ¬ ((ch (6 * (b + a) + (m - a) - 1)).length ≤ y % 8) by omega, show 8 * lsp b a + y / 8 % 8 < 48 by omega, show 8 * lsp (b + a) (m - a) + y % 8 < 48 by omega, eb1, eb2, show d1 < 64 by omega, show d2 < 64 by omega, el, er, f1, f2, ← g1, g2, hN4, true_and]
              refine wp_mono key ?_
              rintro z ⟨ch2, n2, k1, k2, k3, k4, k5⟩
              refine hk (z, N + 1) hy' ⟨ch2, n2, by omega, k2, oldL_t hn1 ho k5, ?_, ?_, by simp only; omega⟩
              · intro s' hs'
                rcases k3 with rfl | rfl
                · rw [tryE_ne hs']; exact hne s' hs'
                · exact hne s' hs'
              · intro h0
                obtain ⟨j1, j2⟩ := k4 h0
                obtain ⟨j3, j4⟩ := h7 j1
                refine ⟨j3, ?_⟩
                rw [j2, chY, bst, hlt, hrt, if_pos ⟨h24, hka, hib, hc1, hc2⟩, ← j4]
            · have g1 : iN cl = G 23 (y / 64) := by rw [← ecl]; exact hc1
              have g2 : ¬ (iN cr = iN rc) := by rw [← ecr, ← erc]; exact hc2
              have g3 : ¬ (cr = rc) := fun h => g2 (by rw [h])
              simp (maxSteps := 4000000) (disch := omega) only [f_L_chart_L285, ↓nM_lit, iN_lit, iN_add, iN_mul, iN_lt, iN_le, iN_eq, iN_c, gd_iN, iN_nM, nM_iN, iN_ltM, nM_lt, nM_le, iN_leM, iN_0M, nM_p1, iN_0s1, decide_true, decide_eq_true_eq, Nat.not_lt_zero, if_true, if_false, wp_some, wp_grd, wp_lb, wp_ite, wp_b1, wp_b2, wp_b3, wp_b4, wp_b5, ↓reduceIte, wp_b6, wp_b7, wp_b8, wp_b9, eq_grd, eq_lb, eq_b1, eq_b2, eq_b3, eq_b4, eq_b5, eq_b6, eq_b7, eq_b8, eq_b9, hc2', show ¬ (64 * ng ≤ y) by omega, iN_div, iN_sub, q1, q2, show 4 * (y / 64) + 2 < 20 by omega, show 4 * (y / 64) + 1 < 20 by omega, t2, t3, erc, hsp1, hsp2, ma, mb, show ¬ ((ch (6 * b + a - 1)).length ≤ y / 8 % 8) by omega, show ¬ ((ch (6 * (b + a) + (m - a) - 1)).length ≤ y % 8) by omega, show 8 * lsp b a + y / 8 % 8 < 48 by omega, show 8 * lsp (b + a) (m - a) + y % 8 < 48 by omega, eb1, eb2, show d1 < 64 by omega, show d2 < 64 by omega, el, er, f1, f2, ← g1, g3, true_and]
              exact skip (by rw [bst, hlt, hrt, if_neg (fun h => hc2 h.2.2.2.2)])
          · have g1 : ¬ (iN cl = G 23 (y / 64)) := by rw [← ecl]; exact hc1
            simp (maxSteps := 4000000) (disch := omega) only [f_L_chart_L285, ↓nM_lit, iN_lit, iN_add, iN_mul, iN_lt, iN_le, iN_eq, iN_c, gd_iN, iN_nM, nM_iN, iN_ltM, nM_lt, nM_le, iN_leM, iN_0M, nM_p1, iN_0s1, decide_true, decide_eq_true_eq, Nat.not_lt_zero, if_true, if_false, wp_some, wp_grd, wp_lb, wp_ite, wp_b1, wp_b2, wp_b3, wp_b4, wp_b5, ↓reduceIte, wp_b6, wp_b7, wp_b8, wp_b9, eq_grd, eq_lb, eq_b1, eq_b2, eq_b3, eq_b4, eq_b5, eq_b6, eq_b7, eq_b8, eq_b9, hc2', show ¬ (64 * ng ≤ y) by omega, iN_div, iN_sub, q1, q2, show 4 * (y / 64) + 2 < 20 by omega, show 4 * (y / 64) + 1 < 20 by omega, t2, t3, erc, hsp1, hsp2, ma, mb, show ¬ ((ch (6 * b + a - 1)).length ≤ y / 8 % 8) by omega, show ¬ ((ch (6 * (b + a) + (m - a) - 1)).length ≤ y % 8) by omega, show 8 * lsp b a + y / 8 % 8 < 48 by omega, eb1, show d1 < 64 by omega, el, f1, g1, true_and]
            exact skip (by rw [bst, hlt, if_neg (fun h => hc1 h.2.2.2.1)])
        · simp (disch := omega) only [f_L_chart_L285, ↓nM_lit, iN_lit, iN_add, iN_mul, iN_lt, iN_le, iN_eq, iN_c, gd_iN, iN_nM, nM_iN, iN_ltM, nM_lt, nM_le, iN_leM, iN_0M, nM_p1, iN_0s1, decide_true, decide_eq_true_eq, Nat.not_lt_zero, if_true, if_false, wp_some, wp_grd, wp_lb, wp_ite, wp_b1, wp_b2, wp_b3, wp_b4, wp_b5, ↓reduceIte, wp_b6, wp_b7, wp_b8, wp_b9, eq_grd, eq_lb, eq_b1, eq_b2, eq_b3, eq_b4, eq_b5, eq_b6, eq_b7, eq_b8, eq_b9, hc2', show ¬ (64 * ng ≤ y) by omega, iN_div, iN_sub, q1, q2, show 4 * (y / 64) + 2 < 20 by omega, t3, erc, hsp1, hsp2, ma, mb, show ¬ ((ch (6 * b + a - 1)).length ≤ y / 8 % 8) by omega, show (ch (6 * (b + a) + (m - a) - 1)).length ≤ y % 8 by omega, true_and]
          exact skip (by rw [bst, if_neg (fun h => hib h.2.2.1)])
      · simp (disch := omega) only [f_L_chart_L285, ↓nM_lit, iN_lit, iN_add, iN_mul, iN_lt, iN_le, iN_eq, iN_c, gd_iN, iN_nM, nM_iN, iN_ltM, nM_lt, nM_le, iN_leM, iN_0M, nM_p1, iN_0s1, decide_true, decide_eq_true_eq, Nat.not_lt_zero, if_true, if_false, wp_some, wp_grd, wp_lb, wp_ite, wp_b1, wp_b2, wp_b3, wp_b4, wp_b5, ↓reduceIte, wp_b6, wp_b7, wp_b8, wp_b9, eq_grd, eq_lb, eq_b1, eq_b2, eq_b3, eq_b4, eq_b5, eq_b6, eq_b7, eq_b8, eq_b9, hc2', show ¬ (64 * ng ≤ y) by omega, iN_div, iN_sub, q1, q2, show 4 * (y / 64) + 2 < 20 by omega, t3, erc, hsp1, ma, show (ch (6 * b + a - 1)).length ≤ y / 8 % 8 by omega, true_and]
        exact skip (by rw [bst, if_neg (fun h => hka h.2.1)])
