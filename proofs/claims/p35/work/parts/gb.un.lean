/-! The law's loop over rules without a right part. -/
def chU (G : Ob) (s : Nat) : Nat → Ch → Ch
  | 0, ch => ch
  | y + 1, ch => if G 24 (y % nn (G 21 0)) = nM ∧ G 22 (y % nn (G 21 0)) = iN (y / nn (G 21 0)) then uls G s (y % nn (G 21 0)) [dum] (chU G s y ch s) (chU G s y ch) else chU G s y ch
theorem flS_s (G : Ob) (c r : Nat) : flS G c (r + 1) = flS G c r ++ (if G 24 r = nM ∧ G 22 r = iN c then [r] else []) := by
  unfold flS
  rw [List.range_succ, List.filter_append]
  congr 1
  by_cases h : G 24 r = nM ∧ G 22 r = iN c <;> simp [h]
theorem chU_r {G : Ob} {s c : Nat} {ch : Ch} (r : Nat) (hr : r ≤ nn (G 21 0)) : chU G s (nn (G 21 0) * c + r) ch = abF G s (flS G c r) (chU G s (nn (G 21 0) * c) ch) := by
  induction r with
  | zero => rfl
  | succ r ih =>
    have ih := ih (by omega)
    have h0 : 0 < nn (G 21 0) := by omega
    rw [← Nat.add_assoc, chU, Nat.mul_add_mod, Nat.mod_eq_of_lt (by omega), Nat.mul_add_div h0, Nat.div_eq_of_lt (by omega), Nat.add_zero, ih, flS_s, abF_app]
    by_cases h : G 24 r = nM ∧ G 22 r = iN c
    · rw [if_pos h, if_pos h]; rfl
    · rw [if_neg h, if_neg h]; rfl
theorem chU_c {G : Ob} {s : Nat} {ch : Ch} (c : Nat) : chU G s (nn (G 21 0) * c) ch = abF G s ((List.range c).flatMap (fun c => flS G c (nn (G 21 0)))) ch := by
  induction c with
  | zero => rfl
  | succ c ih =>
    rw [Nat.mul_succ, chU_r _ (Nat.le_refl _), ih, List.range_succ, List.flatMap_append, abF_app]
    simp
theorem chU_n {G : Ob} {s : Nat} {ch : Ch} : chU G s (10 * nn (G 21 0)) ch = abF G s (sing G) ch := by
  rw [Nat.mul_comm, chU_c]; rfl
theorem chU_ne {G : Ob} {s s' : Nat} (h : s' ≠ s) (y : Nat) (ch : Ch) : chU G s y ch s' = ch s' := by
  induction y with
  | zero => rfl
  | succ y ih =>
    rw [chU]
    split
    · rw [uls_ne h, ih]
    · exact ih
theorem SL2_P {c0 : Rw} {G : Ob} {ch : Ch} {b m P P' n : Nat} {y : Cy} (hP : P ≤ P') (h : SL2 c0 G ch b m P n y) : SL2 c0 G ch b m P' n y := ⟨h.1, h.2.1, Iv_P hP h.2.2.1, h.2.2.2⟩
theorem L_un_in {c0 w u x l v g q nr : Rw} {G : Ob} {ch : Ch} {b m n N0 yy rl cc P : Nat} (hP : P = nn (G 22 rl) + 1) {y0 : Cy} (h : LB2 c0 g q nr G) (hg : rl < nn (G 21 0)) (hun : G 24 rl = nM) (h22 : G 22 rl = iN cc) (hcc : cc ≤ 9) (hyy : yy / nn (G 21 0) = cc) (hyb : yy < 1000) (hS : SL2 c0 G ch b m P n y0) (hN : N0 + 8 ≤ 4000) (v14 v15 v16 : Int32) :
    wp (f_L_chart_L495 400 (yc y0) w u x l v g q nr (ye y0) (yj y0) (ya y0) (yb y0) (ym y0) N0 v14 v15 v16 (iN (lsp b m)) (iN yy) (iN rl) (iN 0)) (fun r => VB c0 G ch b m P n y0 (uls G (6 * b + m - 1) rl [dum] (ch (6 * b + m - 1)) ch) (N0 + 8) ((r.2.1, r.2.2.1, r.2.2.2.1, r.2.2.2.2.1, r.2.2.2.2.2.1, r.2.2.2.2.2.2.1), r.2.2.2.2.2.2.2)) := by
  obtain ⟨hX, hG, hc2⟩ := h
  have h5 := hX.1
  obtain ⟨t1, t2, t3⟩ := LG_at hX hg
  obtain ⟨-, -, sI, s3⟩ := id hS
  obtain ⟨i1, i2, i3, i4, i5, i6⟩ := id sI
  have hla := i5 (6 * b + m - 1)
  have hsp := lsp_lt i1 s3
  obtain ⟨hcne, -⟩ := un_ne hG hg hun
  refine lp_up (F := fun f (Z : Cy × Nat) j => f_L_chart_L495 f (yc Z.1) w u x l v g q nr (ye Z.1) (yj Z.1) (ya Z.1) (yb Z.1) (ym Z.1) Z.2 v14 v15 v16 (iN (lsp b m)) (iN yy) (iN rl) j) (V := fun j Z => ∃ ch' n', n ≤ n' ∧ j ≤ (ch' (6 * b + m - 1)).length ∧ SL2 c0 G ch' b m P n' Z.1 ∧ oldL n y0 Z.1 ∧ (∀ s', s' ≠ 6 * b + m - 1 → ch' s' = ch s') ∧ Pr G (ch (6 * b + m - 1)) (G 22 rl) (ch' (6 * b + m - 1)) ∧ (yc Z.1 7 = iN 0 → yc y0 7 = iN 0 ∧ uls G (6 * b + m - 1) rl [dum] ((ch (6 * b + m - 1)).drop j) ch' = uls G (6 * b + m - 1) rl [dum] (ch (6 * b + m - 1)) ch) ∧ Z.2 ≤ N0 + j) (hi := 8) ?_ 400 0 (y0, N0) (by omega) (by omega) ⟨ch, n, Nat.le_refl _, Nat.zero_le _, hS, oldL_r, fun _ _ => rfl, Pr_0 _ _, fun h => ⟨h, rfl⟩, Nat.le_refl _⟩
  rintro f ⟨Z, N⟩ j hj ⟨ch', n', hn1, hjl, hS', ho, hne, hPr, h7, hNN⟩ hk
  simp only at hS' ho h7 hNN
  obtain ⟨-, sR', sI', -⟩ := id hS'
  have hl8 := sI'.2.2.2.2.1 (6 * b + m - 1)
  have hm64 := sR'.2.1
  obtain ⟨mm, bb⟩ := sR'.2.2 b m i1 s3
  have hc2' : yc Z 2 = iN (nn (G 21 0)) := by rw [hS'.1 2 (by decide) (by decide), hc2]
  have hnz : nz (iN (nn (G 21 0))) = true := by
    unfold nz
    refine decide_eq_true ?_
    show ¬ (iN (nn (G 21 0)) = iN 0)
    rw [iN_eq (by omega) (by omega)]; omega
  have h0M : (iN 0 ≤ nM) ↔ False := ⟨fun h => absurd h (by decide), False.elim⟩
  by_cases he : j = (ch' (6 * b + m - 1)).length
  · have hdr : (ch (6 * b + m - 1)).drop j = [] := List.drop_eq_nil_of_le (by have := hPr.1; omega)
    rw [hdr] at h7
    simp (disch := omega) only [f_L_chart_L495, ↓nM_lit, iN_lit, iN_add, iN_mul, iN_lt, iN_le, iN_eq, iN_c, gd_iN, iN_nM, nM_iN, iN_ltM, nM_lt, nM_le, iN_leM, iN_0M, nM_p1, iN_0s1, decide_true, decide_eq_true_eq, Nat.not_lt_zero, if_true, if_false, wp_some, wp_grd, wp_lb, wp_ite, wp_b1, wp_b2, wp_b3, wp_b4, wp_b5, ↓reduceIte, wp_b6, wp_b7, wp_b8, wp_b9, eq_grd, eq_lb, eq_b1, eq_b2, eq_b3, eq_b4, eq_b5, eq_b6, eq_b7, eq_b8, eq_b9, show 4 * rl + 2 < 20 by omega, show 4 * rl < 20 by omega, t1, t3, hun, h22, h0M, hc2', hnz, iN_div, hyy, hsp, mm, show (ch' (6 * b + m - 1)).length ≤ j by omega, true_and]
    refine ⟨ch', n', hn1, hS', ho, hne, ?_, by simp only; omega⟩
    intro h0
    obtain ⟨k1, k2⟩ := h7 h0
    exact ⟨k1, k2⟩
  · have hj' : j < (ch' (6 * b + m - 1)).length := by omega
    obtain ⟨d, hd, ed, hmd⟩ := bb j hj'
    obtain ⟨d2, -⟩ := LT_2 hmd
    have hmem : (ch' (6 * b + m - 1)).getD j dum ∈ ch' (6 * b + m - 1) := getD_mem hj'
    obtain ⟨wl, bl, ll⟩ := Iv_at sI' i1 i2 hmem
    obtain ⟨cl, hcl, ecl⟩ := tC_le hG _ wl
    have ncl : nn (tC G ((ch' (6 * b + m - 1)).getD j dum)) = cl := by rw [ecl, nn, iN_c (by omega)]
    rw [ncl] at d2
    have dl := dec_le (tF G ((ch' (6 * b + m - 1)).getD j dum))
    have f1 : (1000 * cl + dec (tF G ((ch' (6 * b + m - 1)).getD j dum))) / 1000 = cl := by omega
    obtain ⟨-, hb23, -, -⟩ := hG.2 rl hg
    have hN4 : decide (N + 1 ≤ 4000) = true := decide_eq_true (by omega)
    simp (maxSteps := 4000000) (disch := omega) only [f_L_chart_L495, ↓nM_lit, iN_lit, iN_add, iN_mul, iN_lt, iN_le, iN_eq, iN_c, gd_iN, iN_nM, nM_iN, iN_ltM, nM_lt, nM_le, iN_leM, iN_0M, nM_p1, iN_0s1, decide_true, decide_eq_true_eq, Nat.not_lt_zero, if_true, if_false, wp_some, wp_grd, wp_lb, wp_ite, wp_b1, wp_b2, wp_b3, wp_b4, wp_b5, ↓reduceIte, wp_b6, wp_b7, wp_b8, wp_b9, eq_grd, eq_lb, eq_b1, eq_b2, eq_b3, eq_b4, eq_b5, eq_b6, eq_b7, eq_b8, eq_b9, show 4 * rl + 2 < 20 by omega, show 4 * rl < 20 by omega, show 4 * rl + 1 < 20 by omega, t1, t2, t3, hun, h22, h0M, hc2', hnz, iN_div, hyy, hsp, mm, show ¬ ((ch' (6 * b + m - 1)).length ≤ j) by omega, show 8 * lsp b m + j < 48 by omega, ed, show d < 64 by omega, d2, f1, hN4, true_and]
    by_cases hjo : j < (ch (6 * b + m - 1)).length
    · obtain ⟨p1, p2⟩ := hPr.2.1 j hjo
      rw [drop_getD hjo, uls, List.foldl_cons, ← uls] at h7
      by_cases hc : tC G ((ch (6 * b + m - 1)).getD j dum) = G 23 rl
      · have hc' : iN cl = G 23 rl := by rw [← ecl, p1]; exact hc
        rw [if_pos hc'] 
        rw [if_pos hc] at h7
        have p3 := p2 (by rw [hc]; exact hcne)
        rw [p3] at hmd wl bl ll
        have hisL : isL G b m P n' Z rl ((ch (6 * b + m - 1)).getD j dum) dum nM := Or.inl ⟨hun, rfl, rfl, ll, bl, hP⟩
        have hus : ∀ l, usR G (6 * b + m - 1) rl l [dum] ch' = tryE G ch' (6 * b + m - 1) rl l dum := fun l => if_pos (show tC G dum = G 24 rl from hun.symm)
        rw [hus] at h7
        refine wp_mono (L_tries hX hG hS' hg hd hmd wl hc hisL) ?_
        rintro z ⟨ch2, n2, k1, k2, k3, k4, k5⟩
        have hPr2 : Pr G (ch (6 * b + m - 1)) (G 22 rl) (ch2 (6 * b + m - 1)) := by
          rcases k3 with rfl | rfl
          · exact Pr_try hPr
          · exact hPr
        refine hk (z, N + 1) (by omega) ⟨ch2, n2, by omega, ?_, k2, oldL_t hn1 ho k5, ?_, hPr2, ?_, by simp only; omega⟩
        · have := hPr2.1; omega
        · intro s' hs'
          rcases k3 with rfl | rfl
          · rw [tryE_ne hs']; exact hne s' hs'
          · exact hne s' hs'
        · intro h0
          obtain ⟨j1, j2⟩ := k4 h0
          obtain ⟨j3, j4⟩ := h7 j1
          exact ⟨j3, by rw [j2]; exact j4⟩
      · have hc' : ¬ (iN cl = G 23 rl) := by rw [← ecl, p1]; exact hc
        rw [if_neg hc']
        rw [if_neg hc] at h7
        exact hk (Z, N) (by omega) ⟨ch', n', hn1, by omega, hS', ho, hne, hPr, h7, by simp only; omega⟩
    · have hc := hPr.2.2 j (by omega) hj'
      have hc' : ¬ (iN cl = G 23 rl) := by rw [← ecl, hc]; exact fun h => hcne h.symm
      rw [if_neg hc']
      refine hk (Z, N) (by omega) ⟨ch', n', hn1, by omega, hS', ho, hne, hPr, ?_, by simp only; omega⟩
      rw [List.drop_eq_nil_of_le (by omega)]
      rw [List.drop_eq_nil_of_le (by omega)] at h7
      exact h7
theorem L_un {c0 w u x l v g q nr : Rw} {G : Ob} {ch : Ch} {b m n N0 : Nat} {y0 : Cy} (h : LB2 c0 g q nr G) (hS : SL2 c0 G ch b m 0 n y0) (hN : N0 + 80 * nn (G 21 0) ≤ 4000) (v14 v15 v16 : Int32) :
    wp (f_L_chart_L473 400 (yc y0) w u x l v g q nr (ye y0) (yj y0) (ya y0) (yb y0) (ym y0) N0 v14 v15 v16 (iN (lsp b m)) (iN 0)) (fun r => ∃ P, VB c0 G ch b m P n y0 (abF G (6 * b + m - 1) (sing G) ch) (N0 + 80 * nn (G 21 0)) ((r.2.1, r.2.2.1, r.2.2.2.1, r.2.2.2.2.1, r.2.2.2.2.2.1, r.2.2.2.2.2.2.1), r.2.2.2.2.2.2.2)) := by
  obtain ⟨hX, hG, hc2⟩ := id h
  have h5 := hX.1
  rw [← chU_n]
  refine lp_up (F := fun f (Z : Cy × Nat) i => f_L_chart_L473 f (yc Z.1) w u x l v g q nr (ye Z.1) (yj Z.1) (ya Z.1) (yb Z.1) (ym Z.1) Z.2 v14 v15 v16 (iN (lsp b m)) i) (V := fun y Z => ∃ P, (0 < nn (G 21 0) → P ≤ y / nn (G 21 0) + 1) ∧ VB c0 G ch b m P n y0 (chU G (6 * b + m - 1) y ch) (N0 + 8 * y) Z) (hi := 10 * nn (G 21 0)) ?_ 400 0 (y0, N0) (by omega) (by omega) ⟨0, fun _ => Nat.zero_le _, ch, n, Nat.le_refl _, hS, oldL_r, fun _ _ => rfl, fun h => ⟨h, rfl⟩, Nat.le_refl _⟩
  rintro f ⟨Z, N⟩ y hy ⟨P, hP, ch', n', hn1, hS', ho, hne, h7, hNN⟩ hk
  simp only at hS' ho h7 hNN
  have hc2' : yc Z 2 = iN (nn (G 21 0)) := by rw [hS'.1 2 (by decide) (by decide), hc2]
  by_cases he : y = 10 * nn (G 21 0)
  · subst he
    simp (disch := omega) only [f_L_chart_L473, ↓nM_lit, iN_lit, iN_add, iN_mul, iN_lt, iN_le, iN_eq, iN_c, gd_iN, iN_nM, nM_iN, iN_ltM, nM_lt, nM_le, iN_leM, iN_0M, nM_p1, iN_0s1, decide_true, decide_eq_true_eq, Nat.not_lt_zero, if_true, if_false, wp_some, wp_grd, wp_lb, wp_ite, wp_b1, wp_b2, wp_b3, wp_b4, wp_b5, ↓reduceIte, wp_b6, wp_b7, wp_b8, wp_b9, hc2', Nat.le_refl]
    exact ⟨P, ch', n', hn1, hS', ho, hne, h7, by simp only; omega⟩
  · have hy' : y < 10 * nn (G 21 0) := by omega
    have h0 : 0 < nn (G 21 0) := by omega
    have hP := hP h0
    have hr : y % nn (G 21 0) < nn (G 21 0) := Nat.mod_lt _ h0
    have hq : y / nn (G 21 0) < 10 := by rw [Nat.div_lt_iff_lt_mul h0]; exact hy'
    have em : y - y / nn (G 21 0) * nn (G 21 0) = y % nn (G 21 0) := by
      have := Nat.div_add_mod y (nn (G 21 0))
      rw [Nat.mul_comm] at this
      omega
    have hnz : nz (iN (nn (G 21 0))) = true := by
      unfold nz
      refine decide_eq_true ?_
      show ¬ (iN (nn (G 21 0)) = iN 0)
      rw [iN_eq (by omega) (by omega)]; omega
    have hle : y / nn (G 21 0) * nn (G 21 0) ≤ y := Nat.div_mul_le_self _ _
    have hmono : y / nn (G 21 0) ≤ (y + 1) / nn (G 21 0) := Nat.div_le_div_right (Nat.le_succ y)
    obtain ⟨t1, t2, t3⟩ := LG_at hX hr
    have hN4 : decide (N ≤ 4000) = true := decide_eq_true (by omega)
    have same : ¬ (G 24 (y % nn (G 21 0)) = nM ∧ G 22 (y % nn (G 21 0)) = iN (y / nn (G 21 0))) → wp (f_L_chart_L473 f (yc Z) w u x l v g q nr (ye Z) (yj Z) (ya Z) (yb Z) (ym Z) N v14 v15 v16 (iN (lsp b m)) (iN (y + 1))) (fun r => ∃ P, VB c0 G ch b m P n y0 (chU G (6 * b + m - 1) (10 * nn (G 21 0)) ch) (N0 + 80 * nn (G 21 0)) ((r.2.1, r.2.2.1, r.2.2.2.1, r.2.2.2.2.1, r.2.2.2.2.2.1, r.2.2.2.2.2.2.1), r.2.2.2.2.2.2.2)) := by
      intro hno
      refine hk (Z, N) hy' ⟨P, fun _ => by omega, ch', n', hn1, hS', ho, hne, ?_, by simp only; omega⟩
      rw [chU, if_neg hno]
      exact h7
    simp (disch := omega) only [f_L_chart_L473, ↓nM_lit, iN_lit, iN_add, iN_mul, iN_lt, iN_le, iN_eq, iN_c, gd_iN, iN_nM, nM_iN, iN_ltM, nM_lt, nM_le, iN_leM, iN_0M, nM_p1, iN_0s1, decide_true, decide_eq_true_eq, Nat.not_lt_zero, if_true, if_false, wp_some, wp_grd, wp_lb, wp_ite, wp_b1, wp_b2, wp_b3, wp_b4, wp_b5, ↓reduceIte, wp_b6, wp_b7, wp_b8, wp_b9, eq_grd, eq_lb, eq_b1, eq_b2, eq_b3, eq_b4, eq_b5, eq_b6, eq_b7, eq_b8, eq_b9, hc2', show ¬ (10 * nn (G 21 0) ≤ y) by omega, hnz, iN_div, iN_sub, em, true_and]
    by_cases h24 : G 24 (y % nn (G 21 0)) = nM
    · by_cases h22 : G 22 (y % nn (G 21 0)) = iN (y / nn (G 21 0))
      · have nPc : nn (G 22 (y % nn (G 21 0))) = y / nn (G 21 0) := by rw [h22, nn, iN_c (by omega)]
        have hS2 := SL2_P (P' := nn (G 22 (y % nn (G 21 0))) + 1) (by omega) hS'
        have key := L_un_in (P := nn (G 22 (y % nn (G 21 0))) + 1) rfl (w := w) (u := u) (x := x) (l := l) (v := v) (yy := y) (N0 := N) h hr h24 h22 (by omega) rfl (by omega) hS2 (by omega) v14 v15 v16
        refine wp_mono key ?_
        rintro r ⟨ch2, n2, k1, k2, k3, k4, k5, k6⟩
        simp only at k2 k3 k5 k6
        refine ⟨by omega, ?_⟩
        refine hk ((r.2.1, r.2.2.1, r.2.2.2.1, r.2.2.2.2.1, r.2.2.2.2.2.1, r.2.2.2.2.2.2.1), r.2.2.2.2.2.2.2) hy' ⟨_, fun _ => by omega, ch2, n2, by omega, k2, oldL_t hn1 ho k3, fun s' hs' => by rw [k4 s' hs']; exact hne s' hs', ?_, by simp only; omega⟩
        intro h0'
        obtain ⟨j1, j2⟩ := k5 h0'
        obtain ⟨j3, j4⟩ := h7 j1
        refine ⟨j3, ?_⟩
        rw [chU, if_pos ⟨h24, h22⟩, j2, j4]
      · have hG22 : ∃ a, a ≤ 9 ∧ G 22 (y % nn (G 21 0)) = iN a := (hG.2 _ hr).1
        obtain ⟨a, ha, ea⟩ := hG22
        have h22' : ¬ (a = y / nn (G 21 0)) := by rw [ea, iN_eq (by omega) (by omega)] at h22; exact h22
        have h0M : (iN 0 ≤ nM) ↔ False := ⟨fun h => absurd h (by decide), False.elim⟩
        simp (disch := omega) only [f_L_chart_L495, ↓nM_lit, iN_lit, iN_add, iN_mul, iN_lt, iN_le, iN_eq, iN_c, gd_iN, iN_nM, nM_iN, iN_ltM, nM_lt, nM_le, iN_leM, iN_0M, nM_p1, iN_0s1, decide_true, decide_eq_true_eq, Nat.not_lt_zero, if_true, if_false, wp_some, wp_grd, wp_lb, wp_ite, wp_b1, wp_b2, wp_b3, wp_b4, wp_b5, ↓reduceIte, wp_b6, wp_b7, wp_b8, wp_b9, eq_grd, eq_lb, eq_b1, eq_b2, eq_b3, eq_b4, eq_b5, eq_b6, eq_b7, eq_b8, eq_b9, show 4 * (y % nn (G 21 0)) + 2 < 20 by omega, show 4 * (y % nn (G 21 0)) < 20 by omega, t1, t3, h24, ea, h0M, hc2', hnz, iN_div, h22', hN4, true_and]
        exact ⟨by omega, same (fun hh => h22 hh.2)⟩
    · obtain ⟨a, ha, ea⟩ : ∃ a, a ≤ 9 ∧ G 24 (y % nn (G 21 0)) = iN a := by
        rcases (hG.2 _ hr).2.2.1 with ⟨hh, -⟩ | ⟨hh, -⟩
        · exact absurd hh h24
        · exact hh
      simp (disch := omega) only [f_L_chart_L495, ↓nM_lit, iN_lit, iN_add, iN_mul, iN_lt, iN_le, iN_eq, iN_c, gd_iN, iN_nM, nM_iN, iN_ltM, nM_lt, nM_le, iN_leM, iN_0M, nM_p1, iN_0s1, decide_true, decide_eq_true_eq, Nat.not_lt_zero, if_true, if_false, wp_some, wp_grd, wp_lb, wp_ite, wp_b1, wp_b2, wp_b3, wp_b4, wp_b5, ↓reduceIte, wp_b6, wp_b7, wp_b8, wp_b9, eq_grd, eq_lb, eq_b1, eq_b2, eq_b3, eq_b4, eq_b5, eq_b6, eq_b7, eq_b8, eq_b9, show 4 * (y % nn (G 21 0)) + 2 < 20 by omega, t3, ea, Nat.zero_le, hN4, true_and]
      exact ⟨by omega, same (fun hh => h24 hh.1)⟩
