/-! Calls that tell something. -/
theorem up_s (x : Ob) (k i : Nat) (v : Int32) : upo x k i v k i = v := by rw [upo_ap, if_pos ⟨rfl, rfl⟩]
theorem up_i {x : Ob} {k i j : Nat} {v : Int32} (h : j ≠ i) : upo x k i v k j = x k j := by rw [upo_ap, if_neg (fun e => h e.2)]
theorem mB_11 (x : Ob) : f_X11_mayBoth x (iN 1) (iN 1) = some (iN 1, upo x 67 0 (iN 0)) := by
  simp (disch := omega) only [f_X11_mayBoth, f_X11_mayBoth_J18, ↓nM_lit, iN_lit, iN_add, iN_mul, iN_lt, iN_le, iN_eq, iN_c, gd_iN, iN_nM, nM_iN, iN_ltM, nM_lt, nM_le, iN_leM, iN_0M, nM_p1, iN_0s1, decide_true, decide_eq_true_eq, Nat.not_lt_zero, if_true, if_false, eq_grd, eq_lb, eq_b1, eq_b2, eq_b3, eq_b4, eq_b5, show ¬ (1 = 0) by decide, if_false, up_s]
theorem mB_0 (x : Ob) (b : Int32) : f_X11_mayBoth x (iN 0) b = some (iN 0, upo x 67 0 (iN 1)) := by
  simp (disch := omega) only [f_X11_mayBoth, f_X11_mayBoth_J18, ↓nM_lit, iN_lit, iN_add, iN_mul, iN_lt, iN_le, iN_eq, iN_c, gd_iN, iN_nM, nM_iN, iN_ltM, nM_lt, nM_le, iN_leM, iN_0M, nM_p1, iN_0s1, decide_true, decide_eq_true_eq, Nat.not_lt_zero, if_true, if_false, eq_grd, eq_lb, eq_b1, eq_b2, eq_b3, eq_b4, eq_b5, show ¬ (1 = 0) by decide, if_false, up_s]
theorem mB_10 (x : Ob) : f_X11_mayBoth x (iN 1) (iN 0) = some (iN 0, upo x 67 0 (iN 2)) := by
  simp (disch := omega) only [f_X11_mayBoth, f_X11_mayBoth_J18, ↓nM_lit, iN_lit, iN_add, iN_mul, iN_lt, iN_le, iN_eq, iN_c, gd_iN, iN_nM, nM_iN, iN_ltM, nM_lt, nM_le, iN_leM, iN_0M, nM_p1, iN_0s1, decide_true, decide_eq_true_eq, Nat.not_lt_zero, if_true, if_false, eq_grd, eq_lb, eq_b1, eq_b2, eq_b3, eq_b4, eq_b5, show ¬ (1 = 0) by decide, show ¬ (2 = 0) by decide, if_false, up_s]
theorem mA_111 (x : Ob) : f_X11_mayAll x (iN 1) (iN 1) (iN 1) = some (iN 1, upo x 67 0 (iN 0)) := by
  simp (disch := omega) only [f_X11_mayAll, f_X11_mayAll_J26, ↓nM_lit, iN_lit, iN_add, iN_mul, iN_lt, iN_le, iN_eq, iN_c, gd_iN, iN_nM, nM_iN, iN_ltM, nM_lt, nM_le, iN_leM, iN_0M, nM_p1, iN_0s1, decide_true, decide_eq_true_eq, Nat.not_lt_zero, if_true, if_false, eq_grd, eq_lb, eq_b1, eq_b2, eq_b3, eq_b4, eq_b5, show ¬ (1 = 0) by decide, if_false, up_s]
theorem mA_0 (x : Ob) (b c : Int32) : f_X11_mayAll x (iN 0) b c = some (iN 0, upo x 67 0 (iN 1)) := by
  simp (disch := omega) only [f_X11_mayAll, f_X11_mayAll_J26, ↓nM_lit, iN_lit, iN_add, iN_mul, iN_lt, iN_le, iN_eq, iN_c, gd_iN, iN_nM, nM_iN, iN_ltM, nM_lt, nM_le, iN_leM, iN_0M, nM_p1, iN_0s1, decide_true, decide_eq_true_eq, Nat.not_lt_zero, if_true, if_false, eq_grd, eq_lb, eq_b1, eq_b2, eq_b3, eq_b4, eq_b5, show ¬ (1 = 0) by decide, if_false, up_s]
theorem mA_10 (x : Ob) (c : Int32) : f_X11_mayAll x (iN 1) (iN 0) c = some (iN 0, upo x 67 0 (iN 2)) := by
  simp (disch := omega) only [f_X11_mayAll, f_X11_mayAll_J26, ↓nM_lit, iN_lit, iN_add, iN_mul, iN_lt, iN_le, iN_eq, iN_c, gd_iN, iN_nM, nM_iN, iN_ltM, nM_lt, nM_le, iN_leM, iN_0M, nM_p1, iN_0s1, decide_true, decide_eq_true_eq, Nat.not_lt_zero, if_true, if_false, eq_grd, eq_lb, eq_b1, eq_b2, eq_b3, eq_b4, eq_b5, show ¬ (1 = 0) by decide, show ¬ (2 = 0) by decide, if_false, up_s]
theorem mA_110 (x : Ob) : f_X11_mayAll x (iN 1) (iN 1) (iN 0) = some (iN 0, upo x 67 0 (iN 3)) := by
  simp (disch := omega) only [f_X11_mayAll, f_X11_mayAll_J26, ↓nM_lit, iN_lit, iN_add, iN_mul, iN_lt, iN_le, iN_eq, iN_c, gd_iN, iN_nM, nM_iN, iN_ltM, nM_lt, nM_le, iN_leM, iN_0M, nM_p1, iN_0s1, decide_true, decide_eq_true_eq, Nat.not_lt_zero, if_true, if_false, eq_grd, eq_lb, eq_b1, eq_b2, eq_b3, eq_b4, eq_b5, show ¬ (1 = 0) by decide, show ¬ (3 = 0) by decide, if_false, up_s]
theorem evW_new {M M' : Ob} {n : Nat} {wd : Nat → Nat} (h : ∀ p, p < n → cnM M' (wd p) = cnM M (wd p) ∧ (∀ k, ctM M' (wd p) k = ctM M (wd p) k) ∧ ∀ k, pkM M' (wd p) k = pkM M (wd p) k) : evW M' n wd = evW M n wd := by
  unfold evW
  refine Prod.ext rfl (Prod.ext ?_ (Prod.ext ?_ ?_))
  · funext p
    by_cases hp : p < n
    · simp only [hp, if_true, (h p hp).1]
    · simp only [hp, if_false]
  · funext p k
    by_cases hp : p < n
    · simp only [hp, true_and, (h p hp).1, (h p hp).2.1]
    · simp only [hp, false_and, if_false]
  · funext p k
    by_cases hp : p < n
    · simp only [hp, true_and, (h p hp).1, (h p hp).2.2]
    · simp only [hp, false_and, if_false]
theorem RSen_E {x c M M' : Ob} {s : Nat} (hn : evn M' s = evn M s) (hw : evw M' s = evw M s) (hE : evS M' s = evS M s) (hs : sr M' = sr M) (hg : gr M' = gr M) (h2 : M' 52 0 = M 52 0 ∧ M' 54 s = M 54 s ∧ M' 55 s = M 55 s ∧ M' 56 s = M 56 s) (h3 : M' 57 = M 57 ∧ M' 58 = M 58) (hr : RSen x c M s) : RSen x c M' s := by
  obtain ⟨r1, r2, r3⟩ := hr
  have hL : Lk (sr M) M' s = Lk (sr M) M s := by unfold Lk; rw [hE]
  unfold RSen
  rw [hn, hw, hE, hs, hL, hg, h2.1, h2.2.1, h2.2.2.1, h2.2.2.2, h3.1, h3.2]
  exact ⟨r1, r2, r3⟩
theorem op_word {j : Nat} {K : Nat → Ob} {M : Ob} (h : RI j K M) (p1 : Int32) : Op_word RI j K M p1 := by
  obtain ⟨a1, a2, a3⟩ := RI_words h
  rcases in_or p1 (show 10 < 2147483648 by decide) with ⟨a, ha, e⟩ | hn
  · subst e
    by_cases hw : nn (M 0 0) < 40
    · have hN := RI_67 (iN 0) h
      generalize hNe : upo M 67 0 (iN 0) = N at hN
      have n0 : N 0 0 = iN (nn (M 0 0)) := by rw [← hNe, upo_ne (by decide)]; exact a2
      have n67 : N 67 0 = iN 0 := by rw [← hNe, up_s]
      generalize nn (M 0 0) = n at *
      have e31 : nn (N 0 0) = n := by rw [n0, nn, iN_c (by omega)]
      refine ⟨0, iN n, va_up K 1 (upo (upo (K 1) 1 n (iN a)) 0 0 (iN (n + 1))), iN n, upo (upo N 1 n (iN a)) 0 0 (iN (n + 1)), iN 0, ?_, ?_, ?_, Or.inl ⟨rfl, rfl, rfl⟩, RI_j ?_⟩
      · simp (disch := omega) only [f_X10_word, isB_y ha (show 10 < 2147483648 by decide), f_X3_isFull, a1, hw, f_X3_addWord, isB_y hw (show 40 < 2147483648 by decide), ↓nM_lit, iN_lit, iN_add, iN_mul, iN_lt, iN_le, iN_eq, iN_c, gd_iN, iN_nM, nM_iN, iN_ltM, nM_lt, nM_le, iN_leM, iN_0M, nM_p1, iN_0s1, decide_true, decide_eq_true_eq, Nat.not_lt_zero, if_true, if_false, eq_grd, eq_lb, eq_b1, eq_b2, eq_b3, eq_b4, eq_b5, show ¬ (1 = 0) by decide, if_false, upo_ne, up_s, iN_s1 (show 0 < n + 1 by omega), Nat.add_sub_cancel]
      · simp (disch := omega) only [f_X11_word, isD_y ha, a2, show ¬ (40 ≤ n) by omega, f_X11_word_J19, mB_11, hNe, n0, ↓nM_lit, iN_lit, iN_add, iN_mul, iN_lt, iN_le, iN_eq, iN_c, gd_iN, iN_nM, nM_iN, iN_ltM, nM_lt, nM_le, iN_leM, iN_0M, nM_p1, iN_0s1, decide_true, decide_eq_true_eq, Nat.not_lt_zero, if_true, if_false, eq_grd, eq_lb, eq_b1, eq_b2, eq_b3, eq_b4, eq_b5, show ¬ (1 = 0) by decide, if_false, hw, upo_ne, up_s, iN_s1 (show 0 < n + 1 by omega), Nat.add_sub_cancel]
      · rw [f_X11_thrown, upo_ne (by decide), upo_ne (by decide), n67]
      · obtain ⟨⟨l1, l2, l3, l4, l5, l6, l7, l8⟩, ht, hR, hG⟩ := hN.1
        have c0 : ∀ k, k ≠ 0 → k ≠ 1 → upo (upo N 1 n (iN a)) 0 0 (iN (n + 1)) k = N k := fun k k0 k1 => by rw [upo_ne k0, upo_ne k1]
        have c00 : nn (upo (upo N 1 n (iN a)) 0 0 (iN (n + 1)) 0 0) = n + 1 := by rw [up_s, nn, iN_c (by omega)]
        have c1 : ∀ w, w ≠ n → upo (upo N 1 n (iN a)) 0 0 (iN (n + 1)) 1 w = N 1 w := fun w hw => by rw [upo_ne (by decide), up_i hw]
        have c1n : upo (upo N 1 n (iN a)) 0 0 (iN (n + 1)) 1 n = iN a := by rw [upo_ne (by decide), up_s]
        have c0s : upo (upo N 1 n (iN a)) 0 0 (iN (n + 1)) 0 0 = iN (n + 1) := up_s _ _ _ _
        generalize hM' : upo (upo N 1 n (iN a)) 0 0 (iN (n + 1)) = M' at *
        have hsr : sr M' = sr N := by funext k; unfold sr; split; exact c0 k (by omega) (by omega); rfl
        have hgr : gr M' = gr N := by funext k; unfold gr; split; exact c0 k (by omega) (by omega); rfl
        have hev : ∀ s, evn M' s = evn N s := fun s => by unfold evn; rw [c0 9 (by decide) (by decide)]
        have hew : ∀ s, evw M' s = evw N s := fun s => by funext p; unfold evw; rw [c0 10 (by decide) (by decide)]
        have hE : ∀ s, s < 4 → evS M' s = evS N s := by
          intro s hs
          rw [evS_e, evS_e, hev, hew]
          refine evW_new ?_
          intro p hp
          have hlt := ((WTxt_at ht hs).2.2 p hp).1
          rw [e31] at hlt
          have k1 := c1 (evw N s p) (by omega)
          refine ⟨?_, ?_, ?_⟩
          · unfold cnM; rw [c0 2 (by decide) (by decide), c0 6 (by decide) (by decide), k1]
          · intro k; unfold ctM; rw [c0 2 (by decide) (by decide), c0 7 (by decide) (by decide), c0 4 (by decide) (by decide), k1]
          · intro k; unfold pkM feM; rw [c0 2 (by decide) (by decide), c0 8 (by decide) (by decide), c0 5 (by decide) (by decide), k1]
        refine ⟨⟨⟨⟨n + 1, by omega, c0s⟩, ?_, by rw [c0 2 (by decide) (by decide)]; exact l3, by rw [c0 6 (by decide) (by decide)]; exact l4, by rw [c0 5 (by decide) (by decide)]; exact l5, by rw [c0 8 (by decide) (by decide)]; exact l6, by rw [c0 4 (by decide) (by decide)]; exact l7, by rw [c0 7 (by decide) (by decide)]; exact l8⟩, ?_, ?_, by rw [hgr]; exact hG⟩, ?_, ?_, ?_, ?_⟩
        · intro w hw
          by_cases e : w = n
          · subst e; exact ⟨a, by omega, c1n⟩
          · rw [c1 w e]; exact l2 w hw
        · intro s hs
          obtain ⟨m, m1, m2, m3⟩ := ht s hs
          refine ⟨m, m1, by rw [c0 9 (by decide) (by decide)]; exact m2, ?_⟩
          intro p hp
          obtain ⟨w, w1, w2⟩ := m3 p hp
          rw [e31] at w1
          exact ⟨w, by rw [c00]; omega, by rw [c0 10 (by decide) (by decide)]; exact w2⟩
        · rw [hsr]
          exact ⟨hR.1, fun k k1 k2 => by rw [c0 k (by omega) (by omega)]; exact hR.2.1 k k1 k2, hR.2.2⟩
        · obtain ⟨⟨x0, x1, x2, x3, x4⟩, h7, h2, hs5, h8⟩ := hN.2.1
          have u1 : va_up K 1 (upo (upo (K 1) 1 n (iN a)) 0 0 (iN (n + 1))) 1 = upo (upo (K 1) 1 n (iN a)) 0 0 (iN (n + 1)) := vu_eq _ _ _
          have uo : ∀ i, i ≠ 1 → va_up K 1 (upo (upo (K 1) 1 n (iN a)) 0 0 (iN (n + 1))) i = K i := fun i hi => vu_ne hi
          refine ⟨?_, by rw [uo 2 (by decide), hsr]; exact h7, by rw [uo 3 (by decide), hgr]; exact h2, by rw [uo 3 (by decide), hgr]; exact hs5, by rw [uo 7 (by decide)]; exact RX8_cg (fun k k1 k2 => c0 k (by omega) (by omega)) h8⟩
          rw [u1]
          unfold QX3
          rw [c0 2 (by decide) (by decide), c0 3 (by decide) (by decide), c0 4 (by decide) (by decide), c0 5 (by decide) (by decide), c0 6 (by decide) (by decide), c0 7 (by decide) (by decide), c0 8 (by decide) (by decide), c0s, up_s, upo_ne (show (1 : Nat) ≠ 0 by decide), upo_ne (show (2 : Nat) ≠ 0 by decide), upo_ne (show (2 : Nat) ≠ 1 by decide), upo_ne (show (3 : Nat) ≠ 0 by decide), upo_ne (show (3 : Nat) ≠ 1 by decide), upo_ne (show (4 : Nat) ≠ 0 by decide), upo_ne (show (4 : Nat) ≠ 1 by decide), upo_ne (show (5 : Nat) ≠ 0 by decide), upo_ne (show (5 : Nat) ≠ 1 by decide)]
          refine ⟨rfl, ?_, x2, x3, x4⟩
          intro w hw
          refine ⟨?_, (x1 w hw).2⟩
          by_cases e : w = n
          · subst e; rw [up_s, c1n]
          · rw [up_i e, c1 w e]; exact (x1 w hw).1
        · intro s hs
          rw [vu_ne (by omega), vu_ne (by omega)]
          exact RSen_E (hev s) (hew s) (hE s hs) hsr hgr (by rw [c0 52 (by decide) (by decide), c0 54 (by decide) (by decide), c0 55 (by decide) (by decide), c0 56 (by decide) (by decide)]; exact ⟨rfl, rfl, rfl, rfl⟩) (by rw [c0 57 (by decide) (by decide), c0 58 (by decide) (by decide)]; exact ⟨rfl, rfl⟩) (hN.2.2.1 s hs)
        · unfold VR
          rw [c0 52 (by decide) (by decide), c0 54 (by decide) (by decide), c0 55 (by decide) (by decide), c0 56 (by decide) (by decide)]
          exact hN.2.2.2.1
        · refine ⟨?_, ZE_cg (c0 21 (by decide) (by decide)) (c0 26 (by decide) (by decide)) hN.2.2.2.2.2⟩
          rw [vu_ne (by decide), c0 53 (by decide) (by decide)]
          exact hN.2.2.2.2.1
    · generalize nn (M 0 0) = n at *
      refine ⟨3, 0, K, 0, upo M 67 0 (iN 2), iN 2, ?_, ?_, congrArg some (u67 _ _), Or.inr (Or.inr ⟨rfl, rfl⟩), RI_j (RI_67 _ h)⟩
      · simp (disch := omega) only [f_X10_word, isB_y ha (show 10 < 2147483648 by decide), f_X3_isFull, a1, hw, ↓nM_lit, iN_lit, iN_add, iN_mul, iN_lt, iN_le, iN_eq, iN_c, gd_iN, iN_nM, nM_iN, iN_ltM, nM_lt, nM_le, iN_leM, iN_0M, nM_p1, iN_0s1, decide_true, decide_eq_true_eq, Nat.not_lt_zero, if_true, if_false, eq_grd, eq_lb, eq_b1, eq_b2, eq_b3, eq_b4, eq_b5, show ¬ (1 = 0) by decide, if_false]
      · simp (disch := omega) only [f_X11_word, isD_y ha, a2, show 40 ≤ n by omega, f_X11_word_J19, mB_10, ↓nM_lit, iN_lit, iN_add, iN_mul, iN_lt, iN_le, iN_eq, iN_c, gd_iN, iN_nM, nM_iN, iN_ltM, nM_lt, nM_le, iN_leM, iN_0M, nM_p1, iN_0s1, decide_true, decide_eq_true_eq, Nat.not_lt_zero, if_true, if_false, eq_grd, eq_lb, eq_b1, eq_b2, eq_b3, eq_b4, eq_b5, if_true]
  · refine ⟨2, 0, K, 0, upo M 67 0 (iN 1), iN 1, ?_, ?_, congrArg some (u67 _ _), Or.inr (Or.inl ⟨rfl, rfl⟩), RI_j (RI_67 _ h)⟩
    · simp (disch := omega) only [f_X10_word, isB_n hn, ↓nM_lit, iN_lit, iN_add, iN_mul, iN_lt, iN_le, iN_eq, iN_c, gd_iN, iN_nM, nM_iN, iN_ltM, nM_lt, nM_le, iN_leM, iN_0M, nM_p1, iN_0s1, decide_true, decide_eq_true_eq, Nat.not_lt_zero, if_true, if_false, eq_grd, eq_lb, eq_b1, eq_b2, eq_b3, eq_b4, eq_b5, if_true]
    · simp (disch := omega) only [f_X11_word, isD_n hn, f_X11_word_J19, mB_0, ↓nM_lit, iN_lit, iN_add, iN_mul, iN_lt, iN_le, iN_eq, iN_c, gd_iN, iN_nM, nM_iN, iN_ltM, nM_lt, nM_le, iN_leM, iN_0M, nM_p1, iN_0s1, decide_true, decide_eq_true_eq, Nat.not_lt_zero, if_true, if_false, eq_grd, eq_lb, eq_b1, eq_b2, eq_b3, eq_b4, eq_b5, if_true]
      split <;> rfl
