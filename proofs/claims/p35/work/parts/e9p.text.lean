/-! The text: append, change, remove. -/
theorem evW_wd {M : Ob} {n : Nat} {wd wd' : Nat → Nat} (h : ∀ p, p < n → wd' p = wd p) : evW M n wd' = evW M n wd := by
  unfold evW
  refine Prod.ext rfl (Prod.ext ?_ (Prod.ext ?_ ?_))
  · funext p
    by_cases hp : p < n
    · simp only [hp, if_true, h p hp]
    · simp only [hp, if_false]
  · funext p k
    by_cases hp : p < n
    · simp only [hp, true_and, h p hp]
    · simp only [hp, false_and, if_false]
  · funext p k
    by_cases hp : p < n
    · simp only [hp, true_and, h p hp]
    · simp only [hp, false_and, if_false]
theorem RSen_T {x c M M' : Ob} {s : Nat} (hl : ∀ k, k < 9 → M' k = M k) (hn : evn M' s = evn M s) (hw : ∀ p, p < evn M s → evw M' s p = evw M s p) (hs : sr M' = sr M) (hg : gr M' = gr M) (h2 : M' 52 0 = M 52 0 ∧ M' 54 s = M 54 s ∧ M' 55 s = M 55 s ∧ M' 56 s = M 56 s) (h3 : M' 57 = M 57 ∧ M' 58 = M 58) (hr : RSen x c M s) : RSen x c M' s := by
  obtain ⟨r1, r2, r3⟩ := hr
  have hE : evS M' s = evS M s := by
    rw [evS_e, evS_e, hn, evW_wd hw]
    exact evW_cg hl _ _
  have hL : Lk (sr M) M' s = Lk (sr M) M s := by unfold Lk; rw [hE]
  unfold RSen
  rw [hn, hE, hs, hL, hg, h2.1, h2.2.1, h2.2.2.1, h2.2.2.2, h3.1, h3.2]
  exact ⟨⟨r1.1, r1.2.1, fun p hp => by rw [hw p hp]; exact r1.2.2 p hp⟩, r2, r3⟩
theorem RI_snt {j : Nat} {K : Nat → Ob} {M M' x : Ob} {s : Nat} (hj : j < 1000000) (h : RI j K M) (hs : s < 4) (hl : ∀ k, (k < 9 ∨ (15 ≤ k ∧ k ≤ 30) ∨ (52 ≤ k ∧ k ≤ 54) ∨ (56 ≤ k ∧ k ≤ 65)) → M' k = M k) (h9 : ∀ t, t < 4 → t ≠ s → M' 9 t = M 9 t) (h10 : ∀ i, (i < 6 * s ∨ 6 * s + 6 ≤ i) → M' 10 i = M 10 i)
    (hts : ∃ n, n ≤ 6 ∧ M' 9 s = iN n ∧ ∀ p, p < n → ∃ w, w < nn (M 0 0) ∧ M' 10 (6 * s + p) = iN w) (h6 : RW6 x (evn M' s) (evw M' s)) (h55 : ∀ t, M' 55 t = if t = s then M 55 t + iN 1 else M 55 t) :
    RI (j + 1) (va_up K (9 + s) (upo (upo x 7 0 (iN 0)) 8 0 (iN 1))) M' := by
  have hsr : sr M' = sr M := by funext k; unfold sr; split; exact hl k (by omega); rfl
  have hgr : gr M' = gr M := by funext k; unfold gr; split; exact hl k (by omega); rfl
  obtain ⟨⟨g1, g2, g3, g4⟩, hk, hS, ⟨v, v1, v2, v3⟩, h53, hz⟩ := h
  refine ⟨⟨WLex_cg (fun k hk => hl k (by omega)) g1, ?_, ?_, by rw [hgr]; exact g4⟩, ?_, ?_, ?_, ?_, ZE_cg (hl 21 (by omega)) (hl 26 (by omega)) hz⟩
  · intro t ht
    rw [hl 0 (by omega)]
    by_cases e : t = s
    · subst e; exact hts
    · obtain ⟨n, n1, n2, n3⟩ := g2 t ht
      refine ⟨n, n1, by rw [h9 t ht e]; exact n2, ?_⟩
      intro p hp
      obtain ⟨w, w1, w2⟩ := n3 p hp
      exact ⟨w, w1, by rw [h10 _ (by omega)]; exact w2⟩
  · rw [hsr]
    exact ⟨g3.1, fun k k1 k2 => by rw [hl k (by omega)]; exact g3.2.1 k k1 k2, g3.2.2⟩
  · obtain ⟨k1, k2, k3, k4, k5⟩ := hk
    exact ⟨by rw [vu_ne (by omega)]; exact RX3_cg (fun k hk => hl k (by omega)) k1, by rw [vu_ne (by omega), hsr]; exact k2, by rw [vu_ne (by omega), hgr]; exact k3, by rw [vu_ne (by omega), hgr]; exact k4, by rw [vu_ne (by omega)]; exact RX8_cg (fun k a b => hl k (by omega)) k5⟩
  · intro t ht
    rw [vu_ne (show 14 + t ≠ 9 + s by omega)]
    by_cases e : t = s
    · subst e
      rw [vu_eq]
      refine RSen_out (M := M) h6 (Or.inr ?_)
      obtain ⟨-, c, d, w2, w3, w4, w5⟩ := v3 t ht
      rw [h55, if_pos rfl, hl 56 (by omega), w4, w5, iN_add, Ne, iN_eq (by omega) (by omega)]
      omega
    · rw [vu_ne (by omega)]
      have h6t := (WTxt_at g2 ht).1
      refine RSen_T (fun k hk => hl k (by omega)) ?_ ?_ hsr hgr ?_ ⟨hl 57 (by omega), hl 58 (by omega)⟩ (hS t ht)
      · unfold evn; rw [h9 t ht e]
      · intro p hp; unfold evw; rw [h10 _ (by omega)]
      · rw [hl 52 (by omega), hl 54 (by omega), hl 56 (by omega), h55, if_neg e]; exact ⟨rfl, rfl, rfl, rfl⟩
  · refine ⟨v, by omega, by rw [hl 52 (by omega)]; exact v2, ?_⟩
    intro t ht
    obtain ⟨w1, c, d, w2, w3, w4, w5⟩ := v3 t ht
    rw [hl 54 (by omega), hl 56 (by omega), h55]
    refine ⟨w1, ?_⟩
    by_cases e : t = s
    · rw [if_pos e, w4, iN_add]
      exact ⟨c + 1, d, by omega, by omega, rfl, w5⟩
    · rw [if_neg e]; exact ⟨c, d, w2, by omega, w4, w5⟩
  · rw [vu_ne (by omega), hl 53 (by omega)]; exact h53
theorem vu_vu {α : Type} (f : Nat → α) (k : Nat) (v w : α) : va_up (va_up f k v) k w = va_up f k w := by
  funext i; rw [vu_ap, vu_ap, vu_ap]; split <;> rfl
theorem upo_id (x : Ob) (k i : Nat) : upo x k i (x k i) = x := by
  funext a b; rw [upo_ap]; split
  · rename_i h; rw [h.1, h.2]
  · rfl
theorem op_append {j : Nat} {K : Nat → Ob} {M : Ob} (hj : j < 1000000) (h : RI j K M) (p1 p2 : Int32) : Op_append RI j K M p1 p2 := by
  have J43 : ∀ b, f_X11_append_J43 M p1 p2 (iN 0) b = some (0, upo M 67 0 (iN 1)) := fun b => by
    rw [f_X11_append_J43, mB_0, eq_b2]; exact if_pos rfl
  have J19 : f_X11_append_J19 M p1 p2 = some (0, upo M 67 0 (iN 1)) := by
    rw [f_X11_append_J19, f_X11_append_J20, if_pos rfl, f_X11_append_J42]; exact J43 _
  rcases in_or p1 (show 4 < 2147483648 by decide) with ⟨s, hs, e1⟩ | hn
  · obtain ⟨a1, a2, a3⟩ := RI_len h hs
    obtain ⟨b1, b2, b3⟩ := RI_words h
    rcases in_or p2 (show nn (M 0 0) < 2147483648 by omega) with ⟨w, hw, e2⟩ | hn
    · obtain ⟨r1, r2⟩ := rW_y h hw
      have hx := h.2.2.1 s hs
      have hM0 : f_X11_append M p1 p2 = f_X11_append_J20 M p1 p2 (iN 1) := by
        rw [f_X11_append, e1, e2, isS_y hs, eq_b1, if_neg (by decide), r2, eq_b1, if_neg (by decide)]; rfl
      by_cases h6 : evn M s = 6
      · refine ⟨3, 0, K, 0, upo M 67 0 (iN 2), iN 2, ?_, ?_, congrArg some (u67 _ _), Or.inr (Or.inr ⟨rfl, rfl⟩), RI_j (RI_67 _ h)⟩
        · subst e1; subst e2
          simp (disch := omega) only [f_X10_append, X10_sAt K hs, eq_grd, eq_lb, eq_b1, eq_b2, eq_b3, eq_b4, eq_b5, if_true, hs, decide_true, r1, f_X6_isFull, a1, h6, ↓nM_lit, iN_lit, iN_add, iN_mul, iN_lt, iN_le, iN_eq, iN_c, gd_iN, iN_nM, nM_iN, iN_ltM, nM_lt, nM_le, iN_leM, iN_0M, nM_p1, iN_0s1, decide_true, decide_eq_true_eq, Nat.not_lt_zero, if_true, if_false, show ¬ (6 < 6) by decide, show ¬ (1 = 0) by decide, if_false]
        · rw [hM0, f_X11_append_J20, if_neg (by decide), e1, gd_iN (by omega), decide_eq_true hs, eq_grd, iN_c (by omega), a2, h6, if_pos (by decide), f_X11_append_J42, f_X11_append_J43, show (0 : Int32) = iN 0 from rfl, mB_10, eq_b2]
          exact if_pos rfl
      · have hN := RI_67 (iN 0) h
        have n67 : upo M 67 0 (iN 0) 67 0 = iN 0 := u67 _ _
        have n9 : upo M 67 0 (iN 0) 9 s = iN (evn M s) := by rw [upo_ne (by decide)]; exact a2
        have n0 : upo M 67 0 (iN 0) 0 0 = M 0 0 := by rw [upo_ne (by decide)]
        have n10 : upo M 67 0 (iN 0) 10 = M 10 := upo_ne (by decide)
        have hcls : f_X11_append M p1 p2 = some (iN (evn M s + 1), upo (upo (upo (upo M 67 0 (iN 0)) 10 (6 * s + evn M s) (iN w)) 9 s (iN (evn M s + 1))) 55 s (upo M 67 0 (iN 0) 55 s + iN 1)) := by
          rw [hM0, f_X11_append_J20, if_neg (by decide), e1, gd_iN (by omega), decide_eq_true hs, eq_grd, iN_c (by omega), a2, if_neg (show ¬ ((6 : Int32) ≤ iN (evn M s)) from (by rw [iN_le (by decide) (by omega)]; omega : ¬ (iN 6 ≤ iN (evn M s)))), f_X11_append_J43, show (1 : Int32) = iN 1 from rfl, mB_11, eq_b2]
          rw [if_neg (show ¬ ((iN 1, upo M 67 0 (iN 0)).1 = 0) from (by decide : ¬ (iN 1 = 0))), e2]
          generalize hev : evn M s = n at *
          generalize upo M 67 0 (iN 0) = N at *
          simp (disch := omega) only [eq_grd, eq_lb, eq_b1, eq_b2, eq_b3, eq_b4, eq_b5, ↓nM_lit, iN_lit, iN_add, iN_mul, iN_lt, iN_le, iN_eq, iN_c, gd_iN, iN_nM, nM_iN, iN_ltM, nM_lt, nM_le, iN_leM, iN_0M, nM_p1, iN_0s1, decide_true, decide_eq_true_eq, Nat.not_lt_zero, if_true, if_false, hs, n9, show 6 * s + n < 24 by omega, upo_ne, up_s]
        generalize hev : evn M s = n at *
        have hn6 : n < 6 := by omega
        generalize upo M 67 0 (iN 0) = N at *
        have xw := hx.1
        rw [hev] at xw
        refine ⟨0, iN (n + 1), va_up K (9 + s) (upo (upo (upo (upo (K (9 + s)) 1 n (iN w)) 0 0 (iN (n + 1))) 7 0 (iN 0)) 8 0 (iN 1)), iN (n + 1), _, N 67 0, ?_, hcls, ?_, ?_, ?_⟩
        · subst e1; subst e2
          simp (disch := omega) only [f_X10_append, X10_sAt K hs, eq_grd, eq_lb, eq_b1, eq_b2, eq_b3, eq_b4, eq_b5, if_true, hs, decide_true, r1, f_X6_isFull, f_X6_addWord, a1, ↓nM_lit, iN_lit, iN_add, iN_mul, iN_lt, iN_le, iN_eq, iN_c, gd_iN, iN_nM, nM_iN, iN_ltM, nM_lt, nM_le, iN_leM, iN_0M, nM_p1, iN_0s1, decide_true, decide_eq_true_eq, Nat.not_lt_zero, if_true, if_false, hn6, show ¬ (6 ≤ n) by omega, f_X6_outdate, vu_eq, vu_vu, upo_ne, up_s]
        · rw [f_X11_thrown, upo_ne (by decide), upo_ne (by decide), upo_ne (by decide)]
        · rw [n67]; exact Or.inl ⟨rfl, rfl, rfl⟩
        · have e10 : ∀ i, upo (upo (upo N 10 (6 * s + n) (iN w)) 9 s (iN (n + 1))) 55 s (N 55 s + iN 1) 10 i = if i = 6 * s + n then iN w else N 10 i := fun i => by
            rw [upo_ne (by decide), upo_ne (by decide), upo_ap]; simp only [true_and]
          have e9 : upo (upo (upo N 10 (6 * s + n) (iN w)) 9 s (iN (n + 1))) 55 s (N 55 s + iN 1) 9 s = iN (n + 1) := by
            rw [upo_ne (by decide), up_s]
          have een : evn (upo (upo (upo N 10 (6 * s + n) (iN w)) 9 s (iN (n + 1))) 55 s (N 55 s + iN 1)) s = n + 1 := by
            unfold evn; rw [e9, nn, iN_c (by omega)]
          have ht := WTxt_at h.1.2.1 hs
          rw [hev] at ht
          refine RI_snt hj hN hs ?_ ?_ ?_ ⟨n + 1, by omega, e9, ?_⟩ ?_ ?_
          · intro k hk; rw [upo_ne (by omega), upo_ne (by omega), upo_ne (by omega)]
          · intro t ht hne; rw [upo_ne (by decide), up_i hne, upo_ne (by decide)]
          · intro i hi; rw [e10, if_neg (by omega)]
          · intro p hp
            rw [e10, n0]
            by_cases e : p = n
            · subst e; rw [if_pos rfl]; exact ⟨w, hw, rfl⟩
            · rw [if_neg (by omega), n10]
              exact ⟨evw M s p, (ht.2.2 p (by omega)).1, (ht.2.2 p (by omega)).2⟩
          · rw [een]
            refine ⟨by rw [up_s], by omega, ?_⟩
            intro p hp
            unfold evw
            rw [e10, upo_ne (by decide), upo_ap]
            by_cases e : p = n
            · subst e; rw [if_pos ⟨rfl, rfl⟩, if_pos rfl, nn, iN_c (by omega)]
            · rw [if_neg (fun h => e h.2), if_neg (by omega), n10, (ht.2.2 p (by omega)).2, nn, iN_c (by have := (ht.2.2 p (by omega)).1; omega)]
              exact xw.2.2 p (by omega)
          · intro t
            rw [upo_ap]
            by_cases e : t = s
            · subst e; rw [if_pos ⟨rfl, rfl⟩, if_pos rfl]
            · rw [if_neg (fun h => e h.2), if_neg e, upo_ne (by decide), upo_ne (by decide)]
    · obtain ⟨r1, r2⟩ := rW_n h hn
      refine ⟨1, 0, K, 0, upo M 67 0 (iN 1), iN 1, ?_, ?_, congrArg some (u67 _ _), Or.inr (Or.inl ⟨rfl, rfl⟩), RI_j (RI_67 _ h)⟩
      · subst e1
        simp (disch := omega) only [f_X10_append, X10_sAt K hs, eq_grd, eq_lb, eq_b1, eq_b2, eq_b3, eq_b4, eq_b5, if_true, hs, decide_true, r1, show ¬ (1 = 0) by decide, if_false]
      · rw [f_X11_append, J19, e1, isS_y hs, eq_b1, if_neg (by decide), r2, eq_b1, if_pos (show iN 0 = 0 from rfl)]
  · refine ⟨1, 0, K, 0, upo M 67 0 (iN 1), iN 1, ?_, ?_, congrArg some (u67 _ _), Or.inr (Or.inl ⟨rfl, rfl⟩), RI_j (RI_67 _ h)⟩
    · simp only [f_X10_append, sAt_n hn K, eq_grd, eq_lb, eq_b1, eq_b2, eq_b3, eq_b4, eq_b5]; rfl
    · rw [f_X11_append, isS_n hn, eq_b1, if_pos (show iN 0 = 0 from rfl), J19]
