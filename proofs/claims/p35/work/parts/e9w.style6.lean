theorem X11_sty {M : Ob} {s n : Nat} (hM : WM M) (hs : s < 4) (h8 : ∃ x, QX8 x M) (e59 : M 59 0 = iN n) (hn : n ≤ 12) (v : Int32) :
    wp (f_X11_styleOf M (iN s) v) (fun q => (∀ k, k ≠ 11 → k ≠ 12 → k ≠ 13 → k ≠ 14 → k ≠ 66 → q.2 k = M k) ∧ (((∀ i, i < (FLS M (evS M s) (Lk (sr M) M s) (evw M s) n (evn M s)).length → v ≠ iN i) ∧ q.1 = if v = nM then iN (FLS M (evS M s) (Lk (sr M) M s) (evw M s) n (evn M s)).length else nM) ∨ ∃ i, i < (FLS M (evS M s) (Lk (sr M) M s) (evw M s) n (evn M s)).length ∧ v = iN i ∧ q.1 = iN ((FLS M (evS M s) (Lk (sr M) M s) (evw M s) n (evn M s)).getD i 0))) := by
  obtain ⟨h6, h9, hw⟩ := WTxt_at hM.2.1 hs
  have hL := (WM_E hM hs).2
  rw [f_X11_styleOf]
  simp only [wp_some, wp_grd, wp_lb, wp_ite, wp_b1, wp_b2, wp_b3, wp_b4, wp_b5]
  refine wp_mono (X11_look hM.1 hM.2.1 hM.2.2.1 hs) ?_
  rintro y ⟨a1, a2, a3⟩
  have hy : SYc M y s (Lk (sr M) M s) := ⟨fun k hk => a1 k (by omega) (by omega) (by omega) (by omega), fun k h1 h2 => a1 k (by omega) (by omega) (by omega) (by omega), fun p hp => (a2 s (Nat.le_refl s)).1.2.2.2.2.2.2 p hp⟩
  generalize hLe : Lk (sr M) M s = L at *
  have key : wp (f_X11_styleOf_L10 200 y (iN s) v (iN 0) (iN 0)) (fun q => (∀ k, k ≠ 66 → q.2.2.2.2 k = y k) ∧ ((q.1 = 1 ∧ q.2.1 = iN (FLS M (evS M s) L (evw M s) n (evn M s)).length ∧ ∀ i, i < (FLS M (evS M s) L (evw M s) n (evn M s)).length → v ≠ iN i) ∨ (q.1 = 2 ∧ ∃ p k, p < evn M s ∧ k < n ∧ SPr M (evS M s) L (evw M s p) p n k = true ∧ q.2.2.1 = iN p ∧ q.2.2.2.1 = iN k ∧ v = iN ((FLS M (evS M s) L (evw M s) n p).length + (SLk M (evS M s) L (evw M s p) p n k).length)))) := by
    refine lp_up (F := fun f (c : Ob × Int32) p => f_X11_styleOf_L10 f c.1 (iN s) v c.2 p) (V := fun p c => (∀ k, k ≠ 66 → c.1 k = y k) ∧ c.2 = iN (FLS M (evS M s) L (evw M s) n p).length ∧ ∀ i, i < (FLS M (evS M s) L (evw M s) n p).length → v ≠ iN i) (hi := evn M s) ?_ 200 0 (y, iN 0) (by omega) (by omega) ⟨fun _ _ => rfl, rfl, fun i hi => absurd hi (Nat.not_lt_zero i)⟩
    rintro f ⟨z, c⟩ p hp ⟨hz, hc, hno⟩ hk
    simp only at hz hc hk ⊢
    have hzy := SYc_66 hy hz
    have z9 : z 9 s = iN (evn M s) := by rw [hzy.1 9 (by decide)]; exact h9
    by_cases he : p = evn M s
    · subst he
      simp (disch := omega) only [f_X11_styleOf_L10, hs, z9, ↓nM_lit, iN_lit, iN_add, iN_mul, iN_lt, iN_le, iN_eq, iN_c, gd_iN, iN_nM, nM_iN, iN_ltM, nM_lt, nM_le, iN_leM, iN_0M, nM_p1, iN_0s1, decide_true, decide_eq_true_eq, Nat.not_lt_zero, if_true, if_false, wp_some, wp_grd, wp_lb, wp_ite, wp_b1, wp_b2, wp_b3, wp_b4, wp_b5, eq_grd, eq_lb, eq_b1, eq_b2, eq_b3, eq_b4, eq_b5, Nat.le_refl, true_and]
      exact ⟨hz, Or.inl ⟨hc, hno⟩⟩
    · have hp' : p < evn M s := by omega
      simp (disch := omega) only [f_X11_styleOf_L10, hs, z9, ↓nM_lit, iN_lit, iN_add, iN_mul, iN_lt, iN_le, iN_eq, iN_c, gd_iN, iN_nM, nM_iN, iN_ltM, nM_lt, nM_le, iN_leM, iN_0M, nM_p1, iN_0s1, decide_true, decide_eq_true_eq, Nat.not_lt_zero, if_true, if_false, wp_some, wp_grd, wp_lb, wp_ite, wp_b1, wp_b2, wp_b3, wp_b4, wp_b5, eq_grd, eq_lb, eq_b1, eq_b2, eq_b3, eq_b4, eq_b5, show ¬ (evn M s ≤ p) by omega, true_and]
      refine wp_mono (X11_std hM hs hL hzy h8 e59 hn hp') ?_
      rintro u ⟨u1, u2⟩
      have hu := SYc_66 hzy u1
      have u59 : u 59 0 = iN n := by rw [hu.2.1 59 (by decide) (by decide)]; exact e59
      have inner : wp (f_X11_styleOf_L31 200 u (iN s) v c (iN p) (iN 0)) (fun q => (q.1 = 1 ∧ q.2.1 = iN ((FLS M (evS M s) L (evw M s) n p).length + (SLk M (evS M s) L (evw M s p) p n n).length) ∧ ∀ i, i < (FLS M (evS M s) L (evw M s) n p).length + (SLk M (evS M s) L (evw M s p) p n n).length → v ≠ iN i) ∨ (q.1 = 2 ∧ ∃ k, k < n ∧ SPr M (evS M s) L (evw M s p) p n k = true ∧ q.2.2 = iN k ∧ v = iN ((FLS M (evS M s) L (evw M s) n p).length + (SLk M (evS M s) L (evw M s p) p n k).length))) := by
        refine lp_up (F := fun f (c : Int32) k => f_X11_styleOf_L31 f u (iN s) v c (iN p) k) (V := fun k c => c = iN ((FLS M (evS M s) L (evw M s) n p).length + (SLk M (evS M s) L (evw M s p) p n k).length) ∧ ∀ i, i < (FLS M (evS M s) L (evw M s) n p).length + (SLk M (evS M s) L (evw M s p) p n k).length → v ≠ iN i) (hi := n) ?_ 200 0 c (by omega) (by omega) ⟨hc, hno⟩
        rintro f c k hkn ⟨hc, hno⟩ hk2
        by_cases hen : k = n
        · subst hen
          simp (disch := omega) only [f_X11_styleOf_L31, u59, ↓nM_lit, iN_lit, iN_add, iN_mul, iN_lt, iN_le, iN_eq, iN_c, gd_iN, iN_nM, nM_iN, iN_ltM, nM_lt, nM_le, iN_leM, iN_0M, nM_p1, iN_0s1, decide_true, decide_eq_true_eq, Nat.not_lt_zero, if_true, if_false, wp_some, wp_grd, wp_lb, wp_ite, wp_b1, wp_b2, wp_b3, wp_b4, wp_b5, Nat.le_refl]
          exact Or.inl ⟨trivial, hc, hno⟩
        · have hkn' : k < n := by omega
          have u63 : u 63 k = M 63 k := by rw [hu.2.1 63 (by decide) (by decide)]
          have u66 := u2 k hkn'
          have ez : ∀ b : Bool, (biN b = iN 0) = (b = false) := fun b => propext (biN_0 b)
          have skip : SPr M (evS M s) L (evw M s p) p n k = false → wp (f_X11_styleOf_L31 f u (iN s) v c (iN p) (iN (k + 1))) (fun q => (q.1 = 1 ∧ q.2.1 = iN ((FLS M (evS M s) L (evw M s) n p).length + (SLk M (evS M s) L (evw M s p) p n n).length) ∧ ∀ i, i < (FLS M (evS M s) L (evw M s) n p).length + (SLk M (evS M s) L (evw M s p) p n n).length → v ≠ iN i) ∨ (q.1 = 2 ∧ ∃ k, k < n ∧ SPr M (evS M s) L (evw M s p) p n k = true ∧ q.2.2 = iN k ∧ v = iN ((FLS M (evS M s) L (evw M s) n p).length + (SLk M (evS M s) L (evw M s p) p n k).length))) := by
            intro hs'
            refine hk2 c hkn' ?_
            rw [SLk_s, if_neg (by rw [hs']; decide), List.append_nil]
            exact ⟨hc, hno⟩
          simp (disch := omega) only [f_X11_styleOf_L31, u59, ↓nM_lit, iN_lit, iN_add, iN_mul, iN_lt, iN_le, iN_eq, iN_c, gd_iN, iN_nM, nM_iN, iN_ltM, nM_lt, nM_le, iN_leM, iN_0M, nM_p1, iN_0s1, decide_true, decide_eq_true_eq, Nat.not_lt_zero, if_true, if_false, wp_some, wp_grd, wp_lb, wp_ite, wp_b1, wp_b2, wp_b3, wp_b4, wp_b5, eq_grd, eq_lb, eq_b1, eq_b2, eq_b3, eq_b4, eq_b5, show ¬ (n ≤ k) by omega, show k < 12 by omega, u63, u66, ez, true_and]
          by_cases h63 : M 63 k = nM
          · rw [if_pos h63]
            by_cases hst : stF M (evS M s) L (evw M s p) p n n k = false
            · rw [if_pos hst]
              exact skip (by unfold SPr; rw [hst, Bool.and_false])
            · have hst' : stF M (evS M s) L (evw M s p) p n n k = true := by cases h : stF M (evS M s) L (evw M s p) p n n k; exact absurd h hst; rfl
              have hsp : SPr M (evS M s) L (evw M s p) p n k = true := by unfold SPr; rw [hst', decide_eq_true h63]; rfl
              rw [if_neg hst]
              by_cases hm : c = v
              · rw [if_pos hm]
                exact Or.inr ⟨k, hkn', hsp, rfl, by rw [← hm]; exact hc⟩
              · rw [if_neg hm]
                refine hk2 _ hkn' ?_
                rw [SLk_s, if_pos hsp, List.length_append, List.length_singleton, ← Nat.add_assoc]
                refine ⟨by rw [hc, iN_add], ?_⟩
                intro i hi
                by_cases hie : i = (FLS M (evS M s) L (evw M s) n p).length + (SLk M (evS M s) L (evw M s p) p n k).length
                · rw [hie, ← hc]; exact fun h => hm h.symm
                · exact hno i (by omega)
          · rw [if_neg h63]
            exact skip (by unfold SPr; rw [decide_eq_false h63, Bool.false_and])
      refine wp_mono inner ?_
      rintro ⟨q1, q2, q3⟩ (⟨h1, h2, h3⟩ | ⟨h1, k, h2, h3, h4, h5⟩)
      · simp only at h1 h2 h3 ⊢
        rw [if_pos h1]
        refine hk (u, q2) hp' ⟨fun k hk => by show u k = y k; rw [u1 k hk]; exact hz k hk, ?_⟩
        rw [FLS_s, List.length_append, List.length_map]; exact ⟨h2, h3⟩
      · simp only at h1 h4 ⊢
        rw [if_neg (by rw [h1]; decide)]
        exact ⟨fun k hk => by rw [u1 k hk]; exact hz k hk, Or.inr ⟨p, k, hp', h2, h3, rfl, h4, h5⟩⟩
  refine wp_mono key ?_
  rintro ⟨q1, q2, q3, q4, q5⟩ ⟨hfr, hq⟩
  simp only at hfr hq ⊢
  have fr : ∀ k, k ≠ 11 → k ≠ 12 → k ≠ 13 → k ≠ 14 → k ≠ 66 → q5 k = M k := fun k k1 k2 k3 k4 k5 => by rw [hfr k k5, a1 k k1 k2 k3 k4]
  rcases hq with ⟨h1, h2, h3⟩ | ⟨h1, p, k, hp, hk, hsp, h3, h4, h5⟩
  · rw [if_pos h1]
    by_cases hv : v = nM
    · rw [if_pos (show v = -1 from hv), if_pos hv]
      exact ⟨fr, Or.inl ⟨h3, h2⟩⟩
    · rw [if_neg (show ¬ (v = -1) from hv), if_neg hv]
      exact ⟨fr, Or.inl ⟨h3, rfl⟩⟩
  · rw [if_neg (by rw [h1]; decide), h3, h4]
    obtain ⟨b1, b2⟩ := FLS_at (M := M) (E := evS M s) (L := L) (wd := evw M s) (n := n) (m := evn M s) hp hk hsp
    refine ⟨fr, Or.inr ⟨_, b1, h5, ?_⟩⟩
    rw [b2]
    simp only [iN_lit, iN_mul, iN_add]
theorem FLS_67 (M : Ob) (s n : Nat) : FLS (upo M 67 0 (iN 0)) (evS (upo M 67 0 (iN 0)) s) (Lk (sr (upo M 67 0 (iN 0))) (upo M 67 0 (iN 0)) s) (evw (upo M 67 0 (iN 0)) s) n (evn (upo M 67 0 (iN 0)) s) = FLS M (evS M s) (Lk (sr M) M s) (evw M s) n (evn M s) := by
  have hcr : cor M (upo M 67 0 (iN 0)) := fun k hk => upo_ne (by omega)
  rw [evS_cg hcr, sr_cg hcr, Lk_cg hcr, evw_cg hcr, evn_cg hcr]
  have e60 : ∀ k, k ≠ 67 → upo M 67 0 (iN 0) k = M k := fun k hk => upo_ne hk
  have efo : ∀ w p k, fo (upo M 67 0 (iN 0)) (evS M s) (Lk (sr M) M s) w p k = fo M (evS M s) (Lk (sr M) M s) w p k := fun w p k => by
    unfold fo; rw [e60 60 (by decide), e60 61 (by decide), e60 62 (by decide), e60 64 (by decide), e60 65 (by decide)]
  have eex : ∀ st n k, exB (upo M 67 0 (iN 0)) st n k = exB M st n k := fun st n k => by unfold exB; rw [e60 63 (by decide)]
  have est : ∀ w p d, stF (upo M 67 0 (iN 0)) (evS M s) (Lk (sr M) M s) w p n d = stF M (evS M s) (Lk (sr M) M s) w p n d := by
    intro w p d
    induction d with
    | zero => rfl
    | succ d ih => funext k; rw [stF, stF, efo, eex, ih]
  have eSP : ∀ w p, SPr (upo M 67 0 (iN 0)) (evS M s) (Lk (sr M) M s) w p n = SPr M (evS M s) (Lk (sr M) M s) w p n := fun w p => by
    funext k; unfold SPr; rw [e60 63 (by decide), est]
  unfold FLS SLk
  simp only [eSP]
theorem op_styleFaults {j : Nat} {K : Nat → Ob} {M : Ob} (h : RI j K M) (p1 : Int32) : Op_styleFaults RI j K M p1 := by
  obtain ⟨n, hn12, e59, k59⟩ := RI_pat h
  rcases in_or p1 (show 4 < 2147483648 by decide) with ⟨s, hs, e⟩ | hn
  · subst e
    obtain ⟨K', e1, c1, c2, c3, c4⟩ := X10_asN h hs
    have h4 := RI_67 (iN 0) h
    have hcr : cor M (upo M 67 0 (iN 0)) := fun k hk => upo_ne (by omega)
    obtain ⟨⟨r, y⟩, e2, d1, d2⟩ := X11_sty h4.1 hs ⟨_, h4.2.1.2.2.2.2⟩ (by rw [upo_ne (by decide)]; exact e59) hn12 nM
    simp only at d1 d2
    have hw : ∀ p, p < eL (evS M s) → K' (9 + s) 1 p = iN (evw M s p) ∧ evw M s p < 40 := fun p hp => by
      refine ⟨by rw [c3]; exact (h.2.2.1 s hs).1.2.2 p hp, ?_⟩
      exact Nat.lt_of_lt_of_le ((WTxt_at h.1.2.1 hs).2.2 p hp).1 (WLex_nw h.1.1)
    have hc := X8_count c1.2.1.2.2.2.2 e59 hn12 c2 (WM_E h.1 hs).1 (WM_E h.1 hs).2 hw
    have eF := FLS_67 M s n
    rw [eF] at d2
    have hr : r = iN (FLS M (evS M s) (Lk (sr M) M s) (evw M s) n (evn M s)).length := by
      rcases d2 with ⟨-, d2⟩ | ⟨i, hi, hv, -⟩
      · simp only [if_true] at d2; exact d2
      · have hlen := FLS_len (M := M) (E := evS M s) (L := Lk (sr M) M s) (wd := evw M s) (n := n) (evn M s)
        have h6 := (RI_len h hs).2.2
        have hmul : n * evn M s ≤ 12 * 6 := Nat.mul_le_mul hn12 h6
        rw [nM_iN (by omega)] at hv; exact hv.elim
    refine ⟨0, r, K', r, y, iN 0, ?_, ?_, ?_, Or.inl ⟨rfl, rfl, rfl⟩, RI_j (RI_cg (fun k hk => d1 k (by omega) (by omega) (by omega) (by omega) (by omega)) (RI_67 (iN 0) c1))⟩
    · rw [hr]
      have hc' : f_X8_countFaults (K' 7) (K' (9 + s)) = some (iN (FLS M (evS M s) (Lk (sr M) M s) (evw M s) n (evn M s)).length) := hc
      simp only [f_X10_styleFaults, X10_sAt K hs, eq_grd, eq_lb, eq_b1, eq_b2, eq_b3, eq_b4, eq_b5, if_true, hs, decide_true, e1, hc']
    · have e2' : f_X11_styleOf (upo M 67 0 (iN 0)) (iN s) (-1) = some (r, y) := e2
      simp only [f_X11_styleFaults, isS_y hs, may_1, eq_grd, eq_lb, eq_b1, eq_b2, eq_b3, eq_b4, eq_b5, e2', show ¬ (iN 1 = 0) by decide, if_false]
    · rw [f_X11_thrown, d1 67 (by decide) (by decide) (by decide) (by decide) (by decide), u67]
  · refine ⟨1, 0, K, 0, upo M 67 0 (iN 1), iN 1, ?_, ?_, congrArg some (u67 _ _), Or.inr ⟨rfl, rfl⟩, RI_j (RI_67 _ h)⟩
    · simp only [f_X10_styleFaults, sAt_n hn K, eq_grd, eq_lb, eq_b1, eq_b2, eq_b3, eq_b4, eq_b5]; rfl
    · simp (disch := omega) only [f_X11_styleFaults, isS_n hn, may_0, eq_grd, eq_lb, eq_b1, eq_b2, eq_b3, eq_b4, eq_b5, ↓nM_lit, iN_lit, iN_add, iN_mul, iN_lt, iN_le, iN_eq, iN_c, gd_iN, iN_nM, nM_iN, iN_ltM, nM_lt, nM_le, iN_leM, iN_0M, nM_p1, iN_0s1, decide_true, decide_eq_true_eq, Nat.not_lt_zero, if_true, if_false, if_true]
