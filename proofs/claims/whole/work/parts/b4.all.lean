/-! Mends put together. -/
theorem stp_2 {M : Ob} {s : Nat} {a b : Mo} {k : Nat} {lc : Int32 × Nat} (hk : k = 1 ∨ k = 2 ∨ k = 3) (h : lc.2 = 0 ∨ ((lc.2 = 1 ∨ lc.2 = 2 ∨ lc.2 = 3) ∧ okc a b lc.2 = true)) : (stp M s a b k lc).2 = 0 ∨ (((stp M s a b k lc).2 = 1 ∨ (stp M s a b k lc).2 = 2 ∨ (stp M s a b k lc).2 = 3) ∧ okc a b (stp M s a b k lc).2 = true) := by
  unfold stp
  split
  · rename_i h1
    rw [Bool.and_eq_true] at h1
    exact Or.inr ⟨hk, h1.1⟩
  · exact h
theorem bes_k (M : Ob) (s : Nat) (a b : Mo) : bes M s a b = 0 ∨ ((bes M s a b = 1 ∨ bes M s a b = 2 ∨ bes M s a b = 3) ∧ okc a b (bes M s a b) = true) := by
  unfold bes
  exact stp_2 (Or.inr (Or.inr rfl)) (stp_2 (Or.inr (Or.inl rfl)) (stp_2 (Or.inl rfl) (Or.inl rfl)))
def finM (s : Nat) (x : Ob) : Option (Int32 × Ob) := bnd1 (f_X11_need x (iN s)) (fun x' => bnd1 (f_X11_costNow x' (iN s)) (fun r => some (r, x')))
theorem put_M {M x : Ob} {s : Nat} {o : Mo} (hM : WM M) (hs : s < 4) (ho : okm M s o) (hsm : o.isSome = true) (k : Ob → Option (Int32 × Ob)) : grd (gd (6 * iN s + moI o / 100) 24) (lb (upo x 10 (6 * iN s + moI o / 100).toNatClampNeg (moI o - moI o / 100 * 100)) k) = k (puM x s o) := by
  have h6 := (WTxt_at hM.2.1 hs).1
  rcases moI_d hM hs ho with ⟨e, -⟩ | ⟨p, w, e, hp, hw, -, hd, hm⟩
  · rw [e] at hsm; cases hsm
  · have e6 : 6 * iN s + moI o / 100 = iN (6 * s + p) := by rw [hd, iN_lit, iN_mul, iN_add]
    rw [e6, hm, gd_iN (by omega), decide_eq_true (show 6 * s + p < 24 by omega), eq_grd, eq_lb, iN_c (by omega), e]
    rfl
theorem J84_1 {M x : Ob} {s k : Nat} {b : Mo} (hM : WM M) (hs : s < 4) (hb : okm M s b) (hk : k = 0 ∨ k = 1 ∨ k = 2 ∨ k = 3) (hsm : 2 ≤ k → b.isSome = true) : f_X11_mendAll_J84 x (iN s) (moI b) (iN k) = finM s (if 2 ≤ k then puM x s b else x) := by
  rw [f_X11_mendAll_J84]
  rcases hk with h | h | h | h
  · subst h; rw [if_pos (by decide), if_neg (by decide)]; rfl
  · subst h; rw [if_pos (by decide), if_neg (by decide)]; rfl
  · subst h
    rw [if_neg (by decide), if_pos (by decide)]
    exact put_M hM hs hb (hsm (by decide)) (finM s)
  · subst h
    rw [if_neg (by decide), if_pos (by decide)]
    exact put_M hM hs hb (hsm (by decide)) (finM s)
theorem J56_0 {M x : Ob} {s : Nat} {a b : Mo} (hM : WM M) (hs : s < 4) (hb : okm M s b) : f_X11_mendAll_J56 x (iN s) (moI a) (moI b) (iN 0) (iN s) (x 55 s) 0 = finM s x := by
  have g : gd (iN s) 4 = true := by rw [gd_iN (by omega)]; exact decide_eq_true hs
  have e : upo x 55 s (x 55 s + 0) = x := by
    have : x 55 s + 0 = x 55 s := Int32.add_zero _
    rw [this]; exact upo_id _ _ _
  rw [f_X11_mendAll_J56, g, eq_grd, eq_lb, iN_c (by omega), e, if_neg (by decide), J84_1 hM hs hb (Or.inl rfl) (fun h => by omega), if_neg (by decide)]
theorem okc_s {a b : Mo} {k : Nat} (hk : k = 1 ∨ k = 2 ∨ k = 3) (h : okc a b k = true) : (k ≠ 2 → a.isSome = true) ∧ (2 ≤ k → b.isSome = true) := by
  unfold okc at h
  rw [Bool.and_eq_true, Bool.and_eq_true, Bool.or_eq_true, Bool.or_eq_true, decide_eq_true_eq, decide_eq_true_eq] at h
  obtain ⟨⟨h1, h2⟩, -⟩ := h
  exact ⟨fun hk2 => h1.resolve_left hk2, fun hk2 => h2.resolve_left (by omega)⟩
theorem J56_k {M x : Ob} {s k : Nat} {a b : Mo} (hM : WM M) (hs : s < 4) (ha : okm M s a) (hb : okm M s b) (hk : k = 1 ∨ k = 2 ∨ k = 3) (ho : okc a b k = true) : f_X11_mendAll_J56 x (iN s) (moI a) (moI b) (iN k) (iN s) (x 55 s) 1 = finM s (pu2 (upo x 55 s (x 55 s + iN 1)) s (sA a k) (sB b k)) := by
  have g : gd (iN s) 4 = true := by rw [gd_iN (by omega)]; exact decide_eq_true hs
  obtain ⟨s1, s2⟩ := okc_s hk ho
  have j84 := fun (x : Ob) => J84_1 (x := x) hM hs hb (show k = 0 ∨ k = 1 ∨ k = 2 ∨ k = 3 from Or.inr hk) s2
  rw [f_X11_mendAll_J56, g, eq_grd, eq_lb, iN_c (by omega), iN_1]
  generalize upo x 55 s (x 55 s + iN 1) = N
  rcases hk with h | h | h
  · subst h
    rw [if_pos (by decide)]
    refine Eq.trans (put_M (x := N) hM hs ha (s1 (by decide)) (fun x => f_X11_mendAll_J84 x (iN s) (moI b) (iN 1))) ?_
    show f_X11_mendAll_J84 (puM N s a) (iN s) (moI b) (iN 1) = _
    rw [j84, if_neg (by decide)]; rfl
  · subst h
    rw [if_neg (by decide), j84, if_pos (by decide)]; rfl
  · subst h
    rw [if_pos (by decide)]
    refine Eq.trans (put_M (x := N) hM hs ha (s1 (by decide)) (fun x => f_X11_mendAll_J84 x (iN s) (moI b) (iN 3))) ?_
    show f_X11_mendAll_J84 (puM N s a) (iN s) (moI b) (iN 3) = _
    rw [j84, if_pos (by decide)]; rfl
theorem outd (x : Ob) : f_X6_outdate x = some (upo (upo x 7 0 (iN 0)) 8 0 (iN 1)) := by
  simp only [f_X6_outdate, eq_grd, eq_lb, eq_b1, eq_b2, eq_b3, eq_b4, eq_b5, iN_lit]
/-- the words are put -/
theorem RI_put {j : Nat} {K : Nat → Ob} {x y2 : Ob} {s : Nat} {o1 o2 : Mo} (hj : j < 512) (h : RI j K x) (hs : s < 4) (h1 : okm x s o1) (h2 : okm x s o2) (hw : RW6 y2 (evn x s) (puW (puW (evw x s) o1) o2)) : RI (j + 1) (va_up K (9 + s) (upo (upo y2 7 0 (iN 0)) 8 0 (iN 1))) (pu2 (upo x 55 s (x 55 s + iN 1)) s o1 o2) := by
  have hc : cor x (upo x 55 s (x 55 s + iN 1)) := fun k hk => upo_ne (by omega)
  have hN : ∀ k, k ≠ 55 → upo x 55 s (x 55 s + iN 1) k = x k := fun k hk => upo_ne hk
  have h55 : ∀ t, upo x 55 s (x 55 s + iN 1) 55 t = if t = s then x 55 t + iN 1 else x 55 t := by
    intro t; rw [upo_ap]
    by_cases e : t = s
    · subst e; rw [if_pos ⟨rfl, rfl⟩, if_pos rfl]
    · rw [if_neg (fun h => e h.2), if_neg e]
  have h6 := (WTxt_at h.1.2.1 hs).1
  have ew : evw (upo x 55 s (x 55 s + iN 1)) s = evw x s := by rw [evw_cg hc]
  have en : evn (upo x 55 s (x 55 s + iN 1)) s = evn x s := evn_cg hc s
  have hM := WM_cg hc h.1
  rw [← okm_cg hc] at h1 h2
  generalize upo x 55 s (x 55 s + iN 1) = N at *
  obtain ⟨n1, n2, n3, n4, n5, n6, n7⟩ := pu2_all hM hs h1 h2
  have h10 : ∀ i, (i < 6 * s ∨ 6 * s + 6 ≤ i) → pu2 N s o1 o2 10 i = x 10 i := by
    intro i hi
    have p1 : ∀ (Z : Ob) (o : Mo), (∀ p w, o = some (p, w) → p < 6) → puM Z s o 10 i = Z 10 i := by
      intro Z o ho
      cases o with
      | none => rfl
      | some a =>
        have := ho a.1 a.2 rfl
        show upo Z 10 (6 * s + a.1) (iN a.2) 10 i = Z 10 i
        rw [upo_ap, if_neg (fun h => by omega)]
    unfold pu2
    rw [p1 _ o2 (fun p w e => by have := (h2 p w e).1; omega), p1 _ o1 (fun p w e => by have := (h1 p w e).1; omega), hN 10 (by decide)]
  obtain ⟨t1, t2, t3⟩ := WTxt_at n1.2.1 hs
  refine RI_snt hj h hs ?_ ?_ h10 ⟨_, t1, t2, fun p hp => ⟨_, ?_, (t3 p hp).2⟩⟩ ?_ ?_
  · intro k hk; rw [n6 k (by omega)]; exact hN k (by omega)
  · intro t _ _; rw [n6 9 (by decide), hN 9 (by decide)]
  · have := (t3 p hp).1
    rw [n6 0 (by decide), hN 0 (by decide)] at this
    exact this
  · rw [n2, n5, en, ew]; exact hw
  · intro t; rw [n6 55 (by decide)]; exact h55 t
