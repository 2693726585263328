/-! Which mends are put together: by the reference. -/
theorem X11_costM {M x : Ob} {s : Nat} {o1 o2 : Mo} (hM : WM M) (hx : Yq M x) (hs : s < 4) (h1 : okm M s o1) (h2 : okm M s o2) : wp (f_X11_costWith x (iN s) (moI o1) (moI o2)) (fun q => q.1 = prc M s o1 o2 ∧ Yq M q.2) := by
  have hc := Yq_c hx
  refine wp_mono (X11_cost (M := x) (o1 := o1) (o2 := o2) (WM_cg hc hM) hs (by rw [okm_cg hc]; exact h1) (by rw [okm_cg hc]; exact h2)) ?_
  rintro q ⟨c1, c2⟩
  exact ⟨by rw [c1, prc_cg hc], Yq_t hx (fun k hk => c2 k (by omega))⟩
def rst (M : Ob) (s : Nat) (a b : Mo) (k : Nat) (lc : Int32 × Nat) : Int32 × Nat := if prc M s (sA a k) (sB b k) < lc.1 then (prc M s (sA a k) (sB b k), k) else lc
theorem X11_J102 {M x : Ob} {s : Nat} {a b : Mo} {k : Nat} (hM : WM M) (hx : Yq M x) (hs : s < 4) (ha : okm M s a) (hb : okm M s b) (hk : k = 1 ∨ k = 2 ∨ k = 3) (lc : Int32 × Nat) :
    wp (f_X11_bestOf_J102 x (iN s) (moI a) (moI b) (iN lc.2) lc.1 (iN k) (iN s) (moI (sA a k))) (fun o => ∃ x', Yq M x' ∧ o = (0, iN (rst M s a b k lc).2, (rst M s a b k lc).1, iN (k + 1), x')) := by
  obtain ⟨⟨r, x'⟩, ec, c1, c2⟩ := X11_costM hM hx hs (okm_A ha k) (okm_B hb k)
  simp only at c1 c2
  subst c1
  have e1 : iN k + 1 = iN (k + 1) := iN_add k 1
  have fin : wp (if lc.1 ≤ prc M s (sA a k) (sB b k) then lb (iN k + 1) (fun w6_24 => some ((0 : Nat), iN lc.2, lc.1, w6_24, x')) else lb (iN k + 1) (fun w6_25 => some (0, iN k, prc M s (sA a k) (sB b k), w6_25, x'))) (fun o => ∃ x', Yq M x' ∧ o = (0, iN (rst M s a b k lc).2, (rst M s a b k lc).1, iN (k + 1), x')) := by
    unfold rst
    rw [eq_lb, eq_lb, e1]
    by_cases hle : lc.1 ≤ prc M s (sA a k) (sB b k)
    · rw [if_pos hle, if_neg (i32_nlt.mpr hle)]
      exact wp_some.mpr ⟨x', c2, rfl⟩
    · rw [if_neg hle, if_pos (i32_nle.mp hle)]
      exact wp_some.mpr ⟨x', c2, rfl⟩
  rw [f_X11_bestOf_J102]
  rcases hk with h | h | h
  · subst h
    have ec' : f_X11_costWith x (iN s) (moI (sA a 1)) (-1) = some (prc M s (sA a 1) (sB b 1), x') := ec
    rw [if_pos (by decide), ec', eq_b2]
    exact fin
  · subst h
    have ec' : f_X11_costWith x (iN s) (moI (sA a 2)) (moI b) = some (prc M s (sA a 2) (sB b 2), x') := ec
    rw [if_neg (by decide), ec', eq_b2]
    exact fin
  · subst h
    have ec' : f_X11_costWith x (iN s) (moI (sA a 3)) (moI b) = some (prc M s (sA a 3) (sB b 3), x') := ec
    rw [if_neg (by decide), ec', eq_b2]
    exact fin
theorem X11_J75 {M x : Ob} {s : Nat} {a b : Mo} {k : Nat} (hM : WM M) (hx : Yq M x) (hs : s < 4) (ha : okm M s a) (hb : okm M s b) (hk : k = 1 ∨ k = 2 ∨ k = 3) (lc : Int32 × Nat) :
    wp (f_X11_bestOf_J75 x (iN s) (moI a) (moI b) (iN lc.2) lc.1 (iN k)) (fun o => ∃ x', Yq M x' ∧ o = (0, iN (rst M s a b k lc).2, (rst M s a b k lc).1, iN (k + 1), x')) := by
  have := X11_J102 hM hx hs ha hb hk lc
  rw [f_X11_bestOf_J75, f_X11_bestOf_J80, if_neg (by decide)]
  rcases hk with h | h | h
  · subst h; rw [if_pos (by decide)]; exact this
  · subst h; rw [if_neg (by decide)]; exact this
  · subst h; rw [if_pos (by decide)]; exact this
theorem X11_J79 {x : Ob} {v1 v2 v3 v4 v5 : Int32} {k : Nat} : f_X11_bestOf_J79 x v1 v2 v3 v4 v5 (iN k) = some (0, v4, v5, iN (k + 1), x) := by
  have e1 : iN k + 1 = iN (k + 1) := iN_add k 1
  rw [f_X11_bestOf_J79, f_X11_bestOf_J80, if_pos rfl, if_pos (Int32.le_refl _), eq_lb, e1]
theorem stp_y {M : Ob} {s : Nat} {a b : Mo} {k : Nat} {lc : Int32 × Nat} (h : okc a b k = true) : stp M s a b k lc = rst M s a b k lc := by
  unfold stp rst
  rw [h, Bool.true_and]
  by_cases hc : prc M s (sA a k) (sB b k) < lc.1
  · rw [if_pos (decide_eq_true hc), if_pos hc]
  · rw [if_neg (by rw [decide_eq_false hc]; decide), if_neg hc]
theorem stp_n {M : Ob} {s : Nat} {a b : Mo} {k : Nat} {lc : Int32 × Nat} (h : okc a b k = false) : stp M s a b k lc = lc := by
  unfold stp
  rw [h, Bool.false_and, if_neg (by decide)]
theorem X11_bs1 {M x : Ob} {s : Nat} {a b : Mo} {k n : Nat} (hM : WM M) (hx : Yq M x) (hs : s < 4) (ha : okm M s a) (hb : okm M s b) (hk : k = 1 ∨ k = 2 ∨ k = 3) (lc : Int32 × Nat) {Q : Int32 × Int32 × Int32 × Ob → Prop}
    (h : ∀ x', Yq M x' → wp (f_X11_bestOf_L29 n x' (iN s) (moI a) (moI b) (iN (stp M s a b k lc).2) (stp M s a b k lc).1 (iN (k + 1))) Q) :
    wp (f_X11_bestOf_L29 (n + 1) x (iN s) (moI a) (moI b) (iN lc.2) lc.1 (iN k)) Q := by
  have yes : okc a b k = true → ∀ o, o = f_X11_bestOf_J75 x (iN s) (moI a) (moI b) (iN lc.2) lc.1 (iN k) → wp (bnd5 o (fun code35 o4_t34 o5_t34 o6_t34 y_o_t34 => if code35 = 0 then f_X11_bestOf_L29 n y_o_t34 (iN s) (moI a) (moI b) o4_t34 o5_t34 o6_t34 else some (o4_t34, o5_t34, o6_t34, y_o_t34))) Q := by
    intro hy o ho
    subst ho
    rw [wp_b5]
    refine wp_mono (X11_J75 hM hx hs ha hb hk lc) ?_
    rintro o ⟨x', hx', rfl⟩
    show wp (if (0 : Nat) = 0 then _ else _) Q
    rw [if_pos rfl]
    have := h x' hx'
    rw [stp_y hy] at this
    exact this
  have no : okc a b k = false → ∀ o, o = f_X11_bestOf_J79 x (iN s) (moI a) (moI b) (iN lc.2) lc.1 (iN k) → wp (bnd5 o (fun code35 o4_t34 o5_t34 o6_t34 y_o_t34 => if code35 = 0 then f_X11_bestOf_L29 n y_o_t34 (iN s) (moI a) (moI b) o4_t34 o5_t34 o6_t34 else some (o4_t34, o5_t34, o6_t34, y_o_t34))) Q := by
    intro hy o ho
    subst ho
    rw [X11_J79, eq_b5]
    show wp (if (0 : Nat) = 0 then _ else _) Q
    rw [if_pos rfl]
    have := h x hx
    rw [stp_n hy] at this
    exact this
  have za := Nz_of hM hs ha
  have zb := Nz_of hM hs hb
  rw [f_X11_bestOf_L29]
  rcases hk with hk | hk | hk
  · subst hk
    rw [if_neg (by decide), if_neg (by decide)]
    by_cases h1 : moI a = nM
    · rw [if_pos (show moI a = -1 from h1)]
      exact no (by unfold okc; rw [za.1 h1]; rfl) _ rfl
    · rw [if_neg (show ¬ (moI a = -1) from h1)]
      refine yes (by unfold okc; rw [za.2 h1]; rfl) _ ?_
      rw [f_X11_bestOf_J47, if_pos (by decide), f_X11_bestOf_J58, if_pos (by decide)]
  · subst hk
    rw [if_neg (by decide), if_pos (by decide)]
    by_cases h1 : moI b = nM
    · refine no (by unfold okc; rw [zb.1 h1]; rfl) _ ?_
      rw [f_X11_bestOf_J47, if_neg (by decide), if_pos (show moI b = -1 from h1)]
    · refine yes (by unfold okc; rw [zb.2 h1]; rfl) _ ?_
      rw [f_X11_bestOf_J47, if_neg (by decide), if_neg (show ¬ (moI b = -1) from h1), f_X11_bestOf_J58, if_pos (by decide)]
  · subst hk
    rw [if_neg (by decide), if_neg (by decide)]
    by_cases h1 : moI a = nM
    · rw [if_pos (show moI a = -1 from h1)]
      exact no (by unfold okc; rw [za.1 h1]; rfl) _ rfl
    · rw [if_neg (show ¬ (moI a = -1) from h1)]
      by_cases h2 : moI b = nM
      · refine no (by unfold okc; rw [za.2 h1, zb.1 h2]; rfl) _ ?_
        rw [f_X11_bestOf_J47, if_neg (by decide), if_pos (show moI b = -1 from h2)]
      · by_cases h3 : moI a / iN 100 = moI b / iN 100
        · refine no (by unfold okc; rw [za.2 h1, zb.2 h2, decide_eq_true h3]; rfl) _ ?_
          rw [f_X11_bestOf_J47, if_neg (by decide), if_neg (show ¬ (moI b = -1) from h2), f_X11_bestOf_J58, if_neg (by decide), if_pos (show moI a / 100 = moI b / 100 from h3)]
        · refine yes (by unfold okc; rw [za.2 h1, zb.2 h2, decide_eq_false h3]; rfl) _ ?_
          rw [f_X11_bestOf_J47, if_neg (by decide), if_neg (show ¬ (moI b = -1) from h2), f_X11_bestOf_J58, if_neg (by decide), if_neg (show ¬ (moI a / 100 = moI b / 100) from h3)]
theorem X11_bestOf {M x : Ob} {s : Nat} (hM : WM M) (hx : Yq M x) (hs : s < 4) (ha : okm M s (mdl M s 0)) (hb : okm M s (mdl M s 1)) : wp (f_X11_bestOf x (iN s)) (fun q => q.1 = iN (bes M s (mdl M s 0) (mdl M s 1)) ∧ Yq M q.2) := by
  obtain ⟨⟨r1, y1⟩, e1, a1, a2⟩ := X11_mendOf (i := 0) hM hx hs (by decide)
  simp only at a1 a2
  obtain ⟨⟨r2, y2⟩, e2, b1, b2⟩ := X11_mendOf (i := 1) hM a2 hs (by decide)
  simp only at b1 b2
  obtain ⟨⟨r3, y3⟩, e3, c1, c2⟩ := X11_costM (o1 := none) (o2 := none) hM b2 hs (fun _ _ h => by cases h) (fun _ _ h => by cases h)
  simp only at c1 c2
  subst a1
  subst b1
  subst c1
  have e1' : f_X11_mendOf x (iN s) 0 = some (moI (mdl M s 0), y1) := e1
  have e2' : f_X11_mendOf y1 (iN s) 1 = some (moI (mdl M s 1), y2) := e2
  have e3' : f_X11_costWith y2 (iN s) (-1) (-1) = some (bef M s, y3) := e3
  rw [f_X11_bestOf, e1', eq_b2]
  show wp (bnd2 (f_X11_mendOf y1 (iN s) 1) _) _
  rw [e2', eq_b2]
  show wp (bnd2 (f_X11_costWith y2 (iN s) (-1) (-1)) _) _
  rw [e3', eq_b2, wp_b4]
  generalize mdl M s 0 = a at *
  generalize mdl M s 1 = b at *
  unfold bes
  refine X11_bs1 (n := 199) (k := 1) hM c2 hs ha hb (Or.inl rfl) (bef M s, 0) ?_
  intro z1 w1
  refine X11_bs1 (n := 198) (k := 2) hM w1 hs ha hb (Or.inr (Or.inl rfl)) _ ?_
  intro z2 w2
  refine X11_bs1 (n := 197) (k := 3) hM w2 hs ha hb (Or.inr (Or.inr rfl)) _ ?_
  intro z3 w3
  generalize stp M s a b 3 (stp M s a b 2 (stp M s a b 1 (bef M s, 0))) = lc
  show wp (f_X11_bestOf_L29 (196 + 1) z3 (iN s) (moI a) (moI b) (iN lc.2) lc.1 (iN 4)) _
  rw [f_X11_bestOf_L29, if_pos (by decide)]
  exact wp_some.mpr (wp_some.mpr ⟨rfl, w3⟩)
