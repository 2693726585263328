/-! Which mends are put together: said once; by the class. -/
def sA (a : Mo) (k : Nat) : Mo := if k = 2 then none else a
def sB (b : Mo) (k : Nat) : Mo := if k = 1 then none else b
def okc (a b : Mo) (k : Nat) : Bool := (decide (k = 2) || a.isSome) && (decide (k = 1) || b.isSome) && (decide (k ≠ 3) || !decide (moI a / iN 100 = moI b / iN 100))
def stp (M : Ob) (s : Nat) (a b : Mo) (k : Nat) (lc : Int32 × Nat) : Int32 × Nat := if (okc a b k && decide (prc M s (sA a k) (sB b k) < lc.1)) = true then (prc M s (sA a k) (sB b k), k) else lc
def bes (M : Ob) (s : Nat) (a b : Mo) : Nat := (stp M s a b 3 (stp M s a b 2 (stp M s a b 1 (bef M s, 0)))).2
theorem okm_A {M : Ob} {s : Nat} {a : Mo} (h : okm M s a) (k : Nat) : okm M s (sA a k) := by
  unfold sA; split
  · exact fun _ _ h => by cases h
  · exact h
theorem okm_B {M : Ob} {s : Nat} {a : Mo} (h : okm M s a) (k : Nat) : okm M s (sB a k) := by
  unfold sB; split
  · exact fun _ _ h => by cases h
  · exact h
theorem cb_z {K : Nat → Ob} {v : Int32} {i n : Nat} (hi : i < 2) (hz : (v >>> (iN i &&& iN 31)) &&& iN 1 = iN 0) : f_X10_canBePut_L2 (n + 1) K v (iN i) = f_X10_canBePut_L2 n K v (iN (i + 1)) := by
  have h2 : ¬ ((2 : Int32) ≤ iN i) := by show ¬ (iN 2 ≤ iN i); rw [iN_le (by omega) (by omega)]; omega
  have hz' : (v >>> (iN i &&& 31)) &&& (1 : Int32) = 0 := hz
  rw [f_X10_canBePut_L2, if_neg h2, if_pos hz', eq_lb, iN_1, iN_add]
theorem cb_o {K : Nat → Ob} {v : Int32} {i n : Nat} (hi : i < 2) (hz : ¬ ((v >>> (iN i &&& iN 31)) &&& iN 1 = iN 0)) : f_X10_canBePut_L2 (n + 1) K v (iN i) = if K 0 11 i = nM then some (2, iN i) else f_X10_canBePut_L2 n K v (iN (i + 1)) := by
  have h2 : ¬ ((2 : Int32) ≤ iN i) := by show ¬ (iN 2 ≤ iN i); rw [iN_le (by omega) (by omega)]; omega
  have hz' : ¬ ((v >>> (iN i &&& 31)) &&& (1 : Int32) = 0) := hz
  have g : gd (iN i) 2 = true := by rw [gd_iN (by omega)]; exact decide_eq_true hi
  rw [f_X10_canBePut_L2, if_neg h2, if_neg hz', g, eq_grd, iN_c (by omega), eq_lb, iN_1, iN_add]; rfl
theorem cb_e {K : Nat → Ob} {v : Int32} {n : Nat} : f_X10_canBePut_L2 (n + 1) K v (iN 2) = some (1, iN 2) := by
  rw [f_X10_canBePut_L2, if_pos (by decide)]
theorem isS_nz {a : Mo} (h : moI a = nM ∨ ¬ (moI a = nM)) (hh : (a = none ∧ moI a = nM) ∨ (a ≠ none ∧ ¬ (moI a = nM))) : (moI a = nM → a.isSome = false) ∧ (¬ (moI a = nM) → a.isSome = true) := by
  rcases hh with ⟨e, h2⟩ | ⟨e, h2⟩
  · exact ⟨fun _ => by rw [e]; rfl, fun h => absurd h2 h⟩
  · refine ⟨fun h => absurd h h2, fun _ => ?_⟩
    cases a with
    | none => exact absurd rfl e
    | some x => rfl
def Nz (a : Mo) : Prop := (moI a = nM → a.isSome = false) ∧ (¬ (moI a = nM) → a.isSome = true)
theorem Nz_of {M : Ob} {s : Nat} {a : Mo} (hM : WM M) (hs : s < 4) (h : okm M s a) : Nz a := isS_nz (Classical.em _) (moI_nz hM hs h)
theorem X10_can {K : Nat → Ob} {a b : Mo} (ha : Nz a) (hb : Nz b) (k0 : K 0 11 0 = moI a) (k1 : K 0 11 1 = moI b) {k : Nat} (hk : k = 1 ∨ k = 2 ∨ k = 3) : f_X10_canBePut K (iN k) = some (biN (okc a b k)) := by
  have bnd : ∀ (v : Int32) (c : Nat) (o : Int32) (w : Int32), bnd2 (some (c, o)) (fun code8 o2_u7 => if code8 = 1 then if v = 3 then if ((K 0 11 (0 : Int32).toNatClampNeg) / 100) = ((K 0 11 (1 : Int32).toNatClampNeg) / 100) then some 0 else some 1 else some 1 else some w) = if c = 1 then if v = 3 then if moI a / iN 100 = moI b / iN 100 then some 0 else some 1 else some 1 else some w := by
    intro v c o w
    have z0 : (0 : Int32).toNatClampNeg = 0 := by decide
    have z1 : (1 : Int32).toNatClampNeg = 1 := by decide
    rw [eq_b2, z0, z1, k0, k1]; rfl
  rcases hk with h | h | h
  · subst h
    have e : f_X10_canBePut_L2 200 K (iN 1) 0 = if moI a = nM then some (2, iN 0) else some (1, iN 2) := by
      show f_X10_canBePut_L2 (199 + 1) K (iN 1) (iN 0) = _
      rw [cb_o (by decide) (by decide), k0, show (199 : Nat) = 198 + 1 from rfl, cb_z (by decide) (by decide), show (198 : Nat) = 197 + 1 from rfl, cb_e]
    rw [f_X10_canBePut, e]
    by_cases h1 : moI a = nM
    · rw [if_pos h1, bnd, if_neg (by decide)]
      unfold okc; rw [ha.1 h1]; rfl
    · rw [if_neg h1, bnd, if_pos rfl, if_neg (by decide)]
      unfold okc; rw [ha.2 h1]; rfl
  · subst h
    have e : f_X10_canBePut_L2 200 K (iN 2) 0 = if moI b = nM then some (2, iN 1) else some (1, iN 2) := by
      show f_X10_canBePut_L2 (199 + 1) K (iN 2) (iN 0) = _
      rw [cb_z (by decide) (by decide), show (199 : Nat) = 198 + 1 from rfl, cb_o (by decide) (by decide), k1, show (198 : Nat) = 197 + 1 from rfl, cb_e]
    rw [f_X10_canBePut, e]
    by_cases h1 : moI b = nM
    · rw [if_pos h1, bnd, if_neg (by decide)]
      unfold okc; rw [hb.1 h1]; rfl
    · rw [if_neg h1, bnd, if_pos rfl, if_neg (by decide)]
      unfold okc; rw [hb.2 h1]; rfl
  · subst h
    have e : f_X10_canBePut_L2 200 K (iN 3) 0 = if moI a = nM then some (2, iN 0) else if moI b = nM then some (2, iN 1) else some (1, iN 2) := by
      show f_X10_canBePut_L2 (199 + 1) K (iN 3) (iN 0) = _
      rw [cb_o (by decide) (by decide), k0, show (199 : Nat) = 198 + 1 from rfl, cb_o (by decide) (by decide), k1, show (198 : Nat) = 197 + 1 from rfl, cb_e]
    rw [f_X10_canBePut, e]
    by_cases h1 : moI a = nM
    · rw [if_pos h1, bnd, if_neg (by decide)]
      unfold okc; rw [ha.1 h1]; rfl
    · rw [if_neg h1]
      by_cases h2 : moI b = nM
      · rw [if_pos h2, bnd, if_neg (by decide)]
        unfold okc; rw [ha.2 h1, hb.1 h2]; rfl
      · rw [if_neg h2, bnd, if_pos rfl, if_pos (by decide)]
        unfold okc; rw [ha.2 h1, hb.2 h2]
        by_cases h3 : moI a / iN 100 = moI b / iN 100
        · rw [if_pos h3, decide_eq_true h3]; rfl
        · rw [if_neg h3, decide_eq_false h3]; rfl
theorem X10_mendIn {K : Nat → Ob} {a b : Mo} (k0 : K 0 11 0 = moI a) (k1 : K 0 11 1 = moI b) {k : Nat} (hk : k = 1 ∨ k = 2 ∨ k = 3) : f_X10_mendIn K (iN k) 0 = some (moI (sA a k)) ∧ f_X10_mendIn K (iN k) 1 = some (moI (sB b k)) := by
  have b0 : f_X10_isBelow 0 2 = some (iN 1) := by decide
  have b1 : f_X10_isBelow 1 2 = some (iN 1) := by decide
  have n1 : ¬ (iN 1 = 0) := by decide
  have z0 : (0 : Int32).toNatClampNeg = 0 := by decide
  have z1 : (1 : Int32).toNatClampNeg = 1 := by decide
  have g0 : gd 0 2 = true := by decide
  have g1 : gd 1 2 = true := by decide
  rw [f_X10_mendIn, f_X10_mendIn, b0, b1, eq_b1, eq_b1, if_neg n1, if_neg n1, g0, g1, eq_grd, eq_grd, z0, z1, k0, k1]
  rcases hk with h | h | h
  · subst h
    exact ⟨if_neg (by decide), if_pos (by decide)⟩
  · subst h
    exact ⟨if_pos (by decide), if_neg (by decide)⟩
  · subst h
    exact ⟨if_neg (by decide), if_neg (by decide)⟩
