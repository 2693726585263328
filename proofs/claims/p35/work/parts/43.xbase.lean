/-- the objects of the class under proof, by number: 0 itself, 1 lexicon, 2 striking, 3 grammar, 4 referring, 5 tree, 6 cuts, 7 style, 8 reader, 9.. the sentences (13: the one tried), 14.. their charts -/
def bb (ad : Nat → Nat → Nat) : Nat → Nat := fun i => ad (9 + i) 0
def cellsOf (T : Nat → ClassId) (ad : Nat → Nat → Nat) (k : Nat) : Ob → va_W := match k with
  | 0 => oc_X10 T (ad 0) (bb ad)
  | 1 => oc_X3 T (ad 1)
  | 2 => oc_X7 T (ad 2)
  | 3 => oc_X2 T (ad 3)
  | 4 => oc_X5 T (ad 4)
  | 5 => oc_X9 T (ad 5)
  | 6 => oc_X1 T (ad 6)
  | 7 => oc_X8 T (ad 7)
  | 8 => oc_X4 T (ad 8)
  | 9 => oc_X6 T (ad 9)
  | 10 => oc_X6 T (ad 10)
  | 11 => oc_X6 T (ad 11)
  | 12 => oc_X6 T (ad 12)
  | 13 => oc_X6 T (ad 13)
  | k => oc_X0 T (ad k)
theorem lt5 {i : Nat} (h : i < 5) : i = 0 ∨ i = 1 ∨ i = 2 ∨ i = 3 ∨ i = 4 := by omega
theorem cS {T : Nat → ClassId} {ad : Nat → Nat → Nat} {i : Nat} {x : Ob} (h : i < 5) : cellsOf T ad (9 + i) x = oc_X6 T (ad (9 + i)) x := by
  rcases lt5 h with rfl | rfl | rfl | rfl | rfl <;> rfl
theorem cC {T : Nat → ClassId} {ad : Nat → Nat → Nat} {i : Nat} {x : Ob} (h : i < 5) : cellsOf T ad (14 + i) x = oc_X0 T (ad (14 + i)) x := by
  rcases lt5 h with rfl | rfl | rfl | rfl | rfl <;> rfl
def L18 : List Nat := [1, 2, 3, 4, 5, 6, 7, 8, 9, 10, 11, 12, 13, 14, 15, 16, 17, 18]
theorem mS {i : Nat} (h : i < 5) : 9 + i ∈ L18 := by rcases lt5 h with rfl | rfl | rfl | rfl | rfl <;> decide
theorem mC {i : Nat} (h : i < 5) : 14 + i ∈ L18 := by rcases lt5 h with rfl | rfl | rfl | rfl | rfl <;> decide
theorem n18 : L18.Nodup := by decide
theorem z18 {k : Nat} (h : k ∈ L18) : k ≠ 0 := by rintro rfl; revert h; decide
def wkL (T : Nat → ClassId) (ad : Nat → Nat → Nat) (K : Nat → Ob) (ks : List Nat) : va_W := ks.flatMap (fun k => cellsOf T ad k (K k))
theorem wkL_eq {T : Nat → ClassId} {ad : Nat → Nat → Nat} {K K' : Nat → Ob} {ks : List Nat} (h : ∀ k ∈ ks, K' k = K k) : wkL T ad K' ks = wkL T ad K ks := by
  unfold wkL
  induction ks with
  | nil => rfl
  | cons a l ih =>
    rw [List.flatMap_cons, List.flatMap_cons, h a List.mem_cons_self, ih (fun k hk => h k (List.mem_cons_of_mem _ hk))]
theorem wkL_er {T : Nat → ClassId} {ad : Nat → Nat → Nat} {K : Nat → Ob} {ks : List Nat} {k : Nat} (h : k ∈ ks) : (wkL T ad K ks).Perm (cellsOf T ad k (K k) ++ wkL T ad K (ks.erase k)) := by
  have h1 := List.Perm.flatMap_right (fun k => cellsOf T ad k (K k)) (List.perm_cons_erase h)
  rw [List.flatMap_cons] at h1
  exact h1
/-- pull objects ahead of the world -/
theorem fo1 {T : Nat → ClassId} {ad : Nat → Nat → Nat} {K : Nat → Ob} {M Z w1 : va_W} {k1 : Nat} (h1 : k1 ∈ L18) (e1 : cellsOf T ad k1 (K k1) = w1) : (M ++ (wkL T ad K L18 ++ Z)).Perm (w1 ++ (M ++ (wkL T ad K (L18.erase k1) ++ Z))) := by
  subst e1
  have h := (List.Perm.append_left M (List.Perm.append_right Z (wkL_er (T := T) (ad := ad) (K := K) h1)))
  rw [List.append_assoc] at h
  exact h.trans pf1
theorem fo1g {T : Nat → ClassId} {ad : Nat → Nat → Nat} {K : Nat → Ob} {M Z : va_W} {k1 : Nat} {ks : List Nat} (h1 : k1 ∈ ks) : (M ++ (wkL T ad K ks ++ Z)).Perm (cellsOf T ad k1 (K k1) ++ (M ++ (wkL T ad K (ks.erase k1) ++ Z))) := by
  have h := (List.Perm.append_left M (List.Perm.append_right Z (wkL_er (T := T) (ad := ad) (K := K) h1)))
  rw [List.append_assoc] at h
  exact h.trans pf1
theorem fo2 {T : Nat → ClassId} {ad : Nat → Nat → Nat} {K : Nat → Ob} {M Z w1 w2 : va_W} {k1 k2 : Nat} (h1 : k1 ∈ L18) (h2 : k2 ∈ L18) (n21 : k2 ≠ k1) (e1 : cellsOf T ad k1 (K k1) = w1) (e2 : cellsOf T ad k2 (K k2) = w2) : (M ++ (wkL T ad K L18 ++ Z)).Perm (w1 ++ (w2 ++ (M ++ (wkL T ad K ((L18.erase k1).erase k2) ++ Z)))) := by
  refine (fo1 h1  e1).trans ?_
  subst e2
  exact List.Perm.append_left w1 (fo1g (T := T) (ad := ad) (K := K) (M := M) (Z := Z) ((List.mem_erase_of_ne n21).mpr h2))
theorem fo3 {T : Nat → ClassId} {ad : Nat → Nat → Nat} {K : Nat → Ob} {M Z w1 w2 w3 : va_W} {k1 k2 k3 : Nat} (h1 : k1 ∈ L18) (h2 : k2 ∈ L18) (h3 : k3 ∈ L18) (n21 : k2 ≠ k1) (n31 : k3 ≠ k1) (n32 : k3 ≠ k2) (e1 : cellsOf T ad k1 (K k1) = w1) (e2 : cellsOf T ad k2 (K k2) = w2) (e3 : cellsOf T ad k3 (K k3) = w3) : (M ++ (wkL T ad K L18 ++ Z)).Perm (w1 ++ (w2 ++ (w3 ++ (M ++ (wkL T ad K (((L18.erase k1).erase k2).erase k3) ++ Z))))) := by
  refine (fo2 h1 h2 n21 e1 e2).trans ?_
  subst e3
  exact List.Perm.append_left w1 (List.Perm.append_left w2 (fo1g (T := T) (ad := ad) (K := K) (M := M) (Z := Z) ((List.mem_erase_of_ne n32).mpr ((List.mem_erase_of_ne n31).mpr h3))))
theorem fo4 {T : Nat → ClassId} {ad : Nat → Nat → Nat} {K : Nat → Ob} {M Z w1 w2 w3 w4 : va_W} {k1 k2 k3 k4 : Nat} (h1 : k1 ∈ L18) (h2 : k2 ∈ L18) (h3 : k3 ∈ L18) (h4 : k4 ∈ L18) (n21 : k2 ≠ k1) (n31 : k3 ≠ k1) (n32 : k3 ≠ k2) (n41 : k4 ≠ k1) (n42 : k4 ≠ k2) (n43 : k4 ≠ k3) (e1 : cellsOf T ad k1 (K k1) = w1) (e2 : cellsOf T ad k2 (K k2) = w2) (e3 : cellsOf T ad k3 (K k3) = w3) (e4 : cellsOf T ad k4 (K k4) = w4) : (M ++ (wkL T ad K L18 ++ Z)).Perm (w1 ++ (w2 ++ (w3 ++ (w4 ++ (M ++ (wkL T ad K ((((L18.erase k1).erase k2).erase k3).erase k4) ++ Z)))))) := by
  refine (fo3 h1 h2 h3 n21 n31 n32 e1 e2 e3).trans ?_
  subst e4
  exact List.Perm.append_left w1 (List.Perm.append_left w2 (List.Perm.append_left w3 (fo1g (T := T) (ad := ad) (K := K) (M := M) (Z := Z) ((List.mem_erase_of_ne n43).mpr ((List.mem_erase_of_ne n42).mpr ((List.mem_erase_of_ne n41).mpr h4))))))
theorem fo5 {T : Nat → ClassId} {ad : Nat → Nat → Nat} {K : Nat → Ob} {M Z w1 w2 w3 w4 w5 : va_W} {k1 k2 k3 k4 k5 : Nat} (h1 : k1 ∈ L18) (h2 : k2 ∈ L18) (h3 : k3 ∈ L18) (h4 : k4 ∈ L18) (h5 : k5 ∈ L18) (n21 : k2 ≠ k1) (n31 : k3 ≠ k1) (n32 : k3 ≠ k2) (n41 : k4 ≠ k1) (n42 : k4 ≠ k2) (n43 : k4 ≠ k3) (n51 : k5 ≠ k1) (n52 : k5 ≠ k2) (n53 : k5 ≠ k3) (n54 : k5 ≠ k4) (e1 : cellsOf T ad k1 (K k1) = w1) (e2 : cellsOf T ad k2 (K k2) = w2) (e3 : cellsOf T ad k3 (K k3) = w3) (e4 : cellsOf T ad k4 (K k4) = w4) (e5 : cellsOf T ad k5 (K k5) = w5) : (M ++ (wkL T ad K L18 ++ Z)).Perm (w1 ++ (w2 ++ (w3 ++ (w4 ++ (w5 ++ (M ++ (wkL T ad K (((((L18.erase k1).erase k2).erase k3).erase k4).erase k5) ++ Z))))))) := by
  refine (fo4 h1 h2 h3 h4 n21 n31 n32 n41 n42 n43 e1 e2 e3 e4).trans ?_
  subst e5
  exact List.Perm.append_left w1 (List.Perm.append_left w2 (List.Perm.append_left w3 (List.Perm.append_left w4 (fo1g (T := T) (ad := ad) (K := K) (M := M) (Z := Z) ((List.mem_erase_of_ne n54).mpr ((List.mem_erase_of_ne n53).mpr ((List.mem_erase_of_ne n52).mpr ((List.mem_erase_of_ne n51).mpr h5))))))))
theorem ba1 {T : Nat → ClassId} {ad : Nat → Nat → Nat} {K K' : Nat → Ob} {Z w1 : va_W} {k1 : Nat} (h1 : k1 ∈ L18)  (h0 : K' 0 = K 0) (hK : ∀ k, k ∈ L18 → k ≠ k1 → K' k = K k) (e1 : cellsOf T ad k1 (K' k1) = w1) : (w1 ++ (oc_X10 T (ad 0) (bb ad) (K 0) ++ (wkL T ad K (L18.erase k1) ++ Z))).Perm (oc_X10 T (ad 0) (bb ad) (K' 0) ++ (wkL T ad K' L18 ++ Z)) := by
  have e9 : wkL T ad K' (L18.erase k1) = wkL T ad K (L18.erase k1) := wkL_eq (fun k hk => by
    have hm1 := hk
    obtain ⟨q1, hm0⟩ := (List.Nodup.mem_erase_iff n18).mp hm1
    exact hK k hm0 q1)
  rw [← e9, ← h0]
  exact (fo1 h1  e1).symm
theorem ba2 {T : Nat → ClassId} {ad : Nat → Nat → Nat} {K K' : Nat → Ob} {Z w1 w2 : va_W} {k1 k2 : Nat} (h1 : k1 ∈ L18) (h2 : k2 ∈ L18) (n21 : k2 ≠ k1) (h0 : K' 0 = K 0) (hK : ∀ k, k ∈ L18 → k ≠ k1 → k ≠ k2 → K' k = K k) (e1 : cellsOf T ad k1 (K' k1) = w1) (e2 : cellsOf T ad k2 (K' k2) = w2) : (w1 ++ (w2 ++ (oc_X10 T (ad 0) (bb ad) (K 0) ++ (wkL T ad K ((L18.erase k1).erase k2) ++ Z)))).Perm (oc_X10 T (ad 0) (bb ad) (K' 0) ++ (wkL T ad K' L18 ++ Z)) := by
  have e9 : wkL T ad K' ((L18.erase k1).erase k2) = wkL T ad K ((L18.erase k1).erase k2) := wkL_eq (fun k hk => by
    have hm2 := hk
    obtain ⟨q2, hm1⟩ := (List.Nodup.mem_erase_iff (n18.erase k1)).mp hm2
    obtain ⟨q1, hm0⟩ := (List.Nodup.mem_erase_iff n18).mp hm1
    exact hK k hm0 q1 q2)
  rw [← e9, ← h0]
  exact (fo2 h1 h2 n21 e1 e2).symm
theorem ba3 {T : Nat → ClassId} {ad : Nat → Nat → Nat} {K K' : Nat → Ob} {Z w1 w2 w3 : va_W} {k1 k2 k3 : Nat} (h1 : k1 ∈ L18) (h2 : k2 ∈ L18) (h3 : k3 ∈ L18) (n21 : k2 ≠ k1) (n31 : k3 ≠ k1) (n32 : k3 ≠ k2) (h0 : K' 0 = K 0) (hK : ∀ k, k ∈ L18 → k ≠ k1 → k ≠ k2 → k ≠ k3 → K' k = K k) (e1 : cellsOf T ad k1 (K' k1) = w1) (e2 : cellsOf T ad k2 (K' k2) = w2) (e3 : cellsOf T ad k3 (K' k3) = w3) : (w1 ++ (w2 ++ (w3 ++ (oc_X10 T (ad 0) (bb ad) (K 0) ++ (wkL T ad K (((L18.erase k1).erase k2).erase k3) ++ Z))))).Perm (oc_X10 T (ad 0) (bb ad) (K' 0) ++ (wkL T ad K' L18 ++ Z)) := by
  have e9 : wkL T ad K' (((L18.erase k1).erase k2).erase k3) = wkL T ad K (((L18.erase k1).erase k2).erase k3) := wkL_eq (fun k hk => by
    have hm3 := hk
    obtain ⟨q3, hm2⟩ := (List.Nodup.mem_erase_iff ((n18.erase k1).erase k2)).mp hm3
    obtain ⟨q2, hm1⟩ := (List.Nodup.mem_erase_iff (n18.erase k1)).mp hm2
    obtain ⟨q1, hm0⟩ := (List.Nodup.mem_erase_iff n18).mp hm1
    exact hK k hm0 q1 q2 q3)
  rw [← e9, ← h0]
  exact (fo3 h1 h2 h3 n21 n31 n32 e1 e2 e3).symm
theorem ba4 {T : Nat → ClassId} {ad : Nat → Nat → Nat} {K K' : Nat → Ob} {Z w1 w2 w3 w4 : va_W} {k1 k2 k3 k4 : Nat} (h1 : k1 ∈ L18) (h2 : k2 ∈ L18) (h3 : k3 ∈ L18) (h4 : k4 ∈ L18) (n21 : k2 ≠ k1) (n31 : k3 ≠ k1) (n32 : k3 ≠ k2) (n41 : k4 ≠ k1) (n42 : k4 ≠ k2) (n43 : k4 ≠ k3) (h0 : K' 0 = K 0) (hK : ∀ k, k ∈ L18 → k ≠ k1 → k ≠ k2 → k ≠ k3 → k ≠ k4 → K' k = K k) (e1 : cellsOf T ad k1 (K' k1) = w1) (e2 : cellsOf T ad k2 (K' k2) = w2) (e3 : cellsOf T ad k3 (K' k3) = w3) (e4 : cellsOf T ad k4 (K' k4) = w4) : (w1 ++ (w2 ++ (w3 ++ (w4 ++ (oc_X10 T (ad 0) (bb ad) (K 0) ++ (wkL T ad K ((((L18.erase k1).erase k2).erase k3).erase k4) ++ Z)))))).Perm (oc_X10 T (ad 0) (bb ad) (K' 0) ++ (wkL T ad K' L18 ++ Z)) := by
  have e9 : wkL T ad K' ((((L18.erase k1).erase k2).erase k3).erase k4) = wkL T ad K ((((L18.erase k1).erase k2).erase k3).erase k4) := wkL_eq (fun k hk => by
    have hm4 := hk
    obtain ⟨q4, hm3⟩ := (List.Nodup.mem_erase_iff (((n18.erase k1).erase k2).erase k3)).mp hm4
    obtain ⟨q3, hm2⟩ := (List.Nodup.mem_erase_iff ((n18.erase k1).erase k2)).mp hm3
    obtain ⟨q2, hm1⟩ := (List.Nodup.mem_erase_iff (n18.erase k1)).mp hm2
    obtain ⟨q1, hm0⟩ := (List.Nodup.mem_erase_iff n18).mp hm1
    exact hK k hm0 q1 q2 q3 q4)
  rw [← e9, ← h0]
  exact (fo4 h1 h2 h3 h4 n21 n31 n32 n41 n42 n43 e1 e2 e3 e4).symm
theorem ba5 {T : Nat → ClassId} {ad : Nat → Nat → Nat} {K K' : Nat → Ob} {Z w1 w2 w3 w4 w5 : va_W} {k1 k2 k3 k4 k5 : Nat} (h1 : k1 ∈ L18) (h2 : k2 ∈ L18) (h3 : k3 ∈ L18) (h4 : k4 ∈ L18) (h5 : k5 ∈ L18) (n21 : k2 ≠ k1) (n31 : k3 ≠ k1) (n32 : k3 ≠ k2) (n41 : k4 ≠ k1) (n42 : k4 ≠ k2) (n43 : k4 ≠ k3) (n51 : k5 ≠ k1) (n52 : k5 ≠ k2) (n53 : k5 ≠ k3) (n54 : k5 ≠ k4) (h0 : K' 0 = K 0) (hK : ∀ k, k ∈ L18 → k ≠ k1 → k ≠ k2 → k ≠ k3 → k ≠ k4 → k ≠ k5 → K' k = K k) (e1 : cellsOf T ad k1 (K' k1) = w1) (e2 : cellsOf T ad k2 (K' k2) = w2) (e3 : cellsOf T ad k3 (K' k3) = w3) (e4 : cellsOf T ad k4 (K' k4) = w4) (e5 : cellsOf T ad k5 (K' k5) = w5) : (w1 ++ (w2 ++ (w3 ++ (w4 ++ (w5 ++ (oc_X10 T (ad 0) (bb ad) (K 0) ++ (wkL T ad K (((((L18.erase k1).erase k2).erase k3).erase k4).erase k5) ++ Z))))))).Perm (oc_X10 T (ad 0) (bb ad) (K' 0) ++ (wkL T ad K' L18 ++ Z)) := by
  have e9 : wkL T ad K' (((((L18.erase k1).erase k2).erase k3).erase k4).erase k5) = wkL T ad K (((((L18.erase k1).erase k2).erase k3).erase k4).erase k5) := wkL_eq (fun k hk => by
    have hm5 := hk
    obtain ⟨q5, hm4⟩ := (List.Nodup.mem_erase_iff ((((n18.erase k1).erase k2).erase k3).erase k4)).mp hm5
    obtain ⟨q4, hm3⟩ := (List.Nodup.mem_erase_iff (((n18.erase k1).erase k2).erase k3)).mp hm4
    obtain ⟨q3, hm2⟩ := (List.Nodup.mem_erase_iff ((n18.erase k1).erase k2)).mp hm3
    obtain ⟨q2, hm1⟩ := (List.Nodup.mem_erase_iff (n18.erase k1)).mp hm2
    obtain ⟨q1, hm0⟩ := (List.Nodup.mem_erase_iff n18).mp hm1
    exact hK k hm0 q1 q2 q3 q4 q5)
  rw [← e9, ← h0]
  exact (fo5 h1 h2 h3 h4 h5 n21 n31 n32 n41 n42 n43 n51 n52 n53 n54 e1 e2 e3 e4 e5).symm
theorem wk0 {T : Nat → ClassId} {ad : Nat → Nat → Nat} {K : Nat → Ob} {x : Ob} : wkL T ad (va_up K 0 x) L18 = wkL T ad K L18 := wkL_eq (fun k hk => va_up_ne _ _ (z18 hk))
theorem s10f {T : Nat → ClassId} {ad : Nat → Nat → Nat} {K : Nat → Ob} {Z : va_W} {z : Int32} : (oc_X10 T (ad 0) (bb ad) (K 0) ++ (wkL T ad K L18 ++ Z)).set 0 (ad 0 0, .inr (10, (fs_X10 (ad 0) (K 0)).set 12 (.int z))) = oc_X10 T (ad 0) (bb ad) ((va_up K 0 (upo (K 0) 12 0 z)) 0) ++ (wkL T ad (va_up K 0 (upo (K 0) 12 0 z)) L18 ++ Z) := by
  rw [wk0, va_up_self]
  rfl
theorem s10a {T : Nat → ClassId} {ad : Nat → Nat → Nat} {K : Nat → Ob} {Z : va_W} {i : Nat} {z : Int32} : (oc_X10 T (ad 0) (bb ad) (K 0) ++ (wkL T ad K L18 ++ Z)).set 2 (ad 0 2, .inl (T 0, 6, .inl (upd (K 0 10) i z))) = oc_X10 T (ad 0) (bb ad) ((va_up K 0 (upo (K 0) 10 i z)) 0) ++ (wkL T ad (va_up K 0 (upo (K 0) 10 i z)) L18 ++ Z) := by
  rw [wk0, va_up_self]
  rfl
theorem s10b {T : Nat → ClassId} {ad : Nat → Nat → Nat} {K : Nat → Ob} {Z : va_W} {i : Nat} {z : Int32} : (oc_X10 T (ad 0) (bb ad) (K 0) ++ (wkL T ad K L18 ++ Z)).set 3 (ad 0 3, .inl (T 0, 2, .inl (upd (K 0 11) i z))) = oc_X10 T (ad 0) (bb ad) ((va_up K 0 (upo (K 0) 11 i z)) 0) ++ (wkL T ad (va_up K 0 (upo (K 0) 11 i z)) L18 ++ Z) := by
  rw [wk0, va_up_self]
  rfl
def oc_X10m (T : Nat → ClassId) (a b : Nat → Nat) (x : Ob) : va_W := [(a 0, .inr (10, fs_X10 a x)), (a 1, .inl (T 2, 4, .inr (.inr (.inr (.inr (fun i => some (b i))))))), (a 3, .inl (T 0, 2, .inl (x 11)))]
theorem rws {T : Nat → ClassId} {a b : Nat → Nat} {x : Ob} {Y : va_W} : (oc_X10 T a b x ++ Y).Perm (oc_RW T (fun _ => a 2) (fun _ => x 10) ++ (oc_X10m T a b x ++ Y)) := by
  show (_ :: _ :: _ :: _ :: Y).Perm (_ :: _ :: _ :: _ :: Y)
  refine (List.Perm.cons _ (List.Perm.swap _ _ _)).trans (List.Perm.swap _ _ _)
/-- which addresses the references hold -/
def okad (ad : Nat → Nat → Nat) : Prop := ad 0 100 = ad 1 0 ∧ ad 0 101 = ad 2 0 ∧ ad 0 102 = ad 3 0 ∧ ad 0 103 = ad 4 0 ∧ ad 0 104 = ad 8 0 ∧ ad 0 105 = ad 5 0 ∧ ad 0 106 = ad 6 0 ∧ ad 0 107 = ad 7 0 ∧ ad 0 109 = ad 13 0 ∧ ∀ i, i < 5 → ad (9 + i) 106 = ad (14 + i) 0
theorem gd_lt {i : Int32} {n : Nat} (h : gd i n = true) : i.toNatClampNeg < n := by
  have h1 := gd_in h
  unfold vp_in at h1
  omega
/-! methods that throw -/
def exN (k : Nat) : String := if k = 1 then "java/lang/IndexOutOfBoundsException" else if k = 2 then "java/lang/IllegalArgumentException" else "java/lang/IllegalStateException"
def ex1 (k : Nat) : Nat := if k = 0 then 0 else 1
def ex6 (k : Nat) : Nat := if k = 0 then 0 else 6
def rmx (d k : Nat) : Room := { frames := d, cells := ex1 k, slots := ex6 k, locals := 40 * d }
def exl : List String := ["java/lang/IndexOutOfBoundsException", "java/lang/IllegalArgumentException", "java/lang/IllegalStateException"]
def dcl : List String := ["java/lang/RuntimeException", "java/lang/Exception", "java/lang/Throwable"]
def strl : List (Nat × String) := [(93, "no such ending"), (104, "there are 40 words"), (119, "no such lemma, category or feature"), (125, "the word has 4 readings"), (138, "no such ending, category or feature"), (140, "the ending has 4 guesses"), (148, "no such category or offset"), (151, "there are 8 rules of striking"), (159, "no such category, direction or barrier"), (164, "no such category or head"), (166, "not a rule without a right part"), (169, "there are 16 rules"), (179, "no such rule"), (182, "not an equation"), (187, "the rule has no right part"), (192, "the rule has 3 equations"), (203, "the sentence has 6 words"), (315, "no such fragment"), (341, "no such pattern"), (343, "not a pattern"), (346, "there are 12 patterns"), (365, "no such fault of style"), (370, "no such word"), (372, "no such sentence"), (374, "no such place"), (376, "no such span"), (378, "no such edge"), (380, "no such fault")]
def EX (A : Nat → Prop) (U : State) (H : Heap) : Prop := vx_Zq Bundle.tN "UNASSIGNED_STACK" Bundle.steD A U H ∧ vx_Zq Bundle.tN "SUPPRESSED_SENTINEL" Bundle.listD A U H ∧ (∀ X ∈ exl, va_Nw (.castable X X) U) ∧ (∀ Y ∈ dcl, va_Nw (.declares (Bundle.initS Y)) U) ∧ ∀ q ∈ strl, ∃ sa, vk_R RX10 q.1 q.2 sa U
theorem EX.warm {A : Nat → Prop} {s U : State} {H : Heap} (hW : s.WarmedH U.vm) (h : EX A s H) : EX A U H := ⟨vx_Zq.moved hW.alike h.1, vx_Zq.moved hW.alike h.2.1, fun X hX => va_Nw.warmC hW (h.2.2.1 X hX), fun X hX => va_Nw.warmD hW (h.2.2.2.1 X hX), fun q hq => (h.2.2.2.2 q hq).elim fun sa hs => ⟨sa, vk_R.warm hW hs⟩⟩
theorem EX.kept {A : Nat → Prop} {s : State} {H H1 : Heap} (h : EX A s H) (hq : ∀ a : Nat, a < H.size → ¬ A a → H1[a]? = H[a]?) : EX A s H1 := ⟨h.1.kept hq, h.2.1.kept hq, h.2.2⟩
def Px (D : va_G) (T : Nat → ClassId) (A : Nat → Prop) (ws : va_W) (av : List Value) : Array Value → State → Prop := va_Pc av (fun U => va_P D vwCl ws U.heap ∧ va_K D vwCl (tys T) U ∧ va_D A ws ∧ NN U ∧ EX A U U.heap)
def Qxi (D : va_G) (A : Nat → Prop) (ws : va_W) (k : Nat) (r : Int32) : Array Value → State → Outcome → State → Prop := va_Qi (fun (v : Int32) (_ : Unit) => v = r ∧ k = 0) (fun _ t => Bg D A ws t) A
def Qxv (D : va_G) (A : Nat → Prop) (ws : va_W) (k : Nat) : Array Value → State → Outcome → State → Prop := va_Qv (fun (_ : Unit) => k = 0) (fun _ t => Bg D A ws t) A
def Qxr (D : va_G) (A : Nat → Prop) (ws : va_W) (k r : Nat) : Array Value → State → Outcome → State → Prop := va_Qr (fun (_ : Unit) => k = 0) (fun _ a t => a = r ∧ Bg D A ws t) A
def XCx (D : va_G) (A : Nat → Prop) (ws : va_W) (k : Nat) : String → State → State → Prop := vx_X (fun _ : Unit => k ≠ 0) (fun E _ t => E = exN k ∧ Bg D A ws t) A
theorem Px_bl {D : va_G} {T : Nat → ClassId} {A : Nat → Prop} {ws : va_W} {av : List Value} : FrameBlind (Px D T A ws av) := fun a U g mk q => by
  obtain ⟨q0, qP, qK, qD, qN, qE⟩ := q
  exact ⟨q0, qP, va_K.moved (u := U) (U := U.calling g mk a) (Vm.Alike.refl U.vm) qK, qD, NN.same (u := U) (U := U.calling g mk a) rfl qN, vx_Zq.moved (u := U) (U := U.calling g mk a) (Vm.Alike.refl U.vm) qE.1, vx_Zq.moved (u := U) (U := U.calling g mk a) (Vm.Alike.refl U.vm) qE.2.1, fun X hX => va_Nw.same (u := U) (U := U.calling g mk a) rfl rfl (qE.2.2.1 X hX), fun X hX => va_Nw.same (u := U) (U := U.calling g mk a) rfl rfl (qE.2.2.2.1 X hX), fun q hq => (qE.2.2.2.2 q hq).elim fun sa hs => ⟨sa, vk_R.same (u := U) (U := U.calling g mk a) rfl hs⟩⟩
section XROWS
variable {p : Program} {l : Launch} {e : Env} {R : Room} {s : State} {m : MethodId} {args : Array Value} {below : List Frame} {meth : Method} {c : Code} {H : Heap} {locs : List Loc} {cells slots : Nat} {Q : State → Prop} {cc : ByteArray} {pc nL n k k1 d d1 : Nat} {ls : Array Slot} {rest st : List Value} {D : va_G} {T : Nat → ClassId} {A : Nat → Prop} {ws ws9 Z : va_W} {H0 : Heap} {a b : Nat} {r : Int32} {ra : Nat} {As : List Value} {y : MethodName} {own C : String} {bytes : ByteArray} {maxL index : Nat} {ret : Option FieldType}
theorem x_pre {U : State} {av : List Value} (hK : va_K D vwCl (tys T) s) (hN : NN s) (hE : EX A s s.heap) (hW : Wd D A s.heap ws H locs) (hU : U.heap = H) (hw : s.WarmedH U.vm) : Px D T A ws av av.toArray U := ⟨rfl, by rw [hU]; exact hW.1, va_K.moved hw.alike hK, hW.2.1, hN.warm hw, by rw [hU]; exact (hE.kept hW.2.2.2.1).warm hw⟩
theorem x_reti {v : Int32} {XC : String → State → State → Prop} (hx : p.tables.exec = Jvm.exec) (hb : c.code = cc) (hr : meth.sig.returnType = some .int) (hlk : meth.locks = false) (hW : Wd D A s.heap ws H locs) (d : decode cc pc = .ok (.ireturn, 1)) : W p l e R s m args below meth c H locs 0 0 (vx_MQ below (Qxi D A ws 0 v) XC args s (ex1 0) (ex6 0) A) (F0 m pc ls [.int v]) :=
  vx_ret (W.iret hx hb hr (fun t ht _ => ⟨⟨v, (), rfl, ⟨rfl, rfl⟩, by rw [ht]; exact hW.1, hW.2.1⟩, hW.2.2.F ht⟩) hW.2.2.2.2 d hlk)
theorem x_retz {v : Int32} {XC : String → State → State → Prop} (hx : p.tables.exec = Jvm.exec) (hb : c.code = cc) (hr : meth.sig.returnType = some .boolean) (hlk : meth.locks = false) (hW : Wd D A s.heap ws H locs) (hv : isb v = true) (d : decode cc pc = .ok (.ireturn, 1)) : W p l e R s m args below meth c H locs 0 0 (vx_MQ below (Qxi D A ws 0 v) XC args s (ex1 0) (ex6 0) A) (F0 m pc ls [.int v]) :=
  vx_ret (W.zret hx hb hr (isb_n hv) (fun t ht _ => ⟨⟨v, (), rfl, ⟨rfl, rfl⟩, by rw [ht]; exact hW.1, hW.2.1⟩, hW.2.2.F ht⟩) hW.2.2.2.2 d hlk)
theorem x_retv {XC : String → State → State → Prop} (hx : p.tables.exec = Jvm.exec) (hb : c.code = cc) (hr : meth.sig.returnType = none) (hlk : meth.locks = false) (hW : Wd D A s.heap ws H locs) (d : decode cc pc = .ok (.return_, 1)) : W p l e R s m args below meth c H locs 0 0 (vx_MQ below (Qxv D A ws 0) XC args s (ex1 0) (ex6 0) A) (F0 m pc ls []) :=
  vx_ret (W.vret hx hb hr (fun t ht _ => ⟨⟨(), rfl, rfl, by rw [ht]; exact hW.1, hW.2.1⟩, hW.2.2.F ht⟩) hW.2.2.2.2 d hlk)
theorem x_retr {v : Nat} {nm : String} {XC : String → State → State → Prop} (hx : p.tables.exec = Jvm.exec) (hb : c.code = cc) (hr : meth.sig.returnType = some (.object nm)) (hlk : meth.locks = false) (hW : Wd D A s.heap ws H locs) (d : decode cc pc = .ok (.areturn, 1)) : W p l e R s m args below meth c H locs 0 0 (vx_MQ below (Qxr D A ws 0 v) XC args s (ex1 0) (ex6 0) A) (F0 m pc ls [.ref v]) :=
  vx_ret (W.aret hx hb hr (Or.inl ⟨_, rfl⟩) (Or.inr ⟨_, rfl⟩) (fun t ht _ => ⟨⟨(), v, rfl, rfl, rfl, by rw [ht]; exact hW.1, hW.2.1⟩, hW.2.2.F ht⟩) hW.2.2.2.2 d hlk)
/-- throw new E(text) -/
theorem x_throw {Qc : Array Value → State → Outcome → State → Prop} {text : String} {ik is ic : Nat} (k : Nat) (hk : k ≠ 0) (hx : p.tables.exec = Jvm.exec) (hb : c.code = cc) (hfl : l.stackTraces = false) (hown : s.vm.findClass RX10 = some m.cls) (hts : ∀ w ∈ wsL_law, w.before args s = true) (hE : EX A s s.heap) (hW : Wd D A s.heap ws H locs) (hml : c.maxLocals = nL) (hsz : ls.size = nL) (hout : ∀ x ∈ c.exceptionTable.toList, False) (hlk : meth.locks = false)
    (hk1 : Cond.classLink RX10 ik (exN k) ∈ wsL_law) (hk2 : Cond.initialized (exN k) ∈ wsL_law) (hk3 : ∀ w ∈ (vx_atS RX10 ic (exN k) ["java/lang/RuntimeException", "java/lang/Exception"]).filter goodWord, w ∈ wsL_law) (hk4 : ∀ w ∈ (vx_atS RX10 ic (exN k) ["java/lang/RuntimeException", "java/lang/Exception"]).filter (fun w => !goodWord w), w ∈ Cond.castable (exN k) (exN k) :: dcl.map (fun Y => Cond.declares (Bundle.initS Y))) (hk5 : exN k ∈ exl) (hk6 : Bundle.fit (exN k) = true) (hk7 : ∀ w ∈ Cond.classLink RX10 ik (exN k) :: Cond.initialized (exN k) :: vx_atS RX10 ic (exN k) ["java/lang/RuntimeException", "java/lang/Exception"], vx_ot w = true)
    (hs : (is, text) ∈ strl) (d0 : decode cc pc = .ok (.new ik, 3)) (d3 : decode cc (pc + 3) = .ok (.dup, 1)) (d4 : decode cc (pc + 4) = .ok (.ldc is, 2)) (d6 : decode cc (pc + 6) = .ok (.invokespecial ic, 3)) (d9 : decode cc (pc + 9) = .ok (.athrow, 1)) (hd : 6 ≤ d) (hst : (rest.map fun v => v.category).sum ≤ 8) :
    W p l e (rmx d k) s m args below meth c H locs 0 0 (vx_MQ below Qc (XCx D A ws k) args s (ex1 k) (ex6 k) A) (F0 m pc ls rest) := by
  have e1 : ex1 k = 1 := if_neg hk
  have e6 : ex6 k = 6 := if_neg hk
  obtain ⟨sa, hsa⟩ := hE.2.2.2.2 _ hs
  refine vx_throwS (own := RX10) (cls := exN k) (text := text) (names := ["java/lang/RuntimeException", "java/lang/Exception"]) (ik := ik) (is := is) (ic := ic) (sa := sa) (A := A) hx hb hfl hown hk6 (by decide +kernel) (hts _ hk1) (hts _ hk2) hsa ?_ hk7 hE.1 hE.2.1 hW.2.2 (hsz.trans hml.symm) d0 d3 d4 d6 d9 (fun x hx => (hout x hx).elim) ?_ ?_ ?_ ?_ hlk ?_ hW.2.2.2.2 ?_ ?_
  · exact vx_hat (B := Cond.castable (exN k) (exN k) :: dcl.map (fun Y => Cond.declares (Bundle.initS Y))) (fun w hw => hts w (hk3 w hw)) hk4 (fun w hw => by
      rcases List.mem_cons.mp hw with rfl | h
      · exact va_Nw.use rfl (hE.2.2.1 _ hk5)
      · obtain ⟨Y, hY, rfl⟩ := List.mem_map.mp h
        exact va_Nw.use rfl (hE.2.2.2.1 Y hY))
  · show 2 + 3 < d
    omega
  · show _ ≤ 40 * d
    have : (13 * (2 + 1) + 43) = 82 := rfl
    simp only [List.length_cons, List.length_nil]
    omega
  · show 0 + 1 ≤ ex1 k
    omega
  · show 0 + 6 ≤ ex6 k
    omega
  · intro t hvm hz hq
    exact ⟨(), hk, ⟨rfl, hW.1.kept (fun i q hi => hq q.1 (hW.1 i q hi).lt), hW.2.1⟩, Nat.le_trans hW.2.2.1 hz, fun q h1 h2 => by rw [hq q (Nat.lt_of_lt_of_le h1 hW.2.2.1)]; exact hW.2.2.2.1 q h1 h2⟩
  · omega
  · omega
/-- .. with a wide index -/
theorem x_throwW {Qc : Array Value → State → Outcome → State → Prop} {text : String} {ik is ic : Nat} (k : Nat) (hk : k ≠ 0) (hx : p.tables.exec = Jvm.exec) (hb : c.code = cc) (hfl : l.stackTraces = false) (hown : s.vm.findClass RX10 = some m.cls) (hts : ∀ w ∈ wsL_law, w.before args s = true) (hE : EX A s s.heap) (hW : Wd D A s.heap ws H locs) (hml : c.maxLocals = nL) (hsz : ls.size = nL) (hout : ∀ x ∈ c.exceptionTable.toList, False) (hlk : meth.locks = false)
    (hk1 : Cond.classLink RX10 ik (exN k) ∈ wsL_law) (hk2 : Cond.initialized (exN k) ∈ wsL_law) (hk3 : ∀ w ∈ (vx_atS RX10 ic (exN k) ["java/lang/RuntimeException", "java/lang/Exception"]).filter goodWord, w ∈ wsL_law) (hk4 : ∀ w ∈ (vx_atS RX10 ic (exN k) ["java/lang/RuntimeException", "java/lang/Exception"]).filter (fun w => !goodWord w), w ∈ Cond.castable (exN k) (exN k) :: dcl.map (fun Y => Cond.declares (Bundle.initS Y))) (hk5 : exN k ∈ exl) (hk6 : Bundle.fit (exN k) = true) (hk7 : ∀ w ∈ Cond.classLink RX10 ik (exN k) :: Cond.initialized (exN k) :: vx_atS RX10 ic (exN k) ["java/lang/RuntimeException", "java/lang/Exception"], vx_ot w = true)
    (hs : (is, text) ∈ strl) (d0 : decode cc pc = .ok (.new ik, 3)) (d3 : decode cc (pc + 3) = .ok (.dup, 1)) (d4 : decode cc (pc + 4) = .ok (.ldc_w is, 3)) (d6 : decode cc (pc + 7) = .ok (.invokespecial ic, 3)) (d9 : decode cc (pc + 10) = .ok (.athrow, 1)) (hd : 6 ≤ d) (hst : (rest.map fun v => v.category).sum ≤ 8) :
    W p l e (rmx d k) s m args below meth c H locs 0 0 (vx_MQ below Qc (XCx D A ws k) args s (ex1 k) (ex6 k) A) (F0 m pc ls rest) := by
  have e1 : ex1 k = 1 := if_neg hk
  have e6 : ex6 k = 6 := if_neg hk
  obtain ⟨sa, hsa⟩ := hE.2.2.2.2 _ hs
  refine vx_throwSW (own := RX10) (cls := exN k) (text := text) (names := ["java/lang/RuntimeException", "java/lang/Exception"]) (ik := ik) (is := is) (ic := ic) (sa := sa) (A := A) hx hb hfl hown hk6 (by decide +kernel) (hts _ hk1) (hts _ hk2) hsa ?_ hk7 hE.1 hE.2.1 hW.2.2 (hsz.trans hml.symm) d0 d3 d4 d6 d9 (fun x hx => (hout x hx).elim) ?_ ?_ ?_ ?_ hlk ?_ hW.2.2.2.2 ?_ ?_
  · exact vx_hat (B := Cond.castable (exN k) (exN k) :: dcl.map (fun Y => Cond.declares (Bundle.initS Y))) (fun w hw => hts w (hk3 w hw)) hk4 (fun w hw => by
      rcases List.mem_cons.mp hw with rfl | h
      · exact va_Nw.use rfl (hE.2.2.1 _ hk5)
      · obtain ⟨Y, hY, rfl⟩ := List.mem_map.mp h
        exact va_Nw.use rfl (hE.2.2.2.1 Y hY))
  · show 2 + 3 < d
    omega
  · show _ ≤ 40 * d
    have : (13 * (2 + 1) + 43) = 82 := rfl
    simp only [List.length_cons, List.length_nil]
    omega
  · show 0 + 1 ≤ ex1 k
    omega
  · show 0 + 6 ≤ ex6 k
    omega
  · intro t hvm hz hq
    exact ⟨(), hk, ⟨rfl, hW.1.kept (fun i q hi => hq q.1 (hW.1 i q hi).lt), hW.2.1⟩, Nat.le_trans hW.2.2.1 hz, fun q h1 h2 => by rw [hq q (Nat.lt_of_lt_of_le h1 hW.2.2.1)]; exact hW.2.2.2.1 q h1 h2⟩
  · omega
  · omega
theorem vx_callr {S SX : Type} {post : S → Prop} {px : SX → Prop} {B : S → Nat → State → Prop} {BX : String → SX → State → Prop} {A0 A1 AX : Nat → Prop} {mc ms : Nat} {st0 : List Value} {aa : Array Value} {free : Addr → Prop} (hr : vx_Run p l e R s m args below meth c H locs cells slots mc ms (F0 m pc ls st0) rest (va_Qr post B A1 aa) (vx_X px BX AX) free) (hS : va_S A0 H0 H locs) (hA : ∀ q, q < H.size → A1 q → A0 q) (hf : ∀ q, free q → A0 q) (hAX : ∀ q, q < H.size → AX q → A0 q)
    (kx : ∀ (E : String) (ce : Cell) (q9 : Addr) (u : SX) (t : State) (H1 : Heap) (locs1 : List Loc), t.heap = H1 → s.vm.Alike t.vm → px u → BX E u t → H.size ≤ H1.size → (∀ q : Nat, q < H.size → ¬ AX q → H1[q]? = H[q]?) → va_S A0 H0 H1 locs1 → H1[q9]? = some ce → ce.vm = .none → s.vm.findClass E = some ce.cls → vx_W p l e R s m args below meth c H1 locs1 (cells + mc) (slots + ms) Q (F0 m pc ls rest) q9)
    (kk : ∀ (u : S) (ra : Nat) (t : State) (H1 : Heap) (locs1 : List Loc), t.heap = H1 → s.vm.Alike t.vm → post u → B u ra t → H.size ≤ H1.size → (∀ q : Nat, q < H.size → ¬ A1 q → H1[q]? = H[q]?) → va_S A0 H0 H1 locs1 → W p l e R s m args below meth c H1 locs1 (cells + mc) (slots + ms) Q (F0 m (pc + 3) ls (.ref ra :: rest))) : W p l e R s m args below meth c H locs cells slots Q (F0 m pc ls st0) := by
  intro T hT X
  rcases hr T hT X with ⟨v, st₀, t, T', L, h0, X', hL, e1, e2, ⟨⟨u, ra, hv, hp, hb⟩, hF⟩, st⟩ | ⟨q, st₀, t, T', L, E, ce, h0, X', hL, e1, e2, ⟨u, hp, hb, hF⟩, hce, hcv, hcl, st⟩
  · cases hv
    obtain ⟨k1, k2, k3⟩ := vx_keep h0 e1 hS hA hf hL hF
    obtain ⟨t2, a1, b1⟩ := kk u ra t T'.heap (locs ++ L) e1.symm (by rw [← e2]; exact X'.warmed.alike) hp hb k1 k2 k3 T' rfl X'
    exact ⟨t2, st t2 a1, b1⟩
  · obtain ⟨k1, k2, k3⟩ := vx_keep h0 e1 hS hAX hf hL hF
    obtain ⟨t2, a1, b1⟩ := kx E ce q u t T'.heap (locs ++ L) e1.symm (by rw [← e2]; exact X'.warmed.alike) hp hb k1 k2 k3 (by rw [e1]; exact hce) hcv hcl T' rfl X'
    exact ⟨t2, st.trans a1, b1⟩
theorem x0_vi (hx : p.tables.exec = Jvm.exec) (hb : c.code = cc) (hml : c.maxLocals = nL) (hown : s.vm.findClass own = some m.cls) (hts : ∀ w ∈ wsL_law, w.before args s = true) (hK : va_K D vwCl (tys T) s) (hN : NN s) (hE : EX A s s.heap) (hW : Wd D A s.heap ws H locs) (cw : CallW R s args own C index y bytes maxL ret (Cond.code y bytes maxL ret :: wsL_law) (rmx d1 0) (ex1 0) (ex6 0) n) (hrc : ∃ (ci : Nat) (q : vw_C) (fs : List Value), vwCl[ci]? = some q ∧ q.1 = C ∧ ws[0]? = some (b, .inr (ci, fs))) (hM : vx_Met l y (Cond.code y bytes maxL ret :: wsL_law) (rmx d1 0) (Px D T A ws (.ref b :: As)) (Qxi D A ws9 0 r) (XCx D A ws9 0) (ex1 0) (ex6 0) A) (hn : As.length = n) (hsz : ls.size = nL) (hst : st = As.reverse ++ .ref b :: rest) (h8 : (rest.map fun v => v.category).sum ≤ 8) (d : decode cc pc = .ok (.invokevirtual index, 3)) (hf : cells ≤ R.cells ∧ slots ≤ R.slots)
    (kk : ∀ (H1 : Heap) (locs1 : List Loc), Wd D A s.heap ws9 H1 locs1 → W p l e R s m args below meth c H1 locs1 cells slots Q (F0 m (pc + 3) ls (.int r :: rest))) : W p l e R s m args below meth c H locs cells slots Q (F0 m pc ls st) := by
  subst hst
  obtain ⟨ci, q, fs, hc, hq, he⟩ := hrc
  refine vx_calli (vx_runV (As := As) (rest := rest) ⟨hx, hb, hml, hown, hts⟩ hM cw ⟨Px_bl, by rw [← hq]; exact va_recv hK hW.1 hc he, fun U hU hw => x_pre hK hN hE hW hU hw⟩ rfl hn hsz rfl (lv_room h8) d hf) hW.2.2 (fun q _ h => h) (fun q h => h) (fun q _ h => h) (fun E ce q9 u t H1 locs1 ht hvm hp9 hB hz hk hS hce hcv hcl => absurd rfl hp9) (fun r2 u t H1 locs1 ht hvm hw hB hz1 hk1 hS => ?_)
  obtain ⟨rfl, -⟩ := hw
  exact kk H1 locs1 ⟨by rw [← ht]; exact hB.1, hB.2, hS⟩
theorem xx_vi {Qc : Array Value → State → Outcome → State → Prop} {d1' : Nat} {ws8 : va_W} (hk : k ≠ 0) (hout : ∀ x ∈ c.exceptionTable.toList, False) (hlk : meth.locks = false) (hp8 : ws9.Perm ws8) (hx : p.tables.exec = Jvm.exec) (hb : c.code = cc) (hml : c.maxLocals = nL) (hown : s.vm.findClass own = some m.cls) (hts : ∀ w ∈ wsL_law, w.before args s = true) (hK : va_K D vwCl (tys T) s) (hN : NN s) (hE : EX A s s.heap) (hW : Wd D A s.heap ws H locs) (cw : CallW (rmx d1' k) s args own C index y bytes maxL ret (Cond.code y bytes maxL ret :: wsL_law) (rmx d1 k) (ex1 k) (ex6 k) n) (hrc : ∃ (ci : Nat) (q : vw_C) (fs : List Value), vwCl[ci]? = some q ∧ q.1 = C ∧ ws[0]? = some (b, .inr (ci, fs))) (hM : vx_Met l y (Cond.code y bytes maxL ret :: wsL_law) (rmx d1 k) (Px D T A ws (.ref b :: As)) (Qxi D A ws9 k r) (XCx D A ws9 k) (ex1 k) (ex6 k) A) (hn : As.length = n) (hsz : ls.size = nL) (hst : st = As.reverse ++ .ref b :: rest) (h8 : (rest.map fun v => v.category).sum ≤ 8) (d : decode cc pc = .ok (.invokevirtual index, 3)) : W p l e (rmx d1' k) s m args below meth c H locs 0 0 (vx_MQ below Qc (XCx D A ws8 k) args s (ex1 k) (ex6 k) A) (F0 m pc ls st) := by
  subst hst
  obtain ⟨ci, q, fs, hc, hq, he⟩ := hrc
  refine vx_calli (vx_runV (As := As) (rest := rest) ⟨hx, hb, hml, hown, hts⟩ hM cw ⟨Px_bl, by rw [← hq]; exact va_recv hK hW.1 hc he, fun U hU hw => x_pre hK hN hE hW hU hw⟩ rfl hn hsz rfl (lv_room h8) d ⟨Nat.le_of_eq (Nat.zero_add _), Nat.le_of_eq (Nat.zero_add _)⟩) hW.2.2 (fun q _ h => h) (fun q h => h) (fun q _ h => h) (fun E ce q9 u t H1 locs1 ht hvm hp9 hB hz hk9 hS hce hcv hcl => ?_) (fun r2 u t H1 locs1 ht hvm hw hB hz1 hk1 hS => ?_)
  · exact vx_out (fun x hx => (hout x hx).elim) hlk hce hcv hcl (fun t9 ht9 hvm9 => ⟨(), hk, ⟨hB.1, by rw [ht9, ← ht]; exact hB.2.1.perm hp8, hB.2.2.perm hp8⟩, hS.F ht9⟩) hS.2.2 (Nat.le_of_eq (Nat.zero_add _)) (Nat.le_of_eq (Nat.zero_add _))
  · exact absurd hw.2 hk
theorem x0_vv (hx : p.tables.exec = Jvm.exec) (hb : c.code = cc) (hml : c.maxLocals = nL) (hown : s.vm.findClass own = some m.cls) (hts : ∀ w ∈ wsL_law, w.before args s = true) (hK : va_K D vwCl (tys T) s) (hN : NN s) (hE : EX A s s.heap) (hW : Wd D A s.heap ws H locs) (cw : CallW R s args own C index y bytes maxL ret (Cond.code y bytes maxL ret :: wsL_law) (rmx d1 0) (ex1 0) (ex6 0) n) (hrc : ∃ (ci : Nat) (q : vw_C) (fs : List Value), vwCl[ci]? = some q ∧ q.1 = C ∧ ws[0]? = some (b, .inr (ci, fs))) (hM : vx_Met l y (Cond.code y bytes maxL ret :: wsL_law) (rmx d1 0) (Px D T A ws (.ref b :: As)) (Qxv D A ws9 0) (XCx D A ws9 0) (ex1 0) (ex6 0) A) (hn : As.length = n) (hsz : ls.size = nL) (hst : st = As.reverse ++ .ref b :: rest) (h8 : (rest.map fun v => v.category).sum ≤ 8) (d : decode cc pc = .ok (.invokevirtual index, 3)) (hf : cells ≤ R.cells ∧ slots ≤ R.slots)
    (kk : ∀ (H1 : Heap) (locs1 : List Loc), Wd D A s.heap ws9 H1 locs1 → W p l e R s m args below meth c H1 locs1 cells slots Q (F0 m (pc + 3) ls (rest))) : W p l e R s m args below meth c H locs cells slots Q (F0 m pc ls st) := by
  subst hst
  obtain ⟨ci, q, fs, hc, hq, he⟩ := hrc
  refine vx_callv (vx_runV (As := As) (rest := rest) ⟨hx, hb, hml, hown, hts⟩ hM cw ⟨Px_bl, by rw [← hq]; exact va_recv hK hW.1 hc he, fun U hU hw => x_pre hK hN hE hW hU hw⟩ rfl hn hsz rfl (lv_room h8) d hf) hW.2.2 (fun q _ h => h) (fun q h => h) (fun q _ h => h) (fun E ce q9 u t H1 locs1 ht hvm hp9 hB hz hk hS hce hcv hcl => absurd rfl hp9) (fun u t H1 locs1 ht hvm hw hB hz1 hk1 hS => ?_)
  exact kk H1 locs1 ⟨by rw [← ht]; exact hB.1, hB.2, hS⟩
theorem xx_vv {Qc : Array Value → State → Outcome → State → Prop} {d1' : Nat} {ws8 : va_W} (hk : k ≠ 0) (hout : ∀ x ∈ c.exceptionTable.toList, False) (hlk : meth.locks = false) (hp8 : ws9.Perm ws8) (hx : p.tables.exec = Jvm.exec) (hb : c.code = cc) (hml : c.maxLocals = nL) (hown : s.vm.findClass own = some m.cls) (hts : ∀ w ∈ wsL_law, w.before args s = true) (hK : va_K D vwCl (tys T) s) (hN : NN s) (hE : EX A s s.heap) (hW : Wd D A s.heap ws H locs) (cw : CallW (rmx d1' k) s args own C index y bytes maxL ret (Cond.code y bytes maxL ret :: wsL_law) (rmx d1 k) (ex1 k) (ex6 k) n) (hrc : ∃ (ci : Nat) (q : vw_C) (fs : List Value), vwCl[ci]? = some q ∧ q.1 = C ∧ ws[0]? = some (b, .inr (ci, fs))) (hM : vx_Met l y (Cond.code y bytes maxL ret :: wsL_law) (rmx d1 k) (Px D T A ws (.ref b :: As)) (Qxv D A ws9 k) (XCx D A ws9 k) (ex1 k) (ex6 k) A) (hn : As.length = n) (hsz : ls.size = nL) (hst : st = As.reverse ++ .ref b :: rest) (h8 : (rest.map fun v => v.category).sum ≤ 8) (d : decode cc pc = .ok (.invokevirtual index, 3)) : W p l e (rmx d1' k) s m args below meth c H locs 0 0 (vx_MQ below Qc (XCx D A ws8 k) args s (ex1 k) (ex6 k) A) (F0 m pc ls st) := by
  subst hst
  obtain ⟨ci, q, fs, hc, hq, he⟩ := hrc
  refine vx_callv (vx_runV (As := As) (rest := rest) ⟨hx, hb, hml, hown, hts⟩ hM cw ⟨Px_bl, by rw [← hq]; exact va_recv hK hW.1 hc he, fun U hU hw => x_pre hK hN hE hW hU hw⟩ rfl hn hsz rfl (lv_room h8) d ⟨Nat.le_of_eq (Nat.zero_add _), Nat.le_of_eq (Nat.zero_add _)⟩) hW.2.2 (fun q _ h => h) (fun q h => h) (fun q _ h => h) (fun E ce q9 u t H1 locs1 ht hvm hp9 hB hz hk9 hS hce hcv hcl => ?_) (fun u t H1 locs1 ht hvm hw hB hz1 hk1 hS => ?_)
  · exact vx_out (fun x hx => (hout x hx).elim) hlk hce hcv hcl (fun t9 ht9 hvm9 => ⟨(), hk, ⟨hB.1, by rw [ht9, ← ht]; exact hB.2.1.perm hp8, hB.2.2.perm hp8⟩, hS.F ht9⟩) hS.2.2 (Nat.le_of_eq (Nat.zero_add _)) (Nat.le_of_eq (Nat.zero_add _))
  · exact absurd hw hk
theorem x0_vr (hx : p.tables.exec = Jvm.exec) (hb : c.code = cc) (hml : c.maxLocals = nL) (hown : s.vm.findClass own = some m.cls) (hts : ∀ w ∈ wsL_law, w.before args s = true) (hK : va_K D vwCl (tys T) s) (hN : NN s) (hE : EX A s s.heap) (hW : Wd D A s.heap ws H locs) (cw : CallW R s args own C index y bytes maxL ret (Cond.code y bytes maxL ret :: wsL_law) (rmx d1 0) (ex1 0) (ex6 0) n) (hrc : ∃ (ci : Nat) (q : vw_C) (fs : List Value), vwCl[ci]? = some q ∧ q.1 = C ∧ ws[0]? = some (b, .inr (ci, fs))) (hM : vx_Met l y (Cond.code y bytes maxL ret :: wsL_law) (rmx d1 0) (Px D T A ws (.ref b :: As)) (Qxr D A ws9 0 ra) (XCx D A ws9 0) (ex1 0) (ex6 0) A) (hn : As.length = n) (hsz : ls.size = nL) (hst : st = As.reverse ++ .ref b :: rest) (h8 : (rest.map fun v => v.category).sum ≤ 8) (d : decode cc pc = .ok (.invokevirtual index, 3)) (hf : cells ≤ R.cells ∧ slots ≤ R.slots)
    (kk : ∀ (H1 : Heap) (locs1 : List Loc), Wd D A s.heap ws9 H1 locs1 → W p l e R s m args below meth c H1 locs1 cells slots Q (F0 m (pc + 3) ls (.ref ra :: rest))) : W p l e R s m args below meth c H locs cells slots Q (F0 m pc ls st) := by
  subst hst
  obtain ⟨ci, q, fs, hc, hq, he⟩ := hrc
  refine vx_callr (vx_runV (As := As) (rest := rest) ⟨hx, hb, hml, hown, hts⟩ hM cw ⟨Px_bl, by rw [← hq]; exact va_recv hK hW.1 hc he, fun U hU hw => x_pre hK hN hE hW hU hw⟩ rfl hn hsz rfl (lv_room h8) d hf) hW.2.2 (fun q _ h => h) (fun q h => h) (fun q _ h => h) (fun E ce q9 u t H1 locs1 ht hvm hp9 hB hz hk hS hce hcv hcl => absurd rfl hp9) (fun u ra2 t H1 locs1 ht hvm hw hB hz1 hk1 hS => ?_)
  obtain ⟨rfl, hB⟩ := hB
  exact kk H1 locs1 ⟨by rw [← ht]; exact hB.1, hB.2, hS⟩
theorem xx_vr {Qc : Array Value → State → Outcome → State → Prop} {d1' : Nat} {ws8 : va_W} (hk : k ≠ 0) (hout : ∀ x ∈ c.exceptionTable.toList, False) (hlk : meth.locks = false) (hp8 : ws9.Perm ws8) (hx : p.tables.exec = Jvm.exec) (hb : c.code = cc) (hml : c.maxLocals = nL) (hown : s.vm.findClass own = some m.cls) (hts : ∀ w ∈ wsL_law, w.before args s = true) (hK : va_K D vwCl (tys T) s) (hN : NN s) (hE : EX A s s.heap) (hW : Wd D A s.heap ws H locs) (cw : CallW (rmx d1' k) s args own C index y bytes maxL ret (Cond.code y bytes maxL ret :: wsL_law) (rmx d1 k) (ex1 k) (ex6 k) n) (hrc : ∃ (ci : Nat) (q : vw_C) (fs : List Value), vwCl[ci]? = some q ∧ q.1 = C ∧ ws[0]? = some (b, .inr (ci, fs))) (hM : vx_Met l y (Cond.code y bytes maxL ret :: wsL_law) (rmx d1 k) (Px D T A ws (.ref b :: As)) (Qxr D A ws9 k ra) (XCx D A ws9 k) (ex1 k) (ex6 k) A) (hn : As.length = n) (hsz : ls.size = nL) (hst : st = As.reverse ++ .ref b :: rest) (h8 : (rest.map fun v => v.category).sum ≤ 8) (d : decode cc pc = .ok (.invokevirtual index, 3)) : W p l e (rmx d1' k) s m args below meth c H locs 0 0 (vx_MQ below Qc (XCx D A ws8 k) args s (ex1 k) (ex6 k) A) (F0 m pc ls st) := by
  subst hst
  obtain ⟨ci, q, fs, hc, hq, he⟩ := hrc
  refine vx_callr (vx_runV (As := As) (rest := rest) ⟨hx, hb, hml, hown, hts⟩ hM cw ⟨Px_bl, by rw [← hq]; exact va_recv hK hW.1 hc he, fun U hU hw => x_pre hK hN hE hW hU hw⟩ rfl hn hsz rfl (lv_room h8) d ⟨Nat.le_of_eq (Nat.zero_add _), Nat.le_of_eq (Nat.zero_add _)⟩) hW.2.2 (fun q _ h => h) (fun q h => h) (fun q _ h => h) (fun E ce q9 u t H1 locs1 ht hvm hp9 hB hz hk9 hS hce hcv hcl => ?_) (fun u ra2 t H1 locs1 ht hvm hw hB hz1 hk1 hS => ?_)
  · exact vx_out (fun x hx => (hout x hx).elim) hlk hce hcv hcl (fun t9 ht9 hvm9 => ⟨(), hk, ⟨hB.1, by rw [ht9, ← ht]; exact hB.2.1.perm hp8, hB.2.2.perm hp8⟩, hS.F ht9⟩) hS.2.2 (Nat.le_of_eq (Nat.zero_add _)) (Nat.le_of_eq (Nat.zero_add _))
  · exact absurd hw hk
theorem x0_si (hx : p.tables.exec = Jvm.exec) (hb : c.code = cc) (hml : c.maxLocals = nL) (hown : s.vm.findClass own = some m.cls) (hts : ∀ w ∈ wsL_law, w.before args s = true) (hK : va_K D vwCl (tys T) s) (hN : NN s) (hE : EX A s s.heap) (hW : Wd D A s.heap ws H locs) (cw : CallB R s args own index y bytes maxL ret (Cond.code y bytes maxL ret :: wsL_law) (rmx d1 0) (ex1 0) (ex6 0) n ∧ (Cond.static y).before args s = true) (hM : vx_Met l y (Cond.code y bytes maxL ret :: wsL_law) (rmx d1 0) (Px D T A ws As) (Qxi D A ws9 0 r) (XCx D A ws9 0) (ex1 0) (ex6 0) A) (hn : As.length = n) (hsz : ls.size = nL) (hst : st = As.reverse ++ rest) (h8 : (rest.map fun v => v.category).sum ≤ 8) (d : decode cc pc = .ok (.invokestatic index, 3)) (hf : cells ≤ R.cells ∧ slots ≤ R.slots)
    (kk : ∀ (H1 : Heap) (locs1 : List Loc), Wd D A s.heap ws9 H1 locs1 → W p l e R s m args below meth c H1 locs1 cells slots Q (F0 m (pc + 3) ls (.int r :: rest))) : W p l e R s m args below meth c H locs cells slots Q (F0 m pc ls st) := by
  subst hst
  refine vx_calli (vx_runS (As := As) (rest := rest) ⟨hx, hb, hml, hown, hts⟩ hM cw ⟨Px_bl, fun U hU hw => x_pre hK hN hE hW hU hw⟩ rfl hn hsz rfl (lv_room h8) d hf) hW.2.2 (fun q _ h => h) (fun q h => h) (fun q _ h => h) (fun E ce q9 u t H1 locs1 ht hvm hp9 hB hz hk hS hce hcv hcl => absurd rfl hp9) (fun r2 u t H1 locs1 ht hvm hw hB hz1 hk1 hS => ?_)
  obtain ⟨rfl, -⟩ := hw
  exact kk H1 locs1 ⟨by rw [← ht]; exact hB.1, hB.2, hS⟩
theorem xx_si {Qc : Array Value → State → Outcome → State → Prop} {d1' : Nat} {ws8 : va_W} (hk : k ≠ 0) (hout : ∀ x ∈ c.exceptionTable.toList, False) (hlk : meth.locks = false) (hp8 : ws9.Perm ws8) (hx : p.tables.exec = Jvm.exec) (hb : c.code = cc) (hml : c.maxLocals = nL) (hown : s.vm.findClass own = some m.cls) (hts : ∀ w ∈ wsL_law, w.before args s = true) (hK : va_K D vwCl (tys T) s) (hN : NN s) (hE : EX A s s.heap) (hW : Wd D A s.heap ws H locs) (cw : CallB (rmx d1' k) s args own index y bytes maxL ret (Cond.code y bytes maxL ret :: wsL_law) (rmx d1 k) (ex1 k) (ex6 k) n ∧ (Cond.static y).before args s = true) (hM : vx_Met l y (Cond.code y bytes maxL ret :: wsL_law) (rmx d1 k) (Px D T A ws As) (Qxi D A ws9 k r) (XCx D A ws9 k) (ex1 k) (ex6 k) A) (hn : As.length = n) (hsz : ls.size = nL) (hst : st = As.reverse ++ rest) (h8 : (rest.map fun v => v.category).sum ≤ 8) (d : decode cc pc = .ok (.invokestatic index, 3)) : W p l e (rmx d1' k) s m args below meth c H locs 0 0 (vx_MQ below Qc (XCx D A ws8 k) args s (ex1 k) (ex6 k) A) (F0 m pc ls st) := by
  subst hst
  refine vx_calli (vx_runS (As := As) (rest := rest) ⟨hx, hb, hml, hown, hts⟩ hM cw ⟨Px_bl, fun U hU hw => x_pre hK hN hE hW hU hw⟩ rfl hn hsz rfl (lv_room h8) d ⟨Nat.le_of_eq (Nat.zero_add _), Nat.le_of_eq (Nat.zero_add _)⟩) hW.2.2 (fun q _ h => h) (fun q h => h) (fun q _ h => h) (fun E ce q9 u t H1 locs1 ht hvm hp9 hB hz hk9 hS hce hcv hcl => ?_) (fun r2 u t H1 locs1 ht hvm hw hB hz1 hk1 hS => ?_)
  · exact vx_out (fun x hx => (hout x hx).elim) hlk hce hcv hcl (fun t9 ht9 hvm9 => ⟨(), hk, ⟨hB.1, by rw [ht9, ← ht]; exact hB.2.1.perm hp8, hB.2.2.perm hp8⟩, hS.F ht9⟩) hS.2.2 (Nat.le_of_eq (Nat.zero_add _)) (Nat.le_of_eq (Nat.zero_add _))
  · exact absurd hw.2 hk
theorem x0_sv (hx : p.tables.exec = Jvm.exec) (hb : c.code = cc) (hml : c.maxLocals = nL) (hown : s.vm.findClass own = some m.cls) (hts : ∀ w ∈ wsL_law, w.before args s = true) (hK : va_K D vwCl (tys T) s) (hN : NN s) (hE : EX A s s.heap) (hW : Wd D A s.heap ws H locs) (cw : CallB R s args own index y bytes maxL ret (Cond.code y bytes maxL ret :: wsL_law) (rmx d1 0) (ex1 0) (ex6 0) n ∧ (Cond.static y).before args s = true) (hM : vx_Met l y (Cond.code y bytes maxL ret :: wsL_law) (rmx d1 0) (Px D T A ws As) (Qxv D A ws9 0) (XCx D A ws9 0) (ex1 0) (ex6 0) A) (hn : As.length = n) (hsz : ls.size = nL) (hst : st = As.reverse ++ rest) (h8 : (rest.map fun v => v.category).sum ≤ 8) (d : decode cc pc = .ok (.invokestatic index, 3)) (hf : cells ≤ R.cells ∧ slots ≤ R.slots)
    (kk : ∀ (H1 : Heap) (locs1 : List Loc), Wd D A s.heap ws9 H1 locs1 → W p l e R s m args below meth c H1 locs1 cells slots Q (F0 m (pc + 3) ls (rest))) : W p l e R s m args below meth c H locs cells slots Q (F0 m pc ls st) := by
  subst hst
  refine vx_callv (vx_runS (As := As) (rest := rest) ⟨hx, hb, hml, hown, hts⟩ hM cw ⟨Px_bl, fun U hU hw => x_pre hK hN hE hW hU hw⟩ rfl hn hsz rfl (lv_room h8) d hf) hW.2.2 (fun q _ h => h) (fun q h => h) (fun q _ h => h) (fun E ce q9 u t H1 locs1 ht hvm hp9 hB hz hk hS hce hcv hcl => absurd rfl hp9) (fun u t H1 locs1 ht hvm hw hB hz1 hk1 hS => ?_)
  exact kk H1 locs1 ⟨by rw [← ht]; exact hB.1, hB.2, hS⟩
theorem xx_sv {Qc : Array Value → State → Outcome → State → Prop} {d1' : Nat} {ws8 : va_W} (hk : k ≠ 0) (hout : ∀ x ∈ c.exceptionTable.toList, False) (hlk : meth.locks = false) (hp8 : ws9.Perm ws8) (hx : p.tables.exec = Jvm.exec) (hb : c.code = cc) (hml : c.maxLocals = nL) (hown : s.vm.findClass own = some m.cls) (hts : ∀ w ∈ wsL_law, w.before args s = true) (hK : va_K D vwCl (tys T) s) (hN : NN s) (hE : EX A s s.heap) (hW : Wd D A s.heap ws H locs) (cw : CallB (rmx d1' k) s args own index y bytes maxL ret (Cond.code y bytes maxL ret :: wsL_law) (rmx d1 k) (ex1 k) (ex6 k) n ∧ (Cond.static y).before args s = true) (hM : vx_Met l y (Cond.code y bytes maxL ret :: wsL_law) (rmx d1 k) (Px D T A ws As) (Qxv D A ws9 k) (XCx D A ws9 k) (ex1 k) (ex6 k) A) (hn : As.length = n) (hsz : ls.size = nL) (hst : st = As.reverse ++ rest) (h8 : (rest.map fun v => v.category).sum ≤ 8) (d : decode cc pc = .ok (.invokestatic index, 3)) : W p l e (rmx d1' k) s m args below meth c H locs 0 0 (vx_MQ below Qc (XCx D A ws8 k) args s (ex1 k) (ex6 k) A) (F0 m pc ls st) := by
  subst hst
  refine vx_callv (vx_runS (As := As) (rest := rest) ⟨hx, hb, hml, hown, hts⟩ hM cw ⟨Px_bl, fun U hU hw => x_pre hK hN hE hW hU hw⟩ rfl hn hsz rfl (lv_room h8) d ⟨Nat.le_of_eq (Nat.zero_add _), Nat.le_of_eq (Nat.zero_add _)⟩) hW.2.2 (fun q _ h => h) (fun q h => h) (fun q _ h => h) (fun E ce q9 u t H1 locs1 ht hvm hp9 hB hz hk9 hS hce hcv hcl => ?_) (fun u t H1 locs1 ht hvm hw hB hz1 hk1 hS => ?_)
  · exact vx_out (fun x hx => (hout x hx).elim) hlk hce hcv hcl (fun t9 ht9 hvm9 => ⟨(), hk, ⟨hB.1, by rw [ht9, ← ht]; exact hB.2.1.perm hp8, hB.2.2.perm hp8⟩, hS.F ht9⟩) hS.2.2 (Nat.le_of_eq (Nat.zero_add _)) (Nat.le_of_eq (Nat.zero_add _))
  · exact absurd hw hk
theorem x0_sr (hx : p.tables.exec = Jvm.exec) (hb : c.code = cc) (hml : c.maxLocals = nL) (hown : s.vm.findClass own = some m.cls) (hts : ∀ w ∈ wsL_law, w.before args s = true) (hK : va_K D vwCl (tys T) s) (hN : NN s) (hE : EX A s s.heap) (hW : Wd D A s.heap ws H locs) (cw : CallB R s args own index y bytes maxL ret (Cond.code y bytes maxL ret :: wsL_law) (rmx d1 0) (ex1 0) (ex6 0) n ∧ (Cond.static y).before args s = true) (hM : vx_Met l y (Cond.code y bytes maxL ret :: wsL_law) (rmx d1 0) (Px D T A ws As) (Qxr D A ws9 0 ra) (XCx D A ws9 0) (ex1 0) (ex6 0) A) (hn : As.length = n) (hsz : ls.size = nL) (hst : st = As.reverse ++ rest) (h8 : (rest.map fun v => v.category).sum ≤ 8) (d : decode cc pc = .ok (.invokestatic index, 3)) (hf : cells ≤ R.cells ∧ slots ≤ R.slots)
    (kk : ∀ (H1 : Heap) (locs1 : List Loc), Wd D A s.heap ws9 H1 locs1 → W p l e R s m args below meth c H1 locs1 cells slots Q (F0 m (pc + 3) ls (.ref ra :: rest))) : W p l e R s m args below meth c H locs cells slots Q (F0 m pc ls st) := by
  subst hst
  refine vx_callr (vx_runS (As := As) (rest := rest) ⟨hx, hb, hml, hown, hts⟩ hM cw ⟨Px_bl, fun U hU hw => x_pre hK hN hE hW hU hw⟩ rfl hn hsz rfl (lv_room h8) d hf) hW.2.2 (fun q _ h => h) (fun q h => h) (fun q _ h => h) (fun E ce q9 u t H1 locs1 ht hvm hp9 hB hz hk hS hce hcv hcl => absurd rfl hp9) (fun u ra2 t H1 locs1 ht hvm hw hB hz1 hk1 hS => ?_)
  obtain ⟨rfl, hB⟩ := hB
  exact kk H1 locs1 ⟨by rw [← ht]; exact hB.1, hB.2, hS⟩
theorem xx_sr {Qc : Array Value → State → Outcome → State → Prop} {d1' : Nat} {ws8 : va_W} (hk : k ≠ 0) (hout : ∀ x ∈ c.exceptionTable.toList, False) (hlk : meth.locks = false) (hp8 : ws9.Perm ws8) (hx : p.tables.exec = Jvm.exec) (hb : c.code = cc) (hml : c.maxLocals = nL) (hown : s.vm.findClass own = some m.cls) (hts : ∀ w ∈ wsL_law, w.before args s = true) (hK : va_K D vwCl (tys T) s) (hN : NN s) (hE : EX A s s.heap) (hW : Wd D A s.heap ws H locs) (cw : CallB (rmx d1' k) s args own index y bytes maxL ret (Cond.code y bytes maxL ret :: wsL_law) (rmx d1 k) (ex1 k) (ex6 k) n ∧ (Cond.static y).before args s = true) (hM : vx_Met l y (Cond.code y bytes maxL ret :: wsL_law) (rmx d1 k) (Px D T A ws As) (Qxr D A ws9 k ra) (XCx D A ws9 k) (ex1 k) (ex6 k) A) (hn : As.length = n) (hsz : ls.size = nL) (hst : st = As.reverse ++ rest) (h8 : (rest.map fun v => v.category).sum ≤ 8) (d : decode cc pc = .ok (.invokestatic index, 3)) : W p l e (rmx d1' k) s m args below meth c H locs 0 0 (vx_MQ below Qc (XCx D A ws8 k) args s (ex1 k) (ex6 k) A) (F0 m pc ls st) := by
  subst hst
  refine vx_callr (vx_runS (As := As) (rest := rest) ⟨hx, hb, hml, hown, hts⟩ hM cw ⟨Px_bl, fun U hU hw => x_pre hK hN hE hW hU hw⟩ rfl hn hsz rfl (lv_room h8) d ⟨Nat.le_of_eq (Nat.zero_add _), Nat.le_of_eq (Nat.zero_add _)⟩) hW.2.2 (fun q _ h => h) (fun q h => h) (fun q _ h => h) (fun E ce q9 u t H1 locs1 ht hvm hp9 hB hz hk9 hS hce hcv hcl => ?_) (fun u ra2 t H1 locs1 ht hvm hw hB hz1 hk1 hS => ?_)
  · exact vx_out (fun x hx => (hout x hx).elim) hlk hce hcv hcl (fun t9 ht9 hvm9 => ⟨(), hk, ⟨hB.1, by rw [ht9, ← ht]; exact hB.2.1.perm hp8, hB.2.2.perm hp8⟩, hS.F ht9⟩) hS.2.2 (Nat.le_of_eq (Nat.zero_add _)) (Nat.le_of_eq (Nat.zero_add _))
  · exact absurd hw hk
end XROWS
