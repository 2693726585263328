/-! rule: the row of rules without a right part. -/
theorem fm_eq {f f' : Nat → List Nat} (k : Nat) (h : ∀ c, c < k → f' c = f c) : (List.range k).flatMap f' = (List.range k).flatMap f := by
  induction k with
  | zero => rfl
  | succ k ih =>
    rw [List.range_succ, List.flatMap_append, List.flatMap_append, ih (fun c hc => h c (by omega))]
    simp only [List.flatMap_cons, List.flatMap_nil, List.append_nil, h k (Nat.lt_succ_self k)]
theorem fm_ins {f f' : Nat → List Nat} {c0 n : Nat} (h : ∀ c, f' c = f c ++ (if c = c0 then [n] else [])) (d : Nat) : ∃ B, (List.range (c0 + 1 + d)).flatMap f = (List.range (c0 + 1)).flatMap f ++ B ∧ (List.range (c0 + 1 + d)).flatMap f' = (List.range (c0 + 1)).flatMap f ++ n :: B ∧ ∀ x, x ∈ B → ∃ c, c0 < c ∧ c < c0 + 1 + d ∧ x ∈ f c := by
  induction d with
  | zero =>
    refine ⟨[], by rw [Nat.add_zero, List.append_nil], ?_, fun x hx => absurd hx List.not_mem_nil⟩
    rw [Nat.add_zero, List.range_succ, List.flatMap_append, List.flatMap_append, fm_eq c0 (fun c hc => by rw [h c, if_neg (by omega), List.append_nil])]
    simp only [List.flatMap_cons, List.flatMap_nil, List.append_nil, h c0, if_true, List.append_assoc]
  | succ d ih =>
    obtain ⟨B, b1, b2, b3⟩ := ih
    refine ⟨B ++ f (c0 + 1 + d), ?_, ?_, ?_⟩
    · rw [← Nat.add_assoc, List.range_succ, List.flatMap_append, b1]
      simp only [List.flatMap_cons, List.flatMap_nil, List.append_nil, List.append_assoc]
    · rw [← Nat.add_assoc, List.range_succ, List.flatMap_append, b2]
      simp only [List.flatMap_cons, List.flatMap_nil, List.append_nil, List.append_assoc, List.cons_append, h (c0 + 1 + d), if_neg (show ¬ (c0 + 1 + d = c0) by omega)]
    · intro x hx
      rcases List.mem_append.mp hx with hx | hx
      · obtain ⟨c, c1, c2, c3⟩ := b3 x hx
        exact ⟨c, c1, by omega, c3⟩
      · exact ⟨c0 + 1 + d, by omega, by omega, hx⟩
theorem flS_mem {G : Ob} {c n g : Nat} (h : g ∈ flS G c n) : g < n ∧ G 24 g = nM ∧ G 22 g = iN c := by
  unfold flS at h
  rw [List.mem_filter, decide_eq_true_eq] at h
  exact ⟨List.mem_range.mp h.1, h.2⟩
theorem flS_new {G G' : Ob} {n : Nat} (h : ∀ g, g < n → G' 22 g = G 22 g ∧ G' 24 g = G 24 g) (c : Nat) : flS G' c (n + 1) = flS G c n ++ (if G' 24 n = nM ∧ G' 22 n = iN c then [n] else []) := by
  unfold flS
  rw [List.range_succ, List.filter_append, List.filter_cons, List.filter_nil]
  congr 1
  · refine List.filter_congr ?_
    intro g hg
    obtain ⟨h1, h2⟩ := h g (List.mem_range.mp hg)
    rw [h1, h2]
  · by_cases h : G' 24 n = nM ∧ G' 22 n = iN c
    · rw [if_pos h, if_pos (decide_eq_true h)]
    · rw [if_neg h, if_neg (by rw [decide_eq_false h]; decide)]
theorem sing_bin {G G' : Ob} {n : Nat} (hn : nn (G 21 0) = n) (hn' : nn (G' 21 0) = n + 1) (h : ∀ g, g < n → G' 22 g = G 22 g ∧ G' 24 g = G 24 g) (hb : G' 24 n ≠ nM) : sing G' = sing G := by
  have e1 : sing G' = (List.range 10).flatMap (fun c => flS G' c (nn (G' 21 0))) := rfl
  have e2 : sing G = (List.range 10).flatMap (fun c => flS G c (nn (G 21 0))) := rfl
  rw [e1, e2, hn, hn']
  refine fm_eq 10 ?_
  intro c _
  simp only [flS_new h c]
  rw [if_neg (fun h => hb h.1), List.append_nil]
theorem sing_un {G G' : Ob} {n c : Nat} (hn : nn (G 21 0) = n) (hn' : nn (G' 21 0) = n + 1) (h : ∀ g, g < n → G' 22 g = G 22 g ∧ G' 24 g = G 24 g) (hc : c < 10) (hb : G' 24 n = nM) (hp : G' 22 n = iN c) : ∃ A B, sing G = A ++ B ∧ sing G' = A ++ n :: B ∧ (∀ g, g ∈ A → nn (G 22 g) ≤ c) ∧ ∀ g, g ∈ B → c < nn (G 22 g) := by
  have e1 : sing G' = (List.range 10).flatMap (fun c => flS G' c (nn (G' 21 0))) := rfl
  have e2 : sing G = (List.range 10).flatMap (fun c => flS G c (nn (G 21 0))) := rfl
  have hf : ∀ k, k < 10 → flS G' k (n + 1) = flS G k n ++ (if k = c then [n] else []) := by
    intro k hk
    rw [flS_new h k]
    congr 1
    by_cases e : k = c
    · rw [if_pos e, if_pos ⟨hb, by rw [hp, e]⟩]
    · rw [if_neg e, if_neg]
      rintro ⟨-, h2⟩
      rw [hp, iN_eq (by omega) (by omega)] at h2
      exact e h2.symm
  obtain ⟨B, b1, b2, b3⟩ := fm_ins (f := fun k => flS G k n) (f' := fun k => flS G k n ++ (if k = c then [n] else [])) (c0 := c) (n := n) (fun _ => rfl) (10 - (c + 1))
  rw [show c + 1 + (10 - (c + 1)) = 10 by omega] at b1 b2
  refine ⟨(List.range (c + 1)).flatMap (fun k => flS G k n), B, by rw [e2, hn]; exact b1, ?_, ?_, ?_⟩
  · rw [e1, hn', ← b2]
    exact fm_eq 10 (fun k hk => hf k hk)
  · intro g hg
    obtain ⟨k, hk, hg⟩ := List.mem_flatMap.mp hg
    have := List.mem_range.mp hk
    rw [(flS_mem hg).2.2, nn, iN_c (by omega)]; omega
  · intro g hg
    obtain ⟨k, k1, k2, k3⟩ := b3 g hg
    rw [(flS_mem k3).2.2, nn, iN_c (by omega)]; exact k1
theorem getD_r {α : Type} (a b : List α) (i : Nat) (d : α) : (a ++ b).getD (a.length + i) d = b.getD i d := by
  rw [List.getD_eq_getElem?_getD, List.getElem?_append_right (Nat.le_add_right _ _), Nat.add_sub_cancel_left, ← List.getD_eq_getElem?_getD]
theorem getD_memN {l : List Nat} {i : Nat} (h : i < l.length) : l.getD i 0 ∈ l := by
  rw [List.getD_eq_getElem?_getD, List.getElem?_eq_getElem h, Option.getD_some]
  exact List.getElem_mem h
theorem X2_ins {x : Ob} {A B : List Nat} {n c : Nat} {pr : Nat → Nat} (hc : c < 10) (h5 : x 5 0 = iN (A ++ B).length) (hl : (A ++ B).length ≤ 15) (h6 : ∀ k, k < (A ++ B).length → x 6 k = iN ((A ++ B).getD k 0)) (hp : ∀ y : Ob, y 0 = x 0 → y 1 = x 1 → ∀ g, g ∈ A ++ B → f_X2_parentOf y (iN g) = some (iN (pr g)) ∧ pr g < 10) (hA : ∀ g, g ∈ A → pr g ≤ c) (hB : ∀ g, g ∈ B → c < pr g) :
    wp (f_X2_addSingle x (iN n) (iN c)) (fun y => (∀ k, k ≠ 5 → k ≠ 6 → y k = x k) ∧ y 5 0 = iN (A ++ n :: B).length ∧ ∀ k, k < (A ++ n :: B).length → y 6 k = iN ((A ++ n :: B).getD k 0)) := by
  have hlen : (A ++ B).length = A.length + B.length := List.length_append
  have hlen2 : (A ++ n :: B).length = A.length + B.length + 1 := by rw [List.length_append, List.length_cons]; omega
  have key : ∀ (d f : Nat) (y : Ob), A.length + d ≤ (A ++ B).length → d < f → (∀ k, k ≠ 6 → y k = x k) → (∀ k, k < A.length + d → y 6 k = iN ((A ++ B).getD k 0)) → (∀ k, A.length + d < k → k ≤ (A ++ B).length → y 6 k = iN ((A ++ B).getD (k - 1) 0)) →
      wp (f_X2_addSingle_L10 f y (iN n) (iN c) (iN (A.length + d))) (fun q => q.1 = iN A.length ∧ (∀ k, k ≠ 6 → q.2 k = x k) ∧ (∀ k, k < A.length → q.2 6 k = iN ((A ++ B).getD k 0)) ∧ ∀ k, A.length < k → k ≤ (A ++ B).length → q.2 6 k = iN ((A ++ B).getD (k - 1) 0)) := by
    intro d
    induction d with
    | zero =>
      intro f y hd hf hy h1 h2
      obtain ⟨f, rfl⟩ : ∃ m, f = m + 1 := ⟨f - 1, by omega⟩
      simp only [Nat.add_zero] at h1 h2 ⊢
      by_cases h0 : A.length = 0
      · simp (disch := omega) only [f_X2_addSingle_L10, ↓nM_lit, iN_lit, iN_add, iN_mul, iN_lt, iN_le, iN_eq, iN_c, gd_iN, iN_nM, nM_iN, iN_ltM, nM_lt, nM_le, iN_leM, iN_0M, nM_p1, iN_0s1, decide_true, decide_eq_true_eq, Nat.not_lt_zero, if_true, if_false, wp_some, wp_grd, wp_lb, wp_ite, wp_b1, wp_b2, wp_b3, wp_b4, wp_b5, show A.length ≤ 0 by omega]
        exact ⟨trivial, hy, h1, h2⟩
      · have e1 := h1 (A.length - 1) (by omega)
        have hmem : (A ++ B).getD (A.length - 1) 0 ∈ A := by rw [getD_init (by omega)]; exact getD_memN (by omega)
        obtain ⟨p1, p2⟩ := hp y (hy 0 (by decide)) (hy 1 (by decide)) _ (List.mem_append_left B hmem)
        have hle := hA _ hmem
        simp (disch := omega) only [f_X2_addSingle_L10, ↓nM_lit, iN_lit, iN_add, iN_mul, iN_lt, iN_le, iN_eq, iN_c, gd_iN, iN_nM, nM_iN, iN_ltM, nM_lt, nM_le, iN_leM, iN_0M, nM_p1, iN_0s1, decide_true, decide_eq_true_eq, Nat.not_lt_zero, if_true, if_false, wp_some, wp_grd, wp_lb, wp_ite, wp_b1, wp_b2, wp_b3, wp_b4, wp_b5, eq_grd, eq_lb, eq_b1, eq_b2, eq_b3, eq_b4, eq_b5, show ¬ (A.length ≤ 0) by omega, iN_s1 (show 0 < A.length by omega), show A.length - 1 < 16 by omega, e1, p1, hle, true_and]
        exact ⟨hy, h1, h2⟩
    | succ d ih =>
      intro f y hd hf hy h1 h2
      obtain ⟨f, rfl⟩ : ∃ m, f = m + 1 := ⟨f - 1, by omega⟩
      have e1 := h1 (A.length + d) (by omega)
      have hmem : (A ++ B).getD (A.length + d) 0 ∈ B := by rw [getD_r]; exact getD_memN (by omega)
      obtain ⟨p1, p2⟩ := hp y (hy 0 (by decide)) (hy 1 (by decide)) _ (List.mem_append_right A hmem)
      have hgt := hB _ hmem
      rw [show A.length + (d + 1) = A.length + d + 1 by omega] at h1 h2 ⊢
      simp (disch := omega) only [f_X2_addSingle_L10, ↓nM_lit, iN_lit, iN_add, iN_mul, iN_lt, iN_le, iN_eq, iN_c, gd_iN, iN_nM, nM_iN, iN_ltM, nM_lt, nM_le, iN_leM, iN_0M, nM_p1, iN_0s1, decide_true, decide_eq_true_eq, Nat.not_lt_zero, if_true, if_false, wp_some, wp_grd, wp_lb, wp_ite, wp_b1, wp_b2, wp_b3, wp_b4, wp_b5, eq_grd, eq_lb, eq_b1, eq_b2, eq_b3, eq_b4, eq_b5, show ¬ (A.length + d + 1 ≤ 0) by omega, iN_s1 (show 0 < A.length + d + 1 by omega), Nat.add_sub_cancel, show A.length + d < 16 by omega, show A.length + d + 1 < 16 by omega, e1, p1, show ¬ (pr ((A ++ B).getD (A.length + d) 0) ≤ c) by omega, iN_pM, true_and]
      refine ih f _ (by omega) (by omega) (fun k hk => by rw [upo_ne hk]; exact hy k hk) ?_ ?_
      · intro k hk
        rw [up_i (by omega)]; exact h1 k (by omega)
      · intro k k1 k2
        by_cases e : k = A.length + d + 1
        · subst e; rw [up_s]; rfl
        · rw [up_i e]; exact h2 k (by omega) k2
  have e15 : (if iN 15 < iN (A ++ B).length then iN 15 else iN (A ++ B).length) = iN (A ++ B).length := by
    rw [if_neg]; rw [iN_lt (by decide) (by omega)]; omega
  rw [f_X2_addSingle, h5, show (15 : Int32) = iN 15 from rfl, e15]
  simp only [wp_some, wp_grd, wp_lb, wp_ite, wp_b1, wp_b2, wp_b3, wp_b4, wp_b5]
  have h0 := key B.length 200 x (by omega) (by omega) (fun _ _ => rfl) (fun k hk => h6 k (by omega)) (fun k k1 k2 => by omega)
  rw [← hlen] at h0
  refine wp_mono h0 ?_
  rintro ⟨q1, q2⟩ ⟨a1, a2, a3, a4⟩
  simp only at a1 a2 a3 a4 ⊢
  have q5 : ∀ v, upo q2 6 A.length v 5 0 = iN (A ++ B).length := fun v => by rw [upo_ne (by decide), a2 5 (by decide)]; exact h5
  simp (disch := omega) only [a1, ↓nM_lit, iN_lit, iN_add, iN_mul, iN_lt, iN_le, iN_eq, iN_c, gd_iN, iN_nM, nM_iN, iN_ltM, nM_lt, nM_le, iN_leM, iN_0M, nM_p1, iN_0s1, decide_true, decide_eq_true_eq, Nat.not_lt_zero, if_true, if_false, wp_some, wp_grd, wp_lb, wp_ite, wp_b1, wp_b2, wp_b3, wp_b4, wp_b5, show A.length < 16 by omega, q5, true_and]
  refine ⟨?_, ?_, ?_⟩
  · intro k k5 k6; rw [upo_ne k5, upo_ne k6]; exact a2 k k6
  · rw [up_s, hlen2, hlen]
  · intro k hk
    rw [upo_ne (by decide), upo_ap]
    by_cases e : k = A.length
    · rw [if_pos ⟨rfl, e⟩]
      have := getD_r A (n :: B) 0 0
      rw [Nat.add_zero] at this
      rw [e, this]; rfl
    · rw [if_neg (fun h => e h.2)]
      by_cases hlt : k < A.length
      · rw [a3 k hlt, getD_init hlt, getD_init hlt]
      · obtain ⟨i, rfl⟩ : ∃ i, k = A.length + (i + 1) := ⟨k - A.length - 1, by omega⟩
        rw [a4 _ (by omega) (by omega), getD_r, show A.length + (i + 1) - 1 = A.length + i by omega, getD_r]
        rfl
