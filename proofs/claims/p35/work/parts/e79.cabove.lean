/-! Rules without a right part, by the class. -/
theorem addE_keep {G : Ob} {ch : Ch} {s : Nat} {t : Tr} {k : Nat} (hk : k < (ch s).length) : k < (addE G ch s t s).length ∧ tC G ((addE G ch s t s).getD k dum) = tC G ((ch s).getD k dum) ∧ (tC G ((ch s).getD k dum) ≠ tC G t → (addE G ch s t s).getD k dum = (ch s).getD k dum) := by
  unfold addE upL
  split
  · rename_i hlt
    split
    · simp only [if_true, List.length_set]
      refine ⟨hk, ?_⟩
      rw [List.getD_eq_getElem?_getD, List.getElem?_set]
      by_cases e : adI G ch s t = k
      · have hal : al G t ((ch s).getD k dum) = true := by
          rw [← e, List.getD_eq_getElem?_getD, List.getElem?_eq_getElem hlt, Option.getD_some]
          exact List.findIdx_getElem
        rw [al, Bool.and_eq_true, decide_eq_true_eq] at hal
        rw [if_pos e, if_pos hlt, Option.getD_some]
        exact ⟨hal.1.symm, fun h => absurd hal.1 h⟩
      · rw [if_neg e, ← List.getD_eq_getElem?_getD]
        exact ⟨rfl, fun _ => rfl⟩
    · exact ⟨hk, rfl, fun _ => rfl⟩
  · split
    · exact ⟨hk, rfl, fun _ => rfl⟩
    · simp only [if_true, List.length_append, List.length_singleton]
      refine ⟨by omega, ?_⟩
      rw [List.getD_eq_getElem?_getD, List.getElem?_append_left hk, ← List.getD_eq_getElem?_getD]
      exact ⟨rfl, fun _ => rfl⟩
theorem addE_new {G : Ob} {ch : Ch} {s : Nat} {t : Tr} {k : Nat} (hk : (ch s).length ≤ k) (h2 : k < (addE G ch s t s).length) : (addE G ch s t s).getD k dum = t := by
  unfold addE upL at h2 ⊢
  split at h2
  · rename_i hlt
    split at h2
    · simp only [if_true, List.length_set] at h2; omega
    · omega
  · split at h2
    · omega
    · rename_i h3 h4
      rw [if_neg h3, if_neg h4]
      simp only [if_true, List.length_append, List.length_singleton] at h2 ⊢
      rw [List.getD_eq_getElem?_getD, show k = (ch s).length by omega, List.getElem?_append_right (Nat.le_refl _), Nat.sub_self]
      rfl
/-- while a rule without a right part goes over the edges ls of a span -/
def Pr (G : Ob) (ls : List Tr) (c : Int32) (cs : List Tr) : Prop := ls.length ≤ cs.length ∧ (∀ k, k < ls.length → tC G (cs.getD k dum) = tC G (ls.getD k dum) ∧ (tC G (ls.getD k dum) ≠ c → cs.getD k dum = ls.getD k dum)) ∧ ∀ k, ls.length ≤ k → k < cs.length → tC G (cs.getD k dum) = c
theorem Pr_try {G : Ob} {ch : Ch} {s g : Nat} {l r : Tr} {ls : List Tr} (h : Pr G ls (G 22 g) (ch s)) : Pr G ls (G 22 g) (tryE G ch s g l r s) := by
  unfold tryE
  split
  · obtain ⟨h1, h2, h3⟩ := h
    refine ⟨?_, ?_, ?_⟩
    · by_cases h0 : ls.length = 0
      · omega
      · have := (addE_keep (G := G) (t := .branch g l r) (show ls.length - 1 < (ch s).length by omega)).1
        omega
    · intro k hk
      obtain ⟨-, a, b⟩ := addE_keep (G := G) (ch := ch) (s := s) (t := .branch g l r) (show k < (ch s).length by omega)
      obtain ⟨c, d⟩ := h2 k hk
      refine ⟨by rw [a, c], ?_⟩
      intro hne
      rw [b (by rw [c]; exact hne), d hne]
    · intro k hk hk2
      by_cases hlt : k < (ch s).length
      · obtain ⟨-, a, -⟩ := addE_keep (G := G) (ch := ch) (s := s) (t := .branch g l r) hlt
        rw [a]; exact h3 k hk hlt
      · rw [addE_new (by omega) hk2]; rfl
  · exact h
theorem Pr_0 {G : Ob} (ls : List Tr) (c : Int32) : Pr G ls c ls := ⟨Nat.le_refl _, fun _ _ => ⟨rfl, fun _ => rfl⟩, fun k h1 h2 => by omega⟩
theorem un_ne {G : Ob} (hG : WGr G) {g : Nat} (hg : g < nn (G 21 0)) (hun : G 24 g = nM) : G 23 g ≠ G 22 g ∧ nn (G 23 g) < nn (G 22 g) := by
  obtain ⟨-, -, hq, -⟩ := hG.2 g hg
  rcases hq with ⟨-, hq, -⟩ | ⟨⟨a, ha, ea⟩, -⟩
  · exact ⟨fun e => by rw [e] at hq; omega, hq⟩
  · rw [ea, iN_nM (by omega)] at hun; exact hun.elim
theorem X4_un {x2 G : Ob} {n0 : Int32} {ch : Ch} {b m : Nat} {y2 y0 : Ob} (hG : WGr G) (hx : QX2 x2 G) {g : Nat} (hg : g < nn (G 21 0)) (hun : G 24 g = nM) (hS : SX x2 n0 G ch b m (nn (G 22 g) + 1) y2 y0) :
    wp (f_X4_use y2 y0 (iN g) (iN (6 * b + m - 1)) (iN (6 * b + m - 1)) nM) (fun q => SX x2 n0 G (uls G (6 * b + m - 1) g [dum] (ch (6 * b + m - 1)) ch) b m (nn (G 22 g) + 1) q.1 q.2) := by
  obtain ⟨-, sR, sI, -⟩ := id hS
  obtain ⟨i1, i2, i3, i4, i5, i6⟩ := sI
  have hla := i5 (6 * b + m - 1)
  have hsp : 6 * b + m - 1 < 36 := by omega
  obtain ⟨hcne, -⟩ := un_ne hG hg hun
  have e1 : f_X0_edgesOf y0 (iN (6 * b + m - 1)) = some (iN (ch (6 * b + m - 1)).length) := by
    simp (disch := omega) only [f_X0_edgesOf, ↓nM_lit, iN_lit, iN_add, iN_mul, iN_lt, iN_le, iN_eq, iN_c, gd_iN, iN_nM, nM_iN, iN_ltM, nM_lt, nM_le, iN_leM, iN_0M, nM_p1, iN_0s1, decide_true, decide_eq_true_eq, Nat.not_lt_zero, if_true, if_false, eq_grd, eq_lb, eq_b1, eq_b2, eq_b3, eq_b4, eq_b5, show ¬ (36 ≤ 6 * b + m - 1) by omega, hsp, (sR (6 * b + m - 1) hsp).1]
  simp (disch := omega) only [f_X4_use, f_X4_use_J24, e1, ↓nM_lit, iN_lit, iN_add, iN_mul, iN_lt, iN_le, iN_eq, iN_c, gd_iN, iN_nM, nM_iN, iN_ltM, nM_lt, nM_le, iN_leM, iN_0M, nM_p1, iN_0s1, decide_true, decide_eq_true_eq, Nat.not_lt_zero, if_true, if_false, wp_some, wp_grd, wp_lb, wp_ite, wp_b1, wp_b2, wp_b3, wp_b4, wp_b5, eq_grd, eq_lb, eq_b1, eq_b2, eq_b3, eq_b4, eq_b5]
  refine lp_up (F := fun n (y : Ob × Ob) j => f_X4_use_L29 n y.1 y.2 (iN g) (iN (6 * b + m - 1)) (iN (6 * b + m - 1)) nM (iN (ch (6 * b + m - 1)).length) (iN 1) j) (V := fun j y => ∃ ch', SX x2 n0 G ch' b m (nn (G 22 g) + 1) y.1 y.2 ∧ Pr G (ch (6 * b + m - 1)) (G 22 g) (ch' (6 * b + m - 1)) ∧ uls G (6 * b + m - 1) g [dum] ((ch (6 * b + m - 1)).drop j) ch' = uls G (6 * b + m - 1) g [dum] (ch (6 * b + m - 1)) ch) (hi := (ch (6 * b + m - 1)).length) ?_ 200 0 (y2, y0) (by omega) (by omega) ⟨ch, hS, Pr_0 _ _, rfl⟩
  rintro n ⟨z2, z0⟩ j hj ⟨ch', hS', hPr, hfo⟩ hk
  simp only at hS' hk ⊢
  by_cases he : j = (ch (6 * b + m - 1)).length
  · rw [he, List.drop_length] at hfo
    rw [he]
    simp (disch := omega) only [f_X4_use_L29, ↓nM_lit, iN_lit, iN_add, iN_mul, iN_lt, iN_le, iN_eq, iN_c, gd_iN, iN_nM, nM_iN, iN_ltM, nM_lt, nM_le, iN_leM, iN_0M, nM_p1, iN_0s1, decide_true, decide_eq_true_eq, Nat.not_lt_zero, if_true, if_false, wp_some, wp_grd, wp_lb, wp_ite, wp_b1, wp_b2, wp_b3, wp_b4, wp_b5, Nat.le_refl]
    rw [← hfo]
    exact hS'
  · have hj' : j < (ch (6 * b + m - 1)).length := by omega
    have hj2 : j < (ch' (6 * b + m - 1)).length := Nat.lt_of_lt_of_le hj' hPr.1
    obtain ⟨p1, p2⟩ := hPr.2.1 j hj'
    have hrl := (hS'.2.1 (6 * b + m - 1) hsp).2 j hj2
    obtain ⟨c1, -, -⟩ := X0_get hrl (by omega)
    rw [p1] at c1
    obtain ⟨-, c2, -, -⟩ := X2_get (RX2_cg hS'.1 hx) hG hg
    rw [drop_getD hj', uls, List.foldl_cons, ← uls] at hfo
    simp (disch := omega) only [f_X4_use_L29, ↓nM_lit, iN_lit, iN_add, iN_mul, iN_lt, iN_le, iN_eq, iN_c, gd_iN, iN_nM, nM_iN, iN_ltM, nM_lt, nM_le, iN_leM, iN_0M, nM_p1, iN_0s1, decide_true, decide_eq_true_eq, Nat.not_lt_zero, if_true, if_false, wp_some, wp_grd, wp_lb, wp_ite, wp_b1, wp_b2, wp_b3, wp_b4, wp_b5, eq_grd, eq_lb, eq_b1, eq_b2, eq_b3, eq_b4, eq_b5, show ¬ ((ch (6 * b + m - 1)).length ≤ j) by omega, show (6 * b + m - 1) * 8 + j = 8 * (6 * b + m - 1) + j by omega, c1, c2]
    by_cases hc : tC G ((ch (6 * b + m - 1)).getD j dum) = G 23 g
    · rw [if_pos hc] at hfo ⊢
      have p3 := p2 (by rw [hc]; exact hcne)
      rw [p3] at hrl
      obtain ⟨wl, sl, bl⟩ := i3 _ _ (getD_mem hj')
      have pl := tW_pos _ wl
      have spl := sp_mod pl bl
      rw [sp] at sl
      rw [sl] at spl
      have spm := sp_mod i1 i2
      have hisR : isR G b m (nn (G 22 g) + 1) ch' z0 g ((ch (6 * b + m - 1)).getD j dum) dum (8 * (6 * b + m - 1) + j) nM :=
        Or.inl ⟨hun, rfl, rfl, by omega, by omega, by omega, rfl⟩
      rw [show (200 : Nat) = 198 + 1 + 1 from rfl, f_X4_use_L63]
      simp (disch := omega) only [↓nM_lit, iN_lit, iN_add, iN_mul, iN_lt, iN_le, iN_eq, iN_c, gd_iN, iN_nM, nM_iN, iN_ltM, nM_lt, nM_le, iN_leM, iN_0M, nM_p1, iN_0s1, decide_true, decide_eq_true_eq, Nat.not_lt_zero, if_true, if_false, wp_some, wp_grd, wp_lb, wp_ite, wp_b1, wp_b2, wp_b3, wp_b4, wp_b5, show ¬ (1 ≤ 0) by decide]
      refine wp_mono (X4_try hG hx hS' hg (by omega) hrl wl hc hisR (iN (6 * b + m - 1)) nM (iN (ch (6 * b + m - 1)).length) (iN 1) (iN j) 0) ?_
      rintro ⟨q1, q2, q3, q4⟩ ⟨e1, e2, e3⟩
      simp only at e1 e2 e3 ⊢
      simp only [e1, e2, if_true, Nat.zero_add]
      rw [f_X4_use_L63]
      simp (disch := omega) only [↓nM_lit, iN_lit, iN_add, iN_mul, iN_lt, iN_le, iN_eq, iN_c, gd_iN, iN_nM, nM_iN, iN_ltM, nM_lt, nM_le, iN_leM, iN_0M, nM_p1, iN_0s1, decide_true, decide_eq_true_eq, Nat.not_lt_zero, if_true, if_false, wp_some, wp_grd, wp_lb, wp_ite, wp_b1, wp_b2, wp_b3, wp_b4, wp_b5, Nat.le_refl]
      refine hk (q3, q4) hj' ⟨_, e3, ?_, hfo⟩
      split
      · exact Pr_try hPr
      · exact hPr
    · rw [if_neg hc] at hfo ⊢
      exact hk (z2, z0) hj' ⟨ch', hS', hPr, hfo⟩
theorem Iv_P {G : Ob} {ch : Ch} {b m P P' : Nat} (hP : P ≤ P') (h : Iv G ch b m P) : Iv G ch b m P' := by
  obtain ⟨h1, h2, h3, h4, h5, h6⟩ := h
  exact ⟨h1, h2, h3, h4, h5, fun t ht hu => Nat.lt_of_lt_of_le (h6 t ht hu) hP⟩
theorem sing_mem {G : Ob} {g : Nat} (h : g ∈ sing G) : g < nn (G 21 0) ∧ G 24 g = nM ∧ nn (G 22 g) < 10 := by
  unfold sing at h
  obtain ⟨c, hc, hg⟩ := List.mem_flatMap.mp h
  rw [List.mem_filter, decide_eq_true_eq] at hg
  obtain ⟨h1, h2, h3⟩ := hg
  have := List.mem_range.mp hc
  refine ⟨List.mem_range.mp h1, h2, ?_⟩
  rw [h3, nn, iN_c (by omega)]; exact this
theorem sing_sorted (G : Ob) : List.Pairwise (fun g g' => nn (G 22 g) ≤ nn (G 22 g')) (sing G) := by
  unfold sing
  rw [List.pairwise_flatMap]
  constructor
  · intro c hc
    refine List.Pairwise.imp_of_mem ?_ (List.pairwise_lt_range.filter _)
    intro a b' ha hb _
    rw [List.mem_filter, decide_eq_true_eq] at ha hb
    rw [ha.2.2, hb.2.2]; exact Nat.le_refl _
  · refine List.Pairwise.imp_of_mem ?_ List.pairwise_lt_range
    intro c d hc hd hcd x hx y hy
    rw [List.mem_filter, decide_eq_true_eq] at hx hy
    have := List.mem_range.mp hc
    have := List.mem_range.mp hd
    rw [hx.2.2, hy.2.2, nn, nn, iN_c (by omega), iN_c (by omega)]; omega
theorem filt_len (f : Nat → Nat) (p : Nat → Bool) (l : List Nat) (k : Nat) : (l.filter (fun g => p g && decide (f g < k + 1))).length = (l.filter (fun g => p g && decide (f g < k))).length + (l.filter (fun g => p g && decide (f g = k))).length := by
  induction l with
  | nil => rfl
  | cons a l ih =>
    simp only [List.filter_cons]
    cases p a with
    | false => simp only [Bool.false_and, Bool.false_eq_true, if_false]; exact ih
    | true =>
      simp only [Bool.true_and, decide_eq_true_eq]
      by_cases h1 : f a < k
      · rw [if_pos (show f a < k + 1 by omega), if_pos h1, if_neg (show ¬ f a = k by omega), List.length_cons, List.length_cons, ih]; omega
      · by_cases h2 : f a = k
        · rw [if_pos (show f a < k + 1 by omega), if_neg h1, if_pos h2, List.length_cons, List.length_cons, ih]; omega
        · rw [if_neg (show ¬ f a < k + 1 by omega), if_neg h1, if_neg h2]; exact ih
theorem sing_k (G : Ob) (hG : WGr G) (k : Nat) (hk : k ≤ 10) : ((List.range k).flatMap (fun c => (List.range (nn (G 21 0))).filter (fun g => decide (G 24 g = nM ∧ G 22 g = iN c)))).length = ((List.range (nn (G 21 0))).filter (fun g => decide (G 24 g = nM) && decide (nn (G 22 g) < k))).length := by
  induction k with
  | zero =>
    have : ∀ l : List Nat, l.filter (fun g => decide (G 24 g = nM) && decide (nn (G 22 g) < 0)) = [] := by
      intro l
      rw [List.filter_eq_nil_iff]
      intro a _ h
      rw [Bool.and_eq_true, decide_eq_true_eq, decide_eq_true_eq] at h
      omega
    rw [this]; rfl
  | succ k ih =>
    rw [List.range_succ, List.flatMap_append, List.length_append, ih (by omega), filt_len]
    congr 1
    simp only [List.flatMap_cons, List.flatMap_nil, List.append_nil]
    congr 1
    refine List.filter_congr ?_
    intro g hg
    obtain ⟨⟨a, ha, ea⟩, -⟩ := hG.2 g (List.mem_range.mp hg)
    rw [ea, nn, iN_c (by omega), Bool.decide_and]
    congr 1
    simp only [iN_eq (show a < 2147483648 by omega) (show k < 2147483648 by omega)]
theorem sing_len {G : Ob} (hG : WGr G) : (sing G).length ≤ 16 := by
  have h := sing_k G hG 10 (Nat.le_refl _)
  have h2 := List.length_filter_le (fun g => decide (G 24 g = nM) && decide (nn (G 22 g) < 10)) (List.range (nn (G 21 0)))
  have h3 := ng_le hG
  rw [List.length_range] at h2
  unfold sing
  omega
/-- the class's row of rules without a right part -/
def RSg (x G : Ob) : Prop := x 5 0 = iN (sing G).length ∧ ∀ k, k < (sing G).length → x 6 k = iN ((sing G).getD k 0)
theorem X4_above {x2 G : Ob} {n0 : Int32} {ch : Ch} {b m : Nat} {y2 y0 : Ob} (q2 : Ob) (v4 v5 : Int32) (hG : WGr G) (hx : QX2 x2 G) (hs : RSg x2 G) (hS : SX x2 n0 G ch b m 0 y2 y0) :
    wp (f_X4_read_L137 200 y2 q2 y0 v4 v5 (iN (6 * b + m - 1)) (iN 0)) (fun q => ∃ P, SX x2 n0 G (abF G (6 * b + m - 1) (sing G) ch) b m P q.2.1 q.2.2) := by
  have h16 := sing_len hG
  refine lp_up (F := fun n (y : Ob × Ob) j => f_X4_read_L137 n y.1 q2 y.2 v4 v5 (iN (6 * b + m - 1)) j) (V := fun j y => ∃ ch' P, SX x2 n0 G ch' b m P y.1 y.2 ∧ (∀ g, g ∈ (sing G).drop j → P ≤ nn (G 22 g) + 1) ∧ abF G (6 * b + m - 1) ((sing G).drop j) ch' = abF G (6 * b + m - 1) (sing G) ch) (hi := (sing G).length) ?_ 200 0 (y2, y0) (by omega) (by omega) ⟨ch, 0, hS, fun _ _ => Nat.zero_le _, rfl⟩
  rintro n ⟨z2, z0⟩ j hj ⟨ch', P, hS', hP, hfo⟩ hk
  simp only at hS' hk ⊢
  have e5 : z2 5 0 = iN (sing G).length := by rw [hS'.1 5 (by decide) (by decide) (by decide)]; exact hs.1
  by_cases he : j = (sing G).length
  · rw [he, List.drop_length] at hfo
    rw [he]
    simp (disch := omega) only [f_X4_read_L137, e5, ↓nM_lit, iN_lit, iN_add, iN_mul, iN_lt, iN_le, iN_eq, iN_c, gd_iN, iN_nM, nM_iN, iN_ltM, nM_lt, nM_le, iN_leM, iN_0M, nM_p1, iN_0s1, decide_true, decide_eq_true_eq, Nat.not_lt_zero, if_true, if_false, wp_some, wp_grd, wp_lb, wp_ite, wp_b1, wp_b2, wp_b3, wp_b4, wp_b5, Nat.le_refl]
    rw [← hfo]
    exact ⟨P, hS'⟩
  · have hj' : j < (sing G).length := by omega
    have ed : (sing G).drop j = (sing G).getD j 0 :: (sing G).drop (j + 1) := by
      rw [List.drop_eq_getElem_cons hj', List.getD_eq_getElem?_getD, List.getElem?_eq_getElem hj', Option.getD_some]
    have hmem : (sing G).getD j 0 ∈ sing G := by
      rw [List.getD_eq_getElem?_getD, List.getElem?_eq_getElem hj', Option.getD_some]
      exact List.getElem_mem hj'
    have hsort : List.Pairwise (fun g g' => nn (G 22 g) ≤ nn (G 22 g')) ((sing G).drop j) := (sing_sorted G).sublist (List.drop_sublist j _)
    rw [ed] at hsort hP hfo
    obtain ⟨m1, m2, m3⟩ := sing_mem hmem
    have hP0 := hP _ (List.mem_cons_self)
    rw [abF, List.foldl_cons, ← abF] at hfo
    have e6 : f_X2_singleAt z2 (iN j) = some (iN ((sing G).getD j 0)) := by
      have : z2 6 j = iN ((sing G).getD j 0) := by rw [hS'.1 6 (by decide) (by decide) (by decide)]; exact hs.2 j hj'
      simp (disch := omega) only [f_X2_singleAt, e5, ↓nM_lit, iN_lit, iN_add, iN_mul, iN_lt, iN_le, iN_eq, iN_c, gd_iN, iN_nM, nM_iN, iN_ltM, nM_lt, nM_le, iN_leM, iN_0M, nM_p1, iN_0s1, decide_true, decide_eq_true_eq, Nat.not_lt_zero, if_true, if_false, eq_grd, eq_lb, eq_b1, eq_b2, eq_b3, eq_b4, eq_b5, show ¬ ((sing G).length ≤ j) by omega, show ¬ (16 ≤ j) by omega, show j < 16 by omega, this]
    simp (disch := omega) only [f_X4_read_L137, e5, ↓nM_lit, iN_lit, iN_add, iN_mul, iN_lt, iN_le, iN_eq, iN_c, gd_iN, iN_nM, nM_iN, iN_ltM, nM_lt, nM_le, iN_leM, iN_0M, nM_p1, iN_0s1, decide_true, decide_eq_true_eq, Nat.not_lt_zero, if_true, if_false, wp_some, wp_grd, wp_lb, wp_ite, wp_b1, wp_b2, wp_b3, wp_b4, wp_b5, eq_grd, eq_lb, eq_b1, eq_b2, eq_b3, eq_b4, eq_b5, show ¬ ((sing G).length ≤ j) by omega, e6]
    refine wp_mono (X4_un hG hx m1 m2 ⟨hS'.1, hS'.2.1, Iv_P hP0 hS'.2.2.1, hS'.2.2.2⟩) ?_
    rintro ⟨q1, q2⟩ hq
    refine hk (q1, q2) hj' ⟨_, _, hq, ?_, hfo⟩
    intro g hg
    have := (List.pairwise_cons.mp hsort).1 g hg
    omega
