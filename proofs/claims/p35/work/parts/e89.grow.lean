/-! A tree's edges, each ahead of its parts. -/
def pre : Tr → List Tr
  | .leaf a => if a.2.2.1 = nM then [] else [.leaf a]
  | .branch g l r => .branch g l r :: (pre l ++ pre r)
theorem pre_dum : pre dum = [] := if_pos rfl
theorem pre_leaf {G : Ob} {a : Nat × Nat × Int32 × Nat} (h : WT G (.leaf a)) : pre (.leaf a) = [.leaf a] := by
  obtain ⟨-, -, ⟨c, hc, e⟩, -⟩ := h
  rw [pre, if_neg]
  rw [e, iN_nM (by omega)]; exact id
theorem pre_len {G : Ob} (hG : WGr G) (t : Tr) : WT G t → 1 ≤ (pre t).length ∧ (pre t).length + 19 ≤ 20 * tW t + nn (tC G t) := by
  induction t with
  | leaf a =>
    intro h
    rw [pre_leaf h]
    have := tW_pos _ h
    simp only [List.length_singleton]
    omega
  | branch g l r ihl ihr =>
    intro h
    obtain ⟨w1, w2, w3, w4, w5, w6⟩ := h
    have hl := ihl w2
    obtain ⟨cl, hcl, ecl⟩ := tC_le hG l w2
    have e1 : nn (tC G l) = cl := by rw [ecl, nn, iN_c (by omega)]
    simp only [pre, List.length_cons, List.length_append]
    refine ⟨by omega, ?_⟩
    show _ ≤ 20 * (tW l + tW r) + nn (G 22 g)
    by_cases hu : G 24 g = nM
    · have := w5 hu
      subst this
      obtain ⟨-, hlt⟩ := un_ne hG w1 hu
      rw [← w3] at hlt
      rw [pre_dum, tW_dum, List.length_nil]
      omega
    · obtain ⟨v1, v2, v3⟩ := w6 hu
      have hr := ihr v1
      obtain ⟨cr, hcr, ecr⟩ := tC_le hG r v1
      have e2 : nn (tC G r) = cr := by rw [ecr, nn, iN_c (by omega)]
      omega
theorem X0_partL {x G : Ob} {a : Nat × Nat × Int32 × Nat} {σ : Nat} (h : RC x G (.leaf a) σ) (hσ : σ < 288) (c : Int32) : f_X0_partOf x (iN σ) c = some nM ∧ f_X0_ruleOf x (iN σ) = some nM ∧ f_X0_readingOf x (iN σ) = some (iN a.2.1) := by
  obtain ⟨-, -, -, -, h5, h6, -⟩ := h
  refine ⟨?_, ?_, ?_⟩
  · simp (disch := omega) only [f_X0_partOf, ↓nM_lit, iN_lit, iN_add, iN_mul, iN_lt, iN_le, iN_eq, iN_c, gd_iN, iN_nM, nM_iN, iN_ltM, nM_lt, nM_le, iN_leM, iN_0M, nM_p1, iN_0s1, decide_true, decide_eq_true_eq, Nat.not_lt_zero, if_true, if_false, eq_grd, eq_lb, eq_b1, eq_b2, eq_b3, eq_b4, eq_b5, show ¬ (288 ≤ σ) by omega, hσ, h5]
  · simp (disch := omega) only [f_X0_ruleOf, ↓nM_lit, iN_lit, iN_add, iN_mul, iN_lt, iN_le, iN_eq, iN_c, gd_iN, iN_nM, nM_iN, iN_ltM, nM_lt, nM_le, iN_leM, iN_0M, nM_p1, iN_0s1, decide_true, decide_eq_true_eq, Nat.not_lt_zero, if_true, if_false, eq_grd, eq_lb, eq_b1, eq_b2, eq_b3, eq_b4, eq_b5, show ¬ (288 ≤ σ) by omega, hσ, h5]
  · simp (disch := omega) only [f_X0_readingOf, ↓nM_lit, iN_lit, iN_add, iN_mul, iN_lt, iN_le, iN_eq, iN_c, gd_iN, iN_nM, nM_iN, iN_ltM, nM_lt, nM_le, iN_leM, iN_0M, nM_p1, iN_0s1, decide_true, decide_eq_true_eq, Nat.not_lt_zero, if_true, if_false, eq_grd, eq_lb, eq_b1, eq_b2, eq_b3, eq_b4, eq_b5, show ¬ (288 ≤ σ) by omega, hσ, h5, h6]
theorem X0_partB {x G : Ob} {g : Nat} {l r : Tr} {σ : Nat} (hg : g < 16) (h : RC x G (.branch g l r) σ) (hσ : σ < 288) : ∃ σl σr, f_X0_partOf x (iN σ) (iN 2) = some σr ∧ f_X0_partOf x (iN σ) (iN 1) = some (iN σl) ∧ f_X0_ruleOf x (iN σ) = some (iN g) ∧ σl < 288 ∧ RC x G l σl ∧ (G 24 g = nM → σr = nM) ∧ (G 24 g ≠ nM → ∃ q, q < 288 ∧ σr = iN q ∧ RC x G r q) := by
  obtain ⟨-, σl, σr, ⟨-, -, -, h5, h6, h7, -⟩, h1, h2, h3, h4⟩ := h
  refine ⟨σl, σr, ?_, ?_, ?_, h1, h2, fun hu => (h3 hu).1, h4⟩
  · simp (disch := omega) only [f_X0_partOf, ↓nM_lit, iN_lit, iN_add, iN_mul, iN_lt, iN_le, iN_eq, iN_c, gd_iN, iN_nM, nM_iN, iN_ltM, nM_lt, nM_le, iN_leM, iN_0M, nM_p1, iN_0s1, decide_true, decide_eq_true_eq, Nat.not_lt_zero, if_true, if_false, eq_grd, eq_lb, eq_b1, eq_b2, eq_b3, eq_b4, eq_b5, show ¬ (288 ≤ σ) by omega, hσ, h5, h7]
  · simp (disch := omega) only [f_X0_partOf, ↓nM_lit, iN_lit, iN_add, iN_mul, iN_lt, iN_le, iN_eq, iN_c, gd_iN, iN_nM, nM_iN, iN_ltM, nM_lt, nM_le, iN_leM, iN_0M, nM_p1, iN_0s1, decide_true, decide_eq_true_eq, Nat.not_lt_zero, if_true, if_false, eq_grd, eq_lb, eq_b1, eq_b2, eq_b3, eq_b4, eq_b5, show ¬ (288 ≤ σ) by omega, hσ, h5, h6, show ¬ (1 = 2) by decide]
  · simp (disch := omega) only [f_X0_ruleOf, ↓nM_lit, iN_lit, iN_add, iN_mul, iN_lt, iN_le, iN_eq, iN_c, gd_iN, iN_nM, nM_iN, iN_ltM, nM_lt, nM_le, iN_leM, iN_0M, nM_p1, iN_0s1, decide_true, decide_eq_true_eq, Nat.not_lt_zero, if_true, if_false, eq_grd, eq_lb, eq_b1, eq_b2, eq_b3, eq_b4, eq_b5, show ¬ (288 ≤ σ) by omega, hσ, h5]
/-- a row of edges -/
def NR (x G y : Ob) (l : List Tr) : Prop := y 0 0 = iN l.length ∧ ∀ i, i < l.length → ∃ σ, σ < 288 ∧ y 1 i = iN σ ∧ RC x G (l.getD i dum) σ
theorem NR_cg {x G y y' : Ob} {l : List Tr} (h0 : y' 0 = y 0) (h1 : y' 1 = y 1) (h : NR x G y l) : NR x G y' l := by
  unfold NR; rw [h0, h1]; exact h
theorem getD_last {α : Type} (l : List α) (t d : α) : (l ++ [t]).getD l.length d = t := by
  rw [List.getD_eq_getElem?_getD, List.getElem?_append_right (Nat.le_refl _), Nat.sub_self]; rfl
theorem getD_init {α : Type} {l m : List α} {d : α} {i : Nat} (h : i < l.length) : (l ++ m).getD i d = l.getD i d := by
  rw [List.getD_eq_getElem?_getD, List.getElem?_append_left h, ← List.getD_eq_getElem?_getD]
theorem NR_add {x G y : Ob} {l : List Tr} {t : Tr} {σ : Nat} (h : NR x G y l) (hσ : σ < 288) (hr : RC x G t σ) : NR x G (upo (upo y 1 l.length (iN σ)) 0 0 (iN (l.length + 1))) (l ++ [t]) := by
  refine ⟨?_, ?_⟩
  · rw [upo_ap, if_pos ⟨rfl, rfl⟩, List.length_append, List.length_singleton]
  · intro i hi
    rw [List.length_append, List.length_singleton] at hi
    rw [upo_ne (by decide), upo_ap]
    by_cases e : i = l.length
    · subst e
      rw [if_pos ⟨rfl, rfl⟩, getD_last]
      exact ⟨σ, hσ, rfl, hr⟩
    · rw [if_neg (fun h => e h.2), getD_init (by omega)]
      exact h.2 i (by omega)
theorem X9_grow_t {x G : Ob} (hG : WGr G) (t : Tr) : WT G t → ∀ (σ n o : Nat) (y : Ob) (ns : List Tr) (Q : Int32 × Ob → Prop), σ < 288 → RC x G t σ → o + tW t ≤ 6 → ns.length + (pre t).length ≤ 127 → NR x G y ns → y 2 o = iN σ →
    (∀ y', NR x G y' (ns ++ pre t) → (∀ j, j < o → y' 2 j = y 2 j) → wp (f_X9_grow_L26 n y' x (iN o)) Q) → wp (f_X9_grow_L26 (n + (pre t).length) y x (iN (o + 1))) Q := by
  have h16 := ng_le hG
  induction t with
  | leaf a =>
    intro hw σ n o y ns Q hσ hr ho hl hN h2 hk
    have hp := tW_pos _ hw
    rw [pre_leaf hw] at hl hk ⊢
    simp only [List.length_singleton] at hl ⊢
    obtain ⟨p2, -, -⟩ := X0_partL hr hσ (iN 2)
    obtain ⟨p1, -, -⟩ := X0_partL hr hσ (iN 1)
    simp (disch := omega) only [f_X9_grow_L26, f_X9_grow_J107, ↓nM_lit, iN_lit, iN_add, iN_mul, iN_lt, iN_le, iN_eq, iN_c, gd_iN, iN_nM, nM_iN, iN_ltM, nM_lt, nM_le, iN_leM, iN_0M, nM_p1, iN_0s1, decide_true, decide_eq_true_eq, Nat.not_lt_zero, if_true, if_false, wp_some, wp_grd, wp_lb, wp_ite, wp_b1, wp_b2, wp_b3, wp_b4, wp_b5, eq_grd, eq_lb, eq_b1, eq_b2, eq_b3, eq_b4, eq_b5, show ¬ (o + 1 ≤ 0) by omega, show ¬ (128 ≤ o + 1 + 1) by omega, hN.1, show ¬ (128 ≤ ns.length) by omega, iN_pM, Nat.add_sub_cancel, show o < 128 by omega, h2, show ns.length < 128 by omega, upo_ne (show (0 : Nat) ≠ 1 by decide), p2, p1, true_and]
    refine hk _ (NR_add hN hσ hr) ?_
    intro j _
    rw [upo_ne (by decide), upo_ne (by decide)]
  | branch g l r ihl ihr =>
    intro hw σ n o y ns Q hσ hr ho hl hN h2 hk
    obtain ⟨w1, w2, w3, w4, w5, w6⟩ := id hw
    have hp := tW_pos _ hw
    have hpl := tW_pos _ w2
    obtain ⟨σl, σr, p2, p1, -, q1, q2, q3, q4⟩ := X0_partB (show g < 16 by omega) hr hσ
    have hNa := NR_add hN hσ hr
    simp only [pre, List.length_cons, List.length_append] at hl ⊢
    rw [tW] at ho
    have efu : n + ((pre l).length + (pre r).length + 1) = (n + (pre r).length) + (pre l).length + 1 := by omega
    rw [efu]
    by_cases hu : G 24 g = nM
    · have er := w5 hu
      subst er
      rw [q3 hu] at p2
      rw [pre_dum] at hl ⊢
      simp only [List.length_nil, Nat.add_zero] at hl ⊢
      simp (disch := omega) only [f_X9_grow_L26, f_X9_grow_J107, ↓nM_lit, iN_lit, iN_add, iN_mul, iN_lt, iN_le, iN_eq, iN_c, gd_iN, iN_nM, nM_iN, iN_ltM, nM_lt, nM_le, iN_leM, iN_0M, nM_p1, iN_0s1, decide_true, decide_eq_true_eq, Nat.not_lt_zero, if_true, if_false, wp_some, wp_grd, wp_lb, wp_ite, wp_b1, wp_b2, wp_b3, wp_b4, wp_b5, eq_grd, eq_lb, eq_b1, eq_b2, eq_b3, eq_b4, eq_b5, show ¬ (o + 1 ≤ 0) by omega, show ¬ (128 ≤ o + 1 + 1) by omega, hN.1, show ¬ (128 ≤ ns.length) by omega, iN_pM, Nat.add_sub_cancel, show o < 128 by omega, h2, show ns.length < 128 by omega, upo_ne (show (0 : Nat) ≠ 1 by decide), p2, p1, true_and]
      refine ihl w2 σl n o _ (ns ++ [.branch g l dum]) Q q1 q2 (by omega) ?_ (NR_cg (upo_ne (by decide)) (upo_ne (by decide)) hNa) (by rw [upo_ap, if_pos ⟨rfl, rfl⟩]) ?_
      · rw [List.length_append, List.length_singleton]; omega
      · intro y' hy' hj
        refine hk y' ?_ ?_
        · rw [pre, pre_dum, List.append_nil]
          rw [List.append_assoc] at hy'
          exact hy'
        · intro j hjo
          rw [hj j hjo, upo_ap, if_neg (by omega), upo_ne (by decide), upo_ne (by decide)]
    · obtain ⟨v1, v2, v3⟩ := w6 hu
      have hpr := tW_pos _ v1
      obtain ⟨q, b1, b2, b3⟩ := q4 hu
      rw [b2] at p2
      simp (disch := omega) only [f_X9_grow_L26, f_X9_grow_J107, ↓nM_lit, iN_lit, iN_add, iN_mul, iN_lt, iN_le, iN_eq, iN_c, gd_iN, iN_nM, nM_iN, iN_ltM, nM_lt, nM_le, iN_leM, iN_0M, nM_p1, iN_0s1, decide_true, decide_eq_true_eq, Nat.not_lt_zero, if_true, if_false, wp_some, wp_grd, wp_lb, wp_ite, wp_b1, wp_b2, wp_b3, wp_b4, wp_b5, eq_grd, eq_lb, eq_b1, eq_b2, eq_b3, eq_b4, eq_b5, show ¬ (o + 1 ≤ 0) by omega, show ¬ (128 ≤ o + 1 + 1) by omega, hN.1, show ¬ (128 ≤ ns.length) by omega, iN_pM, Nat.add_sub_cancel, show o < 128 by omega, show o + 1 < 128 by omega, h2, show ns.length < 128 by omega, upo_ne (show (0 : Nat) ≠ 1 by decide), p2, p1, true_and]
      refine ihl w2 σl (n + (pre r).length) (o + 1) _ (ns ++ [.branch g l r]) Q q1 q2 (by omega) ?_ (NR_cg (y := upo (upo y 1 ns.length (iN σ)) 0 0 (iN (ns.length + 1))) (by rw [upo_ne (by decide), upo_ne (by decide)]) (by rw [upo_ne (by decide), upo_ne (by decide)]) hNa) (by rw [upo_ap, if_pos ⟨rfl, rfl⟩]) ?_
      · rw [List.length_append, List.length_singleton]; omega
      · intro y' hy' hj
        refine ihr v1 q n o y' _ Q b1 b3 (by omega) ?_ hy' ?_ ?_
        · rw [List.length_append, List.length_append, List.length_singleton]; omega
        · rw [hj o (by omega), upo_ap, if_neg (by omega), upo_ap, if_pos ⟨rfl, rfl⟩]
        · intro y2 hy2 hj2
          refine hk y2 ?_ ?_
          · rw [pre]
            rw [List.append_assoc, List.append_assoc] at hy2
            exact hy2
          · intro j hjo
            rw [hj2 j hjo, hj j (by omega), upo_ap, if_neg (by omega), upo_ap, if_neg (by omega), upo_ne (by decide), upo_ne (by decide)]
/-- the edges of the whole -/
def wL (G : Ob) (ch : Ch) (n : Nat) : List Tr := match wI G ch n with
  | none => []
  | some i => pre (wT ch n i)
theorem wT_W {G : Ob} {ch : Ch} (hW : WCh G ch) {n i : Nat} (h : wI G ch n = some i) : WT G (wT ch n i) ∧ tW (wT ch n i) ≤ 6 ∧ tB (wT ch n i) + tW (wT ch n i) ≤ 6 := by
  obtain ⟨a, b, -⟩ := wI_lt h
  obtain ⟨h1, -, h3⟩ := hW.1 _ _ (getD_mem b)
  exact ⟨h1, by show tW ((ch (n - 1)).getD i dum) ≤ 6; omega, h3⟩
theorem wL_len {G : Ob} (hG : WGr G) {ch : Ch} (hW : WCh G ch) (n : Nat) : (wL G ch n).length ≤ 110 := by
  unfold wL
  cases h : wI G ch n with
  | none => exact Nat.zero_le _
  | some i =>
    obtain ⟨h1, h2, -⟩ := wT_W hW h
    have := (pre_len hG _ h1).2
    obtain ⟨c, hc, e⟩ := tC_le hG _ h1
    have e1 : nn (tC G (wT ch n i)) = c := by rw [e, nn, iN_c (by omega)]
    simp only
    omega
theorem X9_grow {x G y : Ob} {ch : Ch} {n : Nat} (hG : WGr G) (hx : RCh x G ch) (hW : WCh G ch) (h0 : x 0 0 = iN n) (hn : n ≤ 6) :
    wp (f_X9_grow y x) (fun z => NR x G z (wL G ch n)) := by
  obtain ⟨h1, -⟩ := X0_whole hx hW h0 hn
  have hlen := wL_len hG hW n
  rw [f_X9_grow]
  simp only [wp_some, wp_grd, wp_lb, wp_ite, wp_b1, wp_b2, wp_b3, wp_b4, wp_b5, h1]
  have hN0 : NR x G (upo y 0 0 (iN 0)) [] := ⟨by rw [upo_ap, if_pos ⟨rfl, rfl⟩]; rfl, fun i hi => absurd hi (Nat.not_lt_zero i)⟩
  cases hw : wI G ch n with
  | none =>
    simp (disch := omega) only [oS, ↓nM_lit, iN_lit, iN_add, iN_mul, iN_lt, iN_le, iN_eq, iN_c, gd_iN, iN_nM, nM_iN, iN_ltM, nM_lt, nM_le, iN_leM, iN_0M, nM_p1, iN_0s1, decide_true, decide_eq_true_eq, Nat.not_lt_zero, if_true, if_false, f_X9_grow_J26, wp_some, wp_grd, wp_lb, wp_ite, wp_b1, wp_b2, wp_b3, wp_b4, wp_b5]
    rw [show (200 : Nat) = 199 + 1 from rfl, f_X9_grow_L26]
    simp (disch := omega) only [↓nM_lit, iN_lit, iN_add, iN_mul, iN_lt, iN_le, iN_eq, iN_c, gd_iN, iN_nM, nM_iN, iN_ltM, nM_lt, nM_le, iN_leM, iN_0M, nM_p1, iN_0s1, decide_true, decide_eq_true_eq, Nat.not_lt_zero, if_true, if_false, wp_some, wp_grd, wp_lb, wp_ite, wp_b1, wp_b2, wp_b3, wp_b4, wp_b5, Nat.le_refl, wL, hw]
    exact hN0
  | some i =>
    obtain ⟨a, b, -⟩ := wI_lt hw
    have h8 := hW.2 (n - 1)
    obtain ⟨t1, t2, t3⟩ := wT_W hW hw
    have hrc := (hx (n - 1) (by omega)).2 i b
    unfold wL at hlen ⊢
    rw [hw] at hlen ⊢
    simp only at hlen ⊢
    simp (disch := omega) only [oS, ↓nM_lit, iN_lit, iN_add, iN_mul, iN_lt, iN_le, iN_eq, iN_c, gd_iN, iN_nM, nM_iN, iN_ltM, nM_lt, nM_le, iN_leM, iN_0M, nM_p1, iN_0s1, decide_true, decide_eq_true_eq, Nat.not_lt_zero, if_true, if_false, f_X9_grow_J26, wp_some, wp_grd, wp_lb, wp_ite, wp_b1, wp_b2, wp_b3, wp_b4, wp_b5]
    have := X9_grow_t hG (wT ch n i) t1 (8 * (n - 1) + i) (200 - (pre (wT ch n i)).length) 0 (upo (upo y 0 0 (iN 0)) 2 0 (iN (8 * (n - 1) + i))) [] (fun r => NR x G r.2 (pre (wT ch n i))) (by omega) hrc (by omega) (by simp only [List.length_nil]; omega) (NR_cg (upo_ne (by decide)) (upo_ne (by decide)) hN0) (by rw [upo_ap, if_pos ⟨rfl, rfl⟩]) (by
      intro y' hy' _
      obtain ⟨m, hm⟩ : ∃ m, 200 - (pre (wT ch n i)).length = m + 1 := ⟨199 - (pre (wT ch n i)).length, by omega⟩
      rw [hm]
      simp (disch := omega) only [f_X9_grow_L26, ↓nM_lit, iN_lit, iN_add, iN_mul, iN_lt, iN_le, iN_eq, iN_c, gd_iN, iN_nM, nM_iN, iN_ltM, nM_lt, nM_le, iN_leM, iN_0M, nM_p1, iN_0s1, decide_true, decide_eq_true_eq, Nat.not_lt_zero, if_true, if_false, wp_some, wp_grd, wp_lb, wp_ite, wp_b1, wp_b2, wp_b3, wp_b4, wp_b5, Nat.le_refl]
      exact hy')
    rw [show 200 - (pre (wT ch n i)).length + (pre (wT ch n i)).length = 200 by omega] at this
    exact this
