/-! The cost by the rules anew. -/
theorem NR_at {x G y : Ob} {p : List Tr} {t : Tr} {s : List Tr} (h : NR x G y (p ++ t :: s)) : ∃ σ, σ < 288 ∧ y 1 p.length = iN σ ∧ RC x G t σ := by
  obtain ⟨σ, h1, h2, h3⟩ := h.2 p.length (by rw [List.length_append, List.length_cons]; omega)
  rw [getD_mid] at h3
  exact ⟨σ, h1, h2, h3⟩
theorem i32_r3 (u a b : Int32) : u + a + b = a + b + u := by rw [Int32.add_assoc, Int32.add_comm]
theorem X9_step1 {x G x2 : Ob} (hG : WGr G) (hx2 : QX2 x2 G) {g : Nat} {l : Tr} (hw : WT G (.branch g l dum)) (hu : G 24 g = nM) {σ k o n : Nat} {y q2 : Ob} (hσ : σ < 288) (hr : RC x G (.branch g l dum) σ) (hk : k < 128) (ho : o ≤ 6) (e1 : y 1 k = iN σ) (hq : ∀ k, k ≠ 12 → k ≠ 13 → k ≠ 14 → q2 k = x2 k) (h3 : y 3 o = iN (tF G l)) (h4 : y 4 o = tK G l) {Q : Nat × Int32 × Int32 × Ob × Ob → Prop}
    (hc : ∀ y' q2', y' 0 = y 0 → y' 1 = y 1 → (∀ k, k ≠ 12 → k ≠ 13 → k ≠ 14 → q2' k = x2 k) → y' 3 o = iN (tF G (.branch g l dum)) → y' 4 o = tK G (.branch g l dum) → (∀ j, j < o → y' 3 j = y 3 j ∧ y' 4 j = y 4 j) → wp (f_X9_priceAnew_L10 n y' x q2' (iN (o + 1)) (iD k)) Q) :
    wp (f_X9_priceAnew_L10 (n + 1) y x q2 (iN (o + 1)) (iN k)) Q := by
  have h16 := ng_le hG
  obtain ⟨w1, w2, w3, w4, w5, w6⟩ := id hw
  have fl := tF_lt hG l w2
  obtain ⟨σl, σr, p2, p1, pr, -, -, q3, -⟩ := X0_partB (show g < 16 by omega) hr hσ
  rw [q3 hu] at p2
  have hux := X2_unify (RX2_cg hq hx2) hG w1 fl (show (0 : Nat) < 64 by decide)
  simp (disch := omega) only [f_X9_priceAnew_L10, ↓nM_lit, iN_lit, iN_add, iN_mul, iN_lt, iN_le, iN_eq, iN_c, gd_iN, iN_nM, nM_iN, iN_ltM, nM_lt, nM_le, iN_leM, iN_0M, nM_p1, iN_0s1, decide_true, decide_eq_true_eq, Nat.not_lt_zero, if_true, if_false, wp_some, wp_grd, wp_lb, wp_ite, wp_b1, wp_b2, wp_b3, wp_b4, wp_b5, eq_grd, eq_lb, eq_b1, eq_b2, eq_b3, eq_b4, eq_b5, hk, e1, pr, p2, f_X9_priceAnew_J79, show 1 ≤ o + 1 by omega, iN_sub (show 1 ≤ o + 1 by omega), Nat.add_sub_cancel, f_X9_useAnew, f_X9_useAnew_J55, f_X10_isBelow, iN_s1 (show 0 < o + 1 by omega), show ¬ (128 ≤ o) by omega, show ¬ (1 = 0) by decide, show o < 128 by omega, show ¬ (1 = 2) by decide, h3, true_and]
  refine wp_mono hux ?_
  rintro ⟨z1, z2⟩ ⟨b1, b2⟩
  simp only at b1 b2 ⊢
  cases hun : uni G g (tF G l) 0 with
  | none => rw [show tF G dum = 0 from rfl, hun] at w4; cases w4
  | some u =>
    rw [hun] at b2
    obtain ⟨-, c2, c3, -⟩ := b2
    simp (disch := omega) only [↓nM_lit, iN_lit, iN_add, iN_mul, iN_lt, iN_le, iN_eq, iN_c, gd_iN, iN_nM, nM_iN, iN_ltM, nM_lt, nM_le, iN_leM, iN_0M, nM_p1, iN_0s1, decide_true, decide_eq_true_eq, Nat.not_lt_zero, if_true, if_false, wp_some, wp_grd, wp_lb, wp_ite, wp_b1, wp_b2, wp_b3, wp_b4, wp_b5, eq_grd, eq_lb, eq_b1, eq_b2, eq_b3, eq_b4, eq_b5, f_X2_parentFeatures, c2, c3, h4, iD_pM]
    refine hc _ z2 (by rw [upo_ne (by decide), upo_ne (by decide)]) (by rw [upo_ne (by decide), upo_ne (by decide)]) (fun k k1 k2 k3 => by rw [b1 k k1 k2 k3]; exact hq k k1 k2 k3) ?_ ?_ ?_
    · rw [upo_ap, if_pos ⟨rfl, rfl⟩, tF, show tF G dum = 0 from rfl, hun]; rfl
    · rw [upo_ne (by decide), upo_ap, if_pos ⟨rfl, rfl⟩, tK, show tF G dum = 0 from rfl, hun, i32_r3]; rfl
    · intro j hjo
      rw [upo_ap, if_neg (by omega), upo_ne (by decide), upo_ne (by decide), upo_ap, if_neg (by omega)]
      exact ⟨rfl, rfl⟩
theorem X9_step2 {x G x2 : Ob} (hG : WGr G) (hx2 : QX2 x2 G) {g : Nat} {l r : Tr} (hw : WT G (.branch g l r)) (hu : G 24 g ≠ nM) {σ k o n : Nat} {y q2 : Ob} (hσ : σ < 288) (hr : RC x G (.branch g l r) σ) (hk : k < 128) (ho : o ≤ 6) (e1 : y 1 k = iN σ) (hq : ∀ k, k ≠ 12 → k ≠ 13 → k ≠ 14 → q2 k = x2 k) (h3 : y 3 (o + 1) = iN (tF G l)) (h4 : y 4 (o + 1) = tK G l) (j3 : y 3 o = iN (tF G r)) (j4 : y 4 o = tK G r) {Q : Nat × Int32 × Int32 × Ob × Ob → Prop}
    (hc : ∀ y' q2', y' 0 = y 0 → y' 1 = y 1 → (∀ k, k ≠ 12 → k ≠ 13 → k ≠ 14 → q2' k = x2 k) → y' 3 o = iN (tF G (.branch g l r)) → y' 4 o = tK G (.branch g l r) → (∀ j, j < o → y' 3 j = y 3 j ∧ y' 4 j = y 4 j) → wp (f_X9_priceAnew_L10 n y' x q2' (iN (o + 1)) (iD k)) Q) :
    wp (f_X9_priceAnew_L10 (n + 1) y x q2 (iN (o + 1 + 1)) (iN k)) Q := by
  have h16 := ng_le hG
  obtain ⟨w1, w2, w3, w4, w5, w6⟩ := id hw
  have fl := tF_lt hG l w2
  have fr := tF_lt hG r (w6 hu).1
  obtain ⟨σl, σr, p2, p1, pr, -, -, -, q4⟩ := X0_partB (show g < 16 by omega) hr hσ
  obtain ⟨q, b1, b2, b3⟩ := q4 hu
  rw [b2] at p2
  have hux := X2_unify (RX2_cg hq hx2) hG w1 fl fr
  have es : iN (o + 1 + 1) - iN 2 = iN o := by rw [iN_sub (by omega)]; rfl
  have es2 : iN (o + 2) - iN 1 = iN (o + 1) := by rw [iN_sub (by omega)]; rfl
  simp (disch := omega) only [f_X9_priceAnew_L10, ↓nM_lit, iN_lit, iN_add, iN_mul, iN_lt, iN_le, iN_eq, iN_c, gd_iN, iN_nM, nM_iN, iN_ltM, nM_lt, nM_le, iN_leM, iN_0M, nM_p1, iN_0s1, decide_true, decide_eq_true_eq, Nat.not_lt_zero, if_true, if_false, wp_some, wp_grd, wp_lb, wp_ite, wp_b1, wp_b2, wp_b3, wp_b4, wp_b5, eq_grd, eq_lb, eq_b1, eq_b2, eq_b3, eq_b4, eq_b5, hk, e1, pr, p2, f_X9_priceAnew_J79, show 2 ≤ o + 1 + 1 by omega, es, true_and]
  simp (disch := omega) only [↓nM_lit, iN_lit, iN_add, iN_mul, iN_lt, iN_le, iN_eq, iN_c, gd_iN, iN_nM, nM_iN, iN_ltM, nM_lt, nM_le, iN_leM, iN_0M, nM_p1, iN_0s1, decide_true, decide_eq_true_eq, Nat.not_lt_zero, if_true, if_false, wp_some, wp_grd, wp_lb, wp_ite, wp_b1, wp_b2, wp_b3, wp_b4, wp_b5, eq_grd, eq_lb, eq_b1, eq_b2, eq_b3, eq_b4, eq_b5, f_X9_useAnew, f_X9_useAnew_J55, f_X10_isBelow, es2, show ¬ (128 ≤ o) by omega, show ¬ (128 ≤ o + 1) by omega, show ¬ (1 = 0) by decide, show o < 128 by omega, show o + 1 < 128 by omega, h3, j3, true_and]
  refine wp_mono hux ?_
  rintro ⟨z1, z2⟩ ⟨c1, c2⟩
  simp only at c1 c2 ⊢
  cases hun : uni G g (tF G l) (tF G r) with
  | none => rw [hun] at w4; cases w4
  | some u =>
    rw [hun] at c2
    obtain ⟨-, d2, d3, -⟩ := c2
    simp (disch := omega) only [↓nM_lit, iN_lit, iN_add, iN_mul, iN_lt, iN_le, iN_eq, iN_c, gd_iN, iN_nM, nM_iN, iN_ltM, nM_lt, nM_le, iN_leM, iN_0M, nM_p1, iN_0s1, decide_true, decide_eq_true_eq, Nat.not_lt_zero, if_true, if_false, wp_some, wp_grd, wp_lb, wp_ite, wp_b1, wp_b2, wp_b3, wp_b4, wp_b5, eq_grd, eq_lb, eq_b1, eq_b2, eq_b3, eq_b4, eq_b5, f_X2_parentFeatures, d2, d3, h4, j4, iD_pM]
    refine hc _ z2 (by rw [upo_ne (by decide), upo_ne (by decide)]) (by rw [upo_ne (by decide), upo_ne (by decide)]) (fun k k1 k2 k3 => by rw [c1 k k1 k2 k3]; exact hq k k1 k2 k3) ?_ ?_ ?_
    · rw [upo_ap, if_pos ⟨rfl, rfl⟩, tF, hun]; rfl
    · rw [upo_ne (by decide), upo_ap, if_pos ⟨rfl, rfl⟩, tK, hun, i32_r3]; rfl
    · intro j hjo
      rw [upo_ap, if_neg (by omega), upo_ne (by decide), upo_ne (by decide), upo_ap, if_neg (by omega)]
      exact ⟨rfl, rfl⟩
theorem X9_price_t {x G x2 : Ob} (hG : WGr G) (hx2 : QX2 x2 G) (t : Tr) : WT G t → ∀ (p s : List Tr) (n o : Nat) (y q2 : Ob) (Q : Nat × Int32 × Int32 × Ob × Ob → Prop), p.length + (pre t).length ≤ 127 → o + tW t ≤ 6 → NR x G y (p ++ (pre t ++ s)) → (∀ k, k ≠ 12 → k ≠ 13 → k ≠ 14 → q2 k = x2 k) →
    (∀ y' q2', y' 0 = y 0 → y' 1 = y 1 → (∀ k, k ≠ 12 → k ≠ 13 → k ≠ 14 → q2' k = x2 k) → y' 3 o = iN (tF G t) → y' 4 o = tK G t → (∀ j, j < o → y' 3 j = y 3 j ∧ y' 4 j = y 4 j) → wp (f_X9_priceAnew_L10 n y' x q2' (iN (o + 1)) (iD p.length)) Q) →
    wp (f_X9_priceAnew_L10 (n + (pre t).length) y x q2 (iN o) (iD (p.length + (pre t).length))) Q := by
  induction t with
  | leaf a =>
    intro hw p s n o y q2 Q hl ho hN hq hk
    have hp := tW_pos _ hw
    rw [pre_leaf hw] at hl hN ⊢
    simp only [List.length_singleton] at hl ⊢
    rw [iD_s]
    obtain ⟨σ, hσ, e1, hr⟩ := NR_at hN
    obtain ⟨-, p2, -⟩ := X0_partL hr hσ (iN 2)
    obtain ⟨-, f2, -⟩ := X0_get hr hσ
    simp (disch := omega) only [f_X9_priceAnew_L10, ↓nM_lit, iN_lit, iN_add, iN_mul, iN_lt, iN_le, iN_eq, iN_c, gd_iN, iN_nM, nM_iN, iN_ltM, nM_lt, nM_le, iN_leM, iN_0M, nM_p1, iN_0s1, decide_true, decide_eq_true_eq, Nat.not_lt_zero, if_true, if_false, wp_some, wp_grd, wp_lb, wp_ite, wp_b1, wp_b2, wp_b3, wp_b4, wp_b5, eq_grd, eq_lb, eq_b1, eq_b2, eq_b3, eq_b4, eq_b5, show p.length < 128 by omega, e1, p2, f2, show o < 128 by omega, iD_pM, true_and]
    refine hk _ q2 (by rw [upo_ne (by decide), upo_ne (by decide)]) (by rw [upo_ne (by decide), upo_ne (by decide)]) hq (by rw [upo_ne (by decide), upo_ap, if_pos ⟨rfl, rfl⟩]) (by rw [upo_ap, if_pos ⟨rfl, rfl⟩]; rfl) ?_
    intro j hj
    rw [upo_ne (by decide), upo_ap, if_neg (by omega), upo_ap, if_neg (by omega), upo_ne (by decide)]
    exact ⟨rfl, rfl⟩
  | branch g l r ihl ihr =>
    intro hw p s n o y q2 Q hl ho hN hq hk
    obtain ⟨w1, w2, w3, w4, w5, w6⟩ := id hw
    have hpl := tW_pos _ w2
    rw [tW] at ho
    simp only [pre, List.cons_append] at hN
    obtain ⟨σ, hσ, e1, hr⟩ := NR_at hN
    simp only [pre, List.length_cons, List.length_append] at hl ⊢
    have bl : (p ++ [Lean.RArray.branch g l r]).length = p.length + 1 := by rw [List.length_append, List.length_singleton]
    by_cases hu : G 24 g = nM
    · have er := w5 hu
      subst er
      rw [pre_dum] at hl hN ⊢
      rw [List.append_nil] at hN
      simp only [List.length_nil, Nat.add_zero] at hl ⊢
      have hN2 : NR x G y ((p ++ [Lean.RArray.branch g l dum]) ++ (pre l ++ s)) := by rw [List.append_assoc, List.singleton_append]; exact hN
      have := ihl w2 (p ++ [Lean.RArray.branch g l dum]) s (n + 1) o y q2 Q (by omega) (by omega) hN2 hq ?_
      · rw [bl] at this
        rw [show n + ((pre l).length + 1) = n + 1 + (pre l).length by omega, show p.length + ((pre l).length + 1) = p.length + 1 + (pre l).length by omega]
        exact this
      · intro y' q2b h0 h1 hqb h3 h4 hj
        rw [bl, iD_s]
        refine X9_step1 hG hx2 hw hu hσ hr (by omega) (by omega) (by rw [h1]; exact e1) hqb h3 h4 ?_
        intro z qz z0 z1 z2 z3 z4 zj
        refine hk z qz (by rw [z0, h0]) (by rw [z1, h1]) z2 z3 z4 ?_
        intro j hjo
        rw [(zj j hjo).1, (zj j hjo).2]
        exact hj j hjo
    · obtain ⟨v1, v2, v3⟩ := w6 hu
      have hpr := tW_pos _ v1
      rw [List.append_assoc] at hN
      have hN2 : NR x G y ((p ++ [Lean.RArray.branch g l r]) ++ (pre l ++ (pre r ++ s))) := by rw [List.append_assoc, List.singleton_append]; exact hN
      have hN3 : NR x G y ((p ++ [Lean.RArray.branch g l r] ++ pre l) ++ (pre r ++ s)) := by rw [List.append_assoc]; exact hN2
      have brl : (p ++ [Lean.RArray.branch g l r] ++ pre l).length = p.length + 1 + (pre l).length := by rw [List.length_append, bl]
      have := ihr v1 (p ++ [Lean.RArray.branch g l r] ++ pre l) s (n + 1 + (pre l).length) o y q2 Q (by omega) (by omega) hN3 hq ?_
      · rw [brl] at this
        rw [show n + ((pre l).length + (pre r).length + 1) = n + 1 + (pre l).length + (pre r).length by omega, show p.length + ((pre l).length + (pre r).length + 1) = p.length + 1 + (pre l).length + (pre r).length by omega]
        exact this
      · intro ya qa ha0 ha1 hqa ha3 ha4 haj
        rw [brl, ← bl]
        refine ihl w2 (p ++ [Lean.RArray.branch g l r]) (pre r ++ s) (n + 1) (o + 1) ya qa Q (by omega) (by omega) (NR_cg ha0 ha1 hN2) hqa ?_
        intro y' q2b h0 h1 hqb h3 h4 hj
        rw [bl, iD_s]
        obtain ⟨j3, j4⟩ := hj o (Nat.lt_succ_self o)
        refine X9_step2 hG hx2 hw hu hσ hr (by omega) (by omega) (by rw [h1, ha1]; exact e1) hqb h3 h4 (by rw [j3]; exact ha3) (by rw [j4]; exact ha4) ?_
        intro z qz z0 z1 z2 z3 z4 zj
        refine hk z qz (by rw [z0, h0, ha0]) (by rw [z1, h1, ha1]) z2 z3 z4 ?_
        intro j hjo
        rw [(zj j hjo).1, (zj j hjo).2, (hj j (by omega)).1, (hj j (by omega)).2]
        exact haj j hjo
theorem X9_price {x G x2 y q2 : Ob} {ch : Ch} {n : Nat} (hG : WGr G) (hx2 : QX2 x2 G) (hq : ∀ k, k ≠ 12 → k ≠ 13 → k ≠ 14 → q2 k = x2 k) (hW : WCh G ch) (hN : NR x G y (wL G ch n)) :
    wp (f_X9_priceAnew y x q2) (fun r => r.1 = wK G ch n ∧ ∀ k, k ≠ 12 → k ≠ 13 → k ≠ 14 → r.2.2 k = x2 k) := by
  have hlen := wL_len hG hW n
  have e0 : y 0 0 - iN 1 = iD (wL G ch n).length := by rw [hN.1]; rfl
  rw [f_X9_priceAnew]
  simp only [wp_some, wp_grd, wp_lb, wp_ite, wp_b1, wp_b2, wp_b3, wp_b4, wp_b5, iN_lit, e0]
  unfold wL at hlen hN ⊢
  unfold wK
  cases hw : wI G ch n with
  | none =>
    simp only [List.length_nil]
    rw [iD_0, show (200 : Nat) = 199 + 1 from rfl, f_X9_priceAnew_L10]
    simp (disch := omega) only [↓nM_lit, iN_lit, iN_add, iN_mul, iN_lt, iN_le, iN_eq, iN_c, gd_iN, iN_nM, nM_iN, iN_ltM, nM_lt, nM_le, iN_leM, iN_0M, nM_p1, iN_0s1, decide_true, decide_eq_true_eq, Nat.not_lt_zero, if_true, if_false, wp_some, wp_grd, wp_lb, wp_ite, wp_b1, wp_b2, wp_b3, wp_b4, wp_b5, show ¬ (0 = 1) by decide]
    exact ⟨trivial, hq⟩
  | some i =>
    rw [hw] at hlen hN
    simp only at hlen hN ⊢
    obtain ⟨t1, t2, t3⟩ := wT_W hW hw
    have := X9_price_t (x := x) hG hx2 (wT ch n i) t1 [] [] (200 - (pre (wT ch n i)).length) 0 y q2 (fun a => if a.1 = 1 then if a.2.1 = iN 1 then a.2.2.2.1 4 (iN 0).toNatClampNeg = tK G (wT ch n i) ∧ ∀ k, k ≠ 12 → k ≠ 13 → k ≠ 14 → a.2.2.2.2 k = x2 k else iN 1000 = tK G (wT ch n i) ∧ ∀ k, k ≠ 12 → k ≠ 13 → k ≠ 14 → a.2.2.2.2 k = x2 k else iN 1000 = tK G (wT ch n i) ∧ ∀ k, k ≠ 12 → k ≠ 13 → k ≠ 14 → a.2.2.2.2 k = x2 k) (by simp only [List.length_nil]; omega) (by omega) (by rw [List.nil_append, List.append_nil]; exact hN) hq (by
      intro y' q2' h0 h1 hqb h3 h4 hj
      obtain ⟨m, hm⟩ : ∃ m, 200 - (pre (wT ch n i)).length = m + 1 := ⟨199 - (pre (wT ch n i)).length, by omega⟩
      rw [hm, List.length_nil, iD_0, f_X9_priceAnew_L10]
      simp (disch := omega) only [↓nM_lit, iN_lit, iN_add, iN_mul, iN_lt, iN_le, iN_eq, iN_c, gd_iN, iN_nM, nM_iN, iN_ltM, nM_lt, nM_le, iN_leM, iN_0M, nM_p1, iN_0s1, decide_true, decide_eq_true_eq, Nat.not_lt_zero, if_true, if_false, wp_some, wp_grd, wp_lb, wp_ite, wp_b1, wp_b2, wp_b3, wp_b4, wp_b5]
      exact ⟨h4, hqb⟩)
    rw [show 200 - (pre (wT ch n i)).length + (pre (wT ch n i)).length = 200 by omega, List.length_nil, Nat.zero_add] at this
    refine wp_mono this ?_
    rintro ⟨a1, a2, a3, a4, a5⟩ ha
    by_cases c1 : a1 = 1 <;> by_cases c2 : a2 = iN 1 <;> simp only [c1, c2, if_true, if_false, wp_ite, wp_some] at ha ⊢ <;> exact ha
