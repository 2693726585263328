theorem X2_unify {x G : Ob} (hx : QX2 x G) (hG : WGr G) {g : Nat} (hg : g < nn (G 21 0)) {lf rf : Nat} (hl : lf < 64) (hr : rf < 64) :
    wp (f_X2_unify x (iN g) (iN lf) (iN rf)) (fun r => (∀ k, k ≠ 12 → k ≠ 13 → k ≠ 14 → r.2 k = x k) ∧ match uni G g lf rf with | none => r.1 = iN 0 | some u => r.1 = iN 1 ∧ r.2 12 0 = iN (pf u) ∧ r.2 13 0 = u.2.1 ∧ r.2 14 0 = iN (rlN u.2.2 3)) := by
  obtain ⟨⟨ng, hng, eng⟩, hq⟩ := id hG
  have hg16 : g < ng := by rw [eng, nn, iN_c (by omega)] at hg; exact hg
  obtain ⟨-, -, -, n, hn, en, he⟩ := hq g hg
  have enn : nn (G 26 g) = n := by rw [en, nn, iN_c (by omega)]
  have f5 : ∀ k, k ≠ 12 → k ≠ 13 → k ≠ 14 → upo (upo (upo (upo (upo x 12 0 (iN 0)) 12 1 (iN lf)) 12 2 (iN rf)) 13 0 (iN 0)) 14 0 (iN 0) k = x k := by
    intro k k1 k2 k3; rw [upo_ne k3, upo_ne k2, upo_ne k1, upo_ne k1, upo_ne k1]
  have h5 : SU x 0 (u0 lf rf) (upo (upo (upo (upo (upo x 12 0 (iN 0)) 12 1 (iN lf)) 12 2 (iN rf)) 13 0 (iN 0)) 14 0 (iN 0)) := by
    refine ⟨f5, ?_, ?_, ?_⟩
    · intro a ha
      rw [upo_ne (by decide), upo_ne (by decide), upo_ap, upo_ap, upo_ap]
      match a, ha with
      | 0, _ => simp [u0, pkv, pk3]
      | 1, _ =>
        have := fv_pk hl
        rw [if_neg (by decide), if_pos ⟨rfl, rfl⟩]
        show iN lf = iN (pkv (fv lf))
        rw [this]
      | 2, _ =>
        have := fv_pk hr
        rw [if_pos ⟨rfl, rfl⟩]
        show iN rf = iN (pkv (fv rf))
        rw [this]
    · rw [upo_ne (by decide), upo_ap, if_pos ⟨rfl, rfl⟩]; rfl
    · rw [upo_ap, if_pos ⟨rfl, rfl⟩]; rfl
  have e0 : upo (upo (upo (upo (upo x 12 0 (iN 0)) 12 1 (iN lf)) 12 2 (iN rf)) 13 0 (iN 0)) 14 0 (iN 0) 0 0 = iN ng := by rw [f5 0 (by decide) (by decide) (by decide), hx.1, eng]
  generalize hy5 : upo (upo (upo (upo (upo x 12 0 (iN 0)) 12 1 (iN lf)) 12 2 (iN rf)) 13 0 (iN 0)) 14 0 (iN 0) = y5 at f5 h5 e0
  have key : wp (f_X2_unify_L48 200 y5 (iN g) (iN 0)) (fun r => (∀ k, k ≠ 12 → k ≠ 13 → k ≠ 14 → r.2.2 k = x k) ∧ match uni G g lf rf with | none => r.1 = 2 | some u => r.1 = 1 ∧ SU x n u r.2.2) := by
    refine lp_up (F := fun f (y : Ob) i => f_X2_unify_L48 f y (iN g) i) (V := fun e y => ∃ u, uNn G g e (u0 lf rf) = some u ∧ SU x e u y) (hi := n) ?_ 200 0 y5 (by omega) (by omega) ⟨_, rfl, h5⟩
    intro f y i hi hv hk
    obtain ⟨u, hu, hy⟩ := hv
    have y7 : y 7 g = iN n := by rw [hy.1 7 (by decide) (by decide) (by decide), (hx.2.1 g (by omega)).2.2.2.2, en]
    have hB := UB_n hG hg (show i ≤ nn (G 26 g) by omega) hu
    by_cases he2 : i = n
    · subst he2
      simp (disch := omega) only [f_X2_unify_L48, y7, ↓nM_lit, iN_lit, iN_add, iN_mul, iN_lt, iN_le, iN_eq, iN_c, gd_iN, iN_nM, nM_iN, iN_ltM, nM_lt, nM_le, iN_leM, iN_0M, nM_p1, iN_0s1, decide_true, decide_eq_true_eq, Nat.not_lt_zero, if_true, if_false, wp_some, wp_grd, wp_lb, wp_ite, wp_b1, wp_b2, wp_b3, wp_b4, wp_b5, eq_grd, eq_lb, eq_b1, eq_b2, eq_b3, eq_b4, eq_b5, show g < 16 by omega, Nat.le_refl, true_and]
      refine ⟨hy.1, ?_⟩
      rw [uni, enn, hu]
      exact hy
    · have hi3 : i < 3 := by omega
      obtain ⟨φ, a, b, c, w1, w2, w3, w4, w5, w6, q1, q2, q3, q4⟩ := he i (by omega)
      have hx8 := (hx.2.2 (3 * g + i) (by omega))
      have y9 : y 9 (g * 3 + i) = iN a := by rw [hy.1 9 (by decide) (by decide) (by decide), Nat.mul_comm, hx8.2.1, q2]
      have y10 : y 10 (g * 3 + i) = iN b := by rw [hy.1 10 (by decide) (by decide) (by decide), Nat.mul_comm, hx8.2.2.1, q3]
      simp (disch := omega) only [f_X2_unify_L48, y7, ↓nM_lit, iN_lit, iN_add, iN_mul, iN_lt, iN_le, iN_eq, iN_c, gd_iN, iN_nM, nM_iN, iN_ltM, nM_lt, nM_le, iN_leM, iN_0M, nM_p1, iN_0s1, decide_true, decide_eq_true_eq, Nat.not_lt_zero, if_true, if_false, wp_some, wp_grd, wp_lb, wp_ite, wp_b1, wp_b2, wp_b3, wp_b4, wp_b5, eq_grd, eq_lb, eq_b1, eq_b2, eq_b3, eq_b4, eq_b5, show g < 16 by omega, show ¬ (n ≤ i) by omega, show ¬ (3 ≤ i) by omega, show g * 3 + i < 48 by omega, y9, y10, true_and]
      refine wp_mono (X2_settle hx hi3 (show g < 16 by omega) w1 w2 w3 w4 w6 q1 q2 q3 q4 hB hy) ?_
      intro r hr
      obtain ⟨r1, r2⟩ := hr
      have est : uSt G g i u = uSt1 φ a b (iN c) i u := by
        rw [uSt, q1, q2, q3, q4, nn, nn, nn, iN_c (by omega), iN_c (by omega), iN_c (by omega)]
      have enx : uNn G g (i + 1) (u0 lf rf) = uSt1 φ a b (iN c) i u := by rw [uNn, hu]; exact est
      cases hs : uSt1 φ a b (iN c) i u with
      | none =>
        rw [hs] at r2 enx
        have dead : ∀ m, i + 1 ≤ m → uNn G g m (u0 lf rf) = none := by
          intro m hm
          induction m with
          | zero => omega
          | succ m im =>
            by_cases e : m = i
            · subst e; exact enx
            · rw [uNn, im (by omega)]
        simp only [r2, if_true, wp_some, wp_grd, wp_lb, wp_ite, wp_b1, wp_b2, wp_b3, wp_b4, wp_b5]
        refine ⟨r1, ?_⟩
        rw [uni, enn, dead n (by omega)]
        exact trivial
      | some u' =>
        rw [hs] at r2 enx
        simp (disch := omega) only [r2.1, ↓nM_lit, iN_lit, iN_add, iN_mul, iN_lt, iN_le, iN_eq, iN_c, gd_iN, iN_nM, nM_iN, iN_ltM, nM_lt, nM_le, iN_leM, iN_0M, nM_p1, iN_0s1, decide_true, decide_eq_true_eq, Nat.not_lt_zero, if_true, if_false, wp_some, wp_grd, wp_lb, wp_ite, wp_b1, wp_b2, wp_b3, wp_b4, wp_b5, show ¬ (1 = 0) by decide]
        exact hk r.2 (by omega) ⟨u', enx, r2.2⟩
  simp (disch := omega) only [f_X2_unify, ↓nM_lit, iN_lit, iN_add, iN_mul, iN_lt, iN_le, iN_eq, iN_c, gd_iN, iN_nM, nM_iN, iN_ltM, nM_lt, nM_le, iN_leM, iN_0M, nM_p1, iN_0s1, decide_true, decide_eq_true_eq, Nat.not_lt_zero, if_true, if_false, wp_some, wp_grd, wp_lb, wp_ite, wp_b1, wp_b2, wp_b3, wp_b4, wp_b5, hy5, e0, hg16]
  refine wp_mono key ?_
  intro r hr
  obtain ⟨r1, r2⟩ := hr
  cases hs : uni G g lf rf with
  | none =>
    rw [hs] at r2
    simp only [r2, show ¬ (2 = 1) by decide, if_false, wp_some, wp_grd, wp_lb, wp_ite, wp_b1, wp_b2, wp_b3, wp_b4, wp_b5]
    exact ⟨r1, trivial⟩
  | some u =>
    rw [hs] at r2
    obtain ⟨r3, r4⟩ := r2
    simp only [r3, if_true, wp_some, wp_grd, wp_lb, wp_ite, wp_b1, wp_b2, wp_b3, wp_b4, wp_b5]
    refine ⟨r1, trivial, ?_, r4.2.2.1, ?_⟩
    · exact r4.2.1 0 (by omega)
    · have hB : UB n u := UB_n hG hg (by omega) (by rw [uni, enn] at hs; exact hs)
      have out : ∀ d, n + d ≤ 3 → rlN u.2.2 (n + d) = rlN u.2.2 n := by
        intro d
        induction d with
        | zero => intro _; rfl
        | succ d id' => intro h; rw [← Nat.add_assoc, rlN, id' (by omega), hB.2.2.1 (n + d) (by omega)]; omega
      have := out (3 - n) (by omega)
      rw [show n + (3 - n) = 3 by omega] at this
      rw [this]; exact r4.2.2.2
/-- the reference's use of a rule -/
def dec (f : Nat) : Nat := 100 * fv f 0 + 10 * fv f 1 + fv f 2
theorem dec_get {f : Nat} (hf : f < 64) : iN (dec f) / iN 100 = iN (fv f 0) ∧ iN (dec f) / iN 10 - iN (dec f) / iN 10 / iN 10 * iN 10 = iN (fv f 1) ∧ iN (dec f) - iN (dec f) / iN 10 * iN 10 = iN (fv f 2) := by
  have := b64_s (P := fun f => decide (iN (dec f) / iN 100 = iN (fv f 0) ∧ iN (dec f) / iN 10 - iN (dec f) / iN 10 / iN 10 * iN 10 = iN (fv f 1) ∧ iN (dec f) - iN (dec f) / iN 10 * iN 10 = iN (fv f 2))) (by decide +kernel) hf
  exact of_decide_eq_true this
theorem dec_inj {f g : Nat} (hf : f < 64) (hg : g < 64) : iN (dec f) = iN (dec g) ↔ f = g := by
  have := b64_s (P := fun f => b64 (fun g => decide (iN (dec f) = iN (dec g) ↔ f = g))) (by decide +kernel) hf
  exact of_decide_eq_true (b64_s this hg)
theorem X11_load {M : Ob} {d : Nat} {id f : Nat} (hd : d ≤ 2) (hid : id < 40000) (hf : f < 64) (e : M 33 id = iN (dec f)) :
    wp (f_X11_load M (iN d) (iN id)) (fun y => (∀ k, k ≠ 41 → y k = M k) ∧ (∀ φ, φ < 3 → y 41 (3 * d + φ) = iN (fv f φ)) ∧ ∀ i, (i < 3 * d ∨ 3 * d + 3 ≤ i) → y 41 i = M 41 i) := by
  obtain ⟨d0, d1, d2⟩ := dec_get hf
  simp (disch := omega) only [f_X11_load, ↓nM_lit, iN_lit, iN_add, iN_mul, iN_lt, iN_le, iN_eq, iN_c, gd_iN, iN_nM, nM_iN, iN_ltM, nM_lt, nM_le, iN_leM, iN_0M, nM_p1, iN_0s1, decide_true, decide_eq_true_eq, Nat.not_lt_zero, if_true, if_false, wp_some, wp_grd, wp_lb, wp_ite, wp_b1, wp_b2, wp_b3, wp_b4, wp_b5, eq_grd, eq_lb, eq_b1, eq_b2, eq_b3, eq_b4, eq_b5, hid, e, d0, show 3 * d < 9 by omega, show 3 * d + 1 < 9 by omega, show 3 * d + 2 < 9 by omega, upo_ap, show ¬ (33 = 41) by decide, false_and, true_and, d1, d2]
  refine ⟨?_, ?_, ?_⟩
  · intro k k1; rw [upo_ne k1, upo_ne k1, upo_ne k1]
  · intro φ hφ
    match φ, hφ with
    | 0, _ => simp
    | 1, _ => simp
    | 2, _ => simp
  · intro i hi
    simp only [show ¬ (i = 3 * d) by omega, show ¬ (i = 3 * d + 1) by omega, show ¬ (i = 3 * d + 2) by omega, if_false]
def SUM (M : Ob) (g e : Nat) (base : Int32) (two : Prop) (u : Uf) (y : Ob) : Prop := (∀ k, k ≠ 41 → k ≠ 42 → y k = M k) ∧ (∀ a φ, a ≤ 2 → (a ≤ 1 ∨ two) → φ < 3 → y 41 (3 * a + φ) = iN (u.1 a φ)) ∧ y 42 0 = base + u.2.1
theorem X11_use_L {M G : Ob} (hM : ∀ k, 21 ≤ k → k ≤ 30 → M k = G k) (hG : WGr G) {g : Nat} (hg : g < nn (G 21 0)) {lf rf : Nat} {base : Int32} {n : Nat} (hn : n ≤ nn (G 26 g)) (y0 : Ob) (h0 : SUM M g 0 base (G 24 g ≠ nM) (u0 lf rf) y0) :
    wp (f_X11_use_L74 200 y0 (iN g) (iN n) (iN 0) (iN 0)) (fun q => (∀ k, k ≠ 41 → k ≠ 42 → q.2.2.2 k = M k) ∧ match uNn G g n (u0 lf rf) with | none => q.1 = 2 | some u => q.1 = 1 ∧ q.2.1 = iN (rbN u.2.2 n) ∧ SUM M g n base (G 24 g ≠ nM) u q.2.2.2) := by
  obtain ⟨⟨ng, hng, eng⟩, hq⟩ := id hG
  have hg16 : g < 16 := by rw [eng, nn, iN_c (by omega)] at hg; omega
  obtain ⟨-, -, -, n3, hn3, en3, he⟩ := hq g hg
  have enn : nn (G 26 g) = n3 := by rw [en3, nn, iN_c (by omega)]
  refine lp_up (F := fun f (y : Ob × Int32) i => f_X11_use_L74 f y.1 (iN g) (iN n) y.2 i) (V := fun e y => ∃ u, uNn G g e (u0 lf rf) = some u ∧ SUM M g e base (G 24 g ≠ nM) u y.1 ∧ y.2 = iN (rbN u.2.2 e)) (hi := n) ?_ 200 0 (y0, iN 0) (by omega) (by omega) ⟨_, rfl, h0, rfl⟩
  intro f y i hi hv hk
  obtain ⟨u, hu, hy, hb⟩ := hv
  have hB := UB_n hG hg (show i ≤ nn (G 26 g) by omega) hu
  by_cases he2 : i = n
  · subst he2
    simp (disch := omega) only [f_X11_use_L74, ↓nM_lit, iN_lit, iN_add, iN_mul, iN_lt, iN_le, iN_eq, iN_c, gd_iN, iN_nM, nM_iN, iN_ltM, nM_lt, nM_le, iN_leM, iN_0M, nM_p1, iN_0s1, decide_true, decide_eq_true_eq, Nat.not_lt_zero, if_true, if_false, wp_some, wp_grd, wp_lb, wp_ite, wp_b1, wp_b2, wp_b3, wp_b4, wp_b5, eq_grd, eq_lb, eq_b1, eq_b2, eq_b3, eq_b4, eq_b5, Nat.le_refl]
    refine ⟨hy.1, ?_⟩
    rw [hu]
    exact ⟨trivial, hb, hy⟩
  · have hi3 : i < 3 := by omega
    obtain ⟨φ, a, b, c, w1, w2, w3, w4, w5, w6, q1, q2, q3, q4⟩ := he i (by omega)
    have yk : ∀ k, 21 ≤ k → k ≤ 30 → y.1 k = G k := fun k h1 h2 => by rw [hy.1 k (by omega) (by omega)]; exact hM k h1 h2
    have z1 : y.1 27 (3 * g + i) = iN φ := by rw [yk 27 (by decide) (by decide), q1]
    have z2 : y.1 28 (3 * g + i) = iN a := by rw [yk 28 (by decide) (by decide), q2]
    have z3 : y.1 29 (3 * g + i) = iN b := by rw [yk 29 (by decide) (by decide), q3]
    have z4 : y.1 30 (3 * g + i) = iN c := by rw [yk 30 (by decide) (by decide), q4]
    have ha2 : a ≤ 1 ∨ G 24 g ≠ nM := by
      by_cases h : G 24 g = nM
      · exact Or.inl (w5 h).1
      · exact Or.inr h
    have hb2 : b ≤ 1 ∨ G 24 g ≠ nM := by
      by_cases h : G 24 g = nM
      · exact Or.inl (w5 h).2
      · exact Or.inr h
    have ya := hy.2.1 a φ w2 ha2 (by omega)
    have yb := hy.2.1 b φ w3 hb2 (by omega)
    obtain ⟨v3, v32, vz, -⟩ := id hB
    have xa := v3 a φ
    have xb := v3 b φ
    have est : uSt G g i u = uSt1 φ a b (iN c) i u := by
      rw [uSt, q1, q2, q3, q4, nn, nn, nn, iN_c (by omega), iN_c (by omega), iN_c (by omega)]
    have enx : uNn G g (i + 1) (u0 lf rf) = uSt1 φ a b (iN c) i u := by rw [uNn, hu]; exact est
    have zr : rbN u.2.2 (i + 1) = rbN u.2.2 i := by rw [rbN, if_pos (vz i (Nat.le_refl i)), Nat.add_zero]
    rw [uSt1] at enx
    have idx : ∀ a' φ', φ' < 3 → (3 * a' + φ' = 3 * a + φ ↔ a' = a ∧ φ' = φ) := by intro a' φ' h; omega
    have idxb : ∀ a' φ', φ' < 3 → (3 * a' + φ' = 3 * b + φ ↔ a' = b ∧ φ' = φ) := by intro a' φ' h; omega
    simp (maxSteps := 4000000) (disch := omega) only [f_X11_use_L74, ↓nM_lit, iN_lit, iN_add, iN_mul, iN_lt, iN_le, iN_eq, iN_c, gd_iN, iN_nM, nM_iN, iN_ltM, nM_lt, nM_le, iN_leM, iN_0M, nM_p1, iN_0s1, decide_true, decide_eq_true_eq, Nat.not_lt_zero, if_true, if_false, wp_some, wp_grd, wp_lb, wp_ite, wp_b1, wp_b2, wp_b3, wp_b4, wp_b5, eq_grd, eq_lb, eq_b1, eq_b2, eq_b3, eq_b4, eq_b5, show ¬ (n ≤ i) by omega, show 3 * g + i < 48 by omega, z1, z2, z3, z4, show 3 * a + φ < 9 by omega, show 3 * b + φ < 9 by omega, ya, yb, true_and]
    by_cases h1 : u.1 a φ = 0
    · rw [if_pos h1] at enx
      simp only [h1, if_true]
      refine hk (upo y.1 41 (3 * a + φ) (iN (u.1 b φ)), y.2) (by omega) ⟨_, enx, ⟨?_, ?_, ?_⟩, ?_⟩
      · intro k k1 k2; simp only [upo_ne k1]; exact hy.1 k k1 k2
      · intro a' φ' k1 k2 k3
        simp only [upo_ap, idx a' φ' k3, true_and, u2]
        split
        · rfl
        · exact hy.2.1 a' φ' k1 k2 k3
      · simp only [upo_ne (show 42 ≠ 41 by decide)]; exact hy.2.2
      · simp only [zr]; exact hb
    · rw [if_neg h1] at enx
      by_cases h2 : u.1 b φ = 0
      · rw [if_pos h2] at enx
        simp only [h1, h2, if_true, if_false]
        refine hk (upo y.1 41 (3 * b + φ) (iN (u.1 a φ)), y.2) (by omega) ⟨_, enx, ⟨?_, ?_, ?_⟩, ?_⟩
        · intro k k1 k2; simp only [upo_ne k1]; exact hy.1 k k1 k2
        · intro a' φ' k1 k2 k3
          simp only [upo_ap, idxb a' φ' k3, true_and, u2]
          split
          · rfl
          · exact hy.2.1 a' φ' k1 k2 k3
        · simp only [upo_ne (show 42 ≠ 41 by decide)]; exact hy.2.2
        · simp only [zr]; exact hb
      · rw [if_neg h2] at enx
        by_cases h3 : u.1 a φ = u.1 b φ
        · rw [if_pos h3] at enx
          simp only [h1, h2, h3, if_true, if_false]
          refine hk y (by omega) ⟨_, enx, ⟨hy.1, hy.2.1, hy.2.2⟩, ?_⟩
          rw [zr]; exact hb
        · rw [if_neg h3] at enx
          by_cases h4 : c = 0
          · rw [if_pos (by rw [h4])] at enx
            have dead : ∀ m, i + 1 ≤ m → uNn G g m (u0 lf rf) = none := by
              intro m hm
              induction m with
              | zero => omega
              | succ m im =>
                by_cases e : m = i
                · subst e; exact enx
                · rw [uNn, im (by omega)]
            simp only [h1, h2, h3, h4, if_true, if_false]
            refine ⟨hy.1, ?_⟩
            rw [dead n (by omega)]
            exact trivial
          · rw [if_neg (by rw [iN_eq (by omega) (by omega)]; exact h4)] at enx
            simp only [h1, h2, h3, h4, if_false]
            rw [hb, bit_or (rbN_lt i) (show i < 4 by omega)]
            refine hk (upo y.1 42 0 (y.1 42 0 + iN c), iN (rbN u.2.2 i + 2 ^ i)) (by omega) ⟨_, enx, ⟨?_, ?_, ?_⟩, ?_⟩
            · intro k k1 k2; simp only [upo_ne k2]; exact hy.1 k k1 k2
            · intro a' φ' k1 k2 k3
              simp only [upo_ne (show 41 ≠ 42 by decide)]
              exact hy.2.1 a' φ' k1 k2 k3
            · simp only [upo_ap, and_self, if_true, hy.2.2, Int32.add_assoc]
            · have out : ∀ k, k ≤ i → rbN (uN u.2.2 i (16 + 4 * u.1 a φ + u.1 b φ)) k = rbN u.2.2 k := by
                intro k
                induction k with
                | zero => intro _; rfl
                | succ k ik => intro hk; simp only [rbN, ik (by omega), uN, show ¬ (k = i) by omega, if_false]
              simp only [rbN, out i (Nat.le_refl i), uN, if_true, show ¬ (16 + 4 * u.1 a φ + u.1 b φ = 0) by omega, if_false]
theorem X11_use {M G : Ob} (hM : ∀ k, 21 ≤ k → k ≤ 30 → M k = G k) (hG : WGr G) {g : Nat} (hg : g < nn (G 21 0)) {lf rf n l : Nat} {r : Int32} (hn : n ≤ nn (G 26 g)) (hl : l < 40000) (el : M 33 l = iN (dec lf)) (hlf : lf < 64) (hr : G 24 g ≠ nM → ∃ r', r' < 40000 ∧ r = iN r' ∧ M 33 r' = iN (dec rf) ∧ rf < 64) :
    wp (f_X11_use M (iN g) (iN l) r (iN n)) (fun q => (∀ k, k ≠ 41 → k ≠ 42 → q.2 k = M k) ∧ match uNn G g n (u0 lf rf) with | none => q.1 = nM | some u => q.1 = iN (rbN u.2.2 n) ∧ SUM M g n (if G 24 g = nM then M 34 l else M 34 l + M 34 (nn r)) (G 24 g ≠ nM) u q.2) := by
  obtain ⟨⟨ng, hng, eng⟩, hq⟩ := id hG
  have hg16 : g < 16 := by rw [eng, nn, iN_c (by omega)] at hg; omega
  simp (disch := omega) only [f_X11_use, f_X11_use_J68, ↓nM_lit, iN_lit, iN_add, iN_mul, iN_lt, iN_le, iN_eq, iN_c, gd_iN, iN_nM, nM_iN, iN_ltM, nM_lt, nM_le, iN_leM, iN_0M, nM_p1, iN_0s1, decide_true, decide_eq_true_eq, Nat.not_lt_zero, if_true, if_false, wp_some, wp_grd, wp_lb, wp_ite, wp_b1, wp_b2, wp_b3, wp_b4, wp_b5, eq_grd, eq_lb, eq_b1, eq_b2, eq_b3, eq_b4, eq_b5]
  have el3 : upo (upo (upo M 41 0 (iN 0)) 41 1 (iN 0)) 41 2 (iN 0) 33 l = iN (dec lf) := by rw [upo_ne (by decide), upo_ne (by decide), upo_ne (by decide)]; exact el
  have f3 : ∀ k, k ≠ 41 → upo (upo (upo M 41 0 (iN 0)) 41 1 (iN 0)) 41 2 (iN 0) k = M k := fun k h => by rw [upo_ne h, upo_ne h, upo_ne h]
  have p3 : ∀ φ, φ < 3 → upo (upo (upo M 41 0 (iN 0)) 41 1 (iN 0)) 41 2 (iN 0) 41 φ = iN 0 := by
    intro φ hφ
    simp only [upo_ap, true_and]
    match φ, hφ with
    | 0, _ => simp
    | 1, _ => simp
    | 2, _ => simp
  generalize upo (upo (upo M 41 0 (iN 0)) 41 1 (iN 0)) 41 2 (iN 0) = M3 at el3 f3 p3
  refine wp_mono (X11_load (show 1 ≤ 2 by decide) hl hlf el3) ?_
  intro y4 h4
  obtain ⟨a1, a2, a3⟩ := h4
  have fin : ∀ (z : Ob) (base : Int32), SUM M g 0 base (G 24 g ≠ nM) (u0 lf rf) z → wp (f_X11_use_L74 200 z (iN g) (iN n) (iN 0) (iN 0)) (fun a => if a.1 = 1 then (∀ k, k ≠ 41 → k ≠ 42 → a.2.2.2 k = M k) ∧ match uNn G g n (u0 lf rf) with | none => a.2.1 = nM | some u => a.2.1 = iN (rbN u.2.2 n) ∧ SUM M g n base (G 24 g ≠ nM) u a.2.2.2 else (∀ k, k ≠ 41 → k ≠ 42 → a.2.2.2 k = M k) ∧ match uNn G g n (u0 lf rf) with | none => True | some u => nM = iN (rbN u.2.2 n) ∧ SUM M g n base (G 24 g ≠ nM) u a.2.2.2) := by
    intro z base hz
    refine wp_mono (X11_use_L hM hG hg hn z hz) ?_
    intro q hq
    obtain ⟨q1, q2⟩ := hq
    cases hs : uNn G g n (u0 lf rf) with
    | none =>
      rw [hs] at q2
      rw [if_neg (by rw [q2]; decide)]
      exact ⟨q1, trivial⟩
    | some u =>
      rw [hs] at q2
      rw [if_pos q2.1]
      exact ⟨q1, q2.2⟩
  have h34 : y4 34 l = M 34 l := by rw [a1 34 (by decide), f3 34 (by decide)]
  have h24 : ∀ v, upo y4 42 0 v 24 g = G 24 g := fun v => by rw [upo_ne (by decide), a1 24 (by decide), f3 24 (by decide), hM 24 (by decide) (by decide)]
  simp (disch := omega) only [hl, ↓nM_lit, iN_lit, iN_add, iN_mul, iN_lt, iN_le, iN_eq, iN_c, gd_iN, iN_nM, nM_iN, iN_ltM, nM_lt, nM_le, iN_leM, iN_0M, nM_p1, iN_0s1, decide_true, decide_eq_true_eq, Nat.not_lt_zero, if_true, if_false, wp_some, wp_grd, wp_lb, wp_ite, wp_b1, wp_b2, wp_b3, wp_b4, wp_b5, eq_grd, eq_lb, eq_b1, eq_b2, eq_b3, eq_b4, eq_b5, h34, show g < 16 by omega, h24, true_and]
  by_cases hu : G 24 g = nM
  · simp only [hu, if_true, wp_some, wp_grd, wp_lb, wp_ite, wp_b1, wp_b2, wp_b3, wp_b4, wp_b5]
    have := fin (upo y4 42 0 (M 34 l)) (M 34 l) ⟨fun k k1 k2 => by rw [upo_ne k2, a1 k k1, f3 k k1], ?_, by rw [upo_ap, if_pos ⟨rfl, rfl⟩]; exact (Int32.add_zero _).symm⟩
    · simp only [hu] at this
      exact this
    · intro a φ h1 h2 h3
      have ha1 : a ≤ 1 := by rcases h2 with h | h; exact h; exact absurd hu h
      rw [upo_ne (by decide)]
      match a, ha1 with
      | 0, _ =>
        rw [show 3 * 0 + φ = φ by omega, a3 φ (Or.inl (by omega)), p3 φ h3]; rfl
      | 1, _ => exact a2 φ h3
  · obtain ⟨r', hr1, hr2, hr3, hr4⟩ := hr hu
    subst hr2
    have er : upo y4 42 0 (M 34 l) 33 r' = iN (dec rf) := by rw [upo_ne (by decide), a1 33 (by decide), f3 33 (by decide)]; exact hr3
    simp only [hu, if_false, wp_some, wp_grd, wp_lb, wp_ite, wp_b1, wp_b2, wp_b3, wp_b4, wp_b5]
    refine wp_mono (X11_load (show 2 ≤ 2 by decide) hr1 hr4 er) ?_
    intro y5 h5
    obtain ⟨b1, b2, b3⟩ := h5
    have k42 : y5 42 0 = M 34 l := by rw [b1 42 (by decide), upo_ap, if_pos ⟨rfl, rfl⟩]
    have k34 : y5 34 r' = M 34 r' := by rw [b1 34 (by decide), upo_ne (by decide), a1 34 (by decide), f3 34 (by decide)]
    simp (disch := omega) only [hr1, ↓nM_lit, iN_lit, iN_add, iN_mul, iN_lt, iN_le, iN_eq, iN_c, gd_iN, iN_nM, nM_iN, iN_ltM, nM_lt, nM_le, iN_leM, iN_0M, nM_p1, iN_0s1, decide_true, decide_eq_true_eq, Nat.not_lt_zero, if_true, if_false, wp_some, wp_grd, wp_lb, wp_ite, wp_b1, wp_b2, wp_b3, wp_b4, wp_b5, eq_grd, eq_lb, eq_b1, eq_b2, eq_b3, eq_b4, eq_b5, k42, k34, true_and, nn]
    have := fin (upo y5 42 0 (M 34 l + M 34 r')) (M 34 l + M 34 r') ⟨fun k k1 k2 => by rw [upo_ne k2, b1 k k1, upo_ne k2, a1 k k1, f3 k k1], ?_, by rw [upo_ap, if_pos ⟨rfl, rfl⟩]; exact (Int32.add_zero _).symm⟩
    · exact this
    · intro a φ h1 h2 h3
      rw [upo_ne (by decide)]
      match a, h1 with
      | 0, _ =>
        rw [show 3 * 0 + φ = φ by omega, b3 φ (Or.inl (by omega)), upo_ne (by decide), a3 φ (Or.inl (by omega)), p3 φ h3]; rfl
      | 1, _ =>
        rw [b3 (3 * 1 + φ) (Or.inl (by omega)), upo_ne (by decide)]; exact a2 φ h3
      | 2, _ => exact b2 φ h3
