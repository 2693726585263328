/-! The law uses a rule of grammar. -/
def LG (g q n : Rw) (G : Ob) : Prop := nn (G 21 0) ≤ 5 ∧ ∀ r, r < nn (G 21 0) → g (4 * r) = G 22 r ∧ g (4 * r + 1) = G 23 r ∧ g (4 * r + 2) = G 24 r ∧ n r = G 26 r ∧ ∀ k, k < nn (G 26 r) → q (12 * r + k) = G 27 (3 * r + k) ∧ q (12 * r + k + 3) = G 28 (3 * r + k) ∧ q (12 * r + k + 6) = G 29 (3 * r + k) ∧ q (12 * r + k + 9) = G 30 (3 * r + k)
theorem dec_le (f : Nat) : dec f ≤ 333 := by rw [dec_e]; omega
theorem L_digit {a f φ : Nat} (ha : a ≤ 9) (hφ : φ < 3) : f_L_digit (iN (1000 * a + dec f)) (iN φ) = some (iN (fv f φ)) := by
  have hd := dec_e f
  have h3 : φ = 0 ∨ φ = 1 ∨ φ = 2 := by omega
  rcases h3 with rfl | rfl | rfl
  · simp (disch := omega) only [f_L_digit, ↓nM_lit, iN_lit, iN_add, iN_mul, iN_lt, iN_le, iN_eq, iN_c, gd_iN, iN_nM, nM_iN, iN_ltM, nM_lt, nM_le, iN_leM, iN_0M, nM_p1, iN_0s1, decide_true, decide_eq_true_eq, Nat.not_lt_zero, if_true, if_false, iN_div, iN_sub]
    rw [fv_0, (dgd a f).1]
  · simp (disch := omega) only [f_L_digit, ↓nM_lit, iN_lit, iN_add, iN_mul, iN_lt, iN_le, iN_eq, iN_c, gd_iN, iN_nM, nM_iN, iN_ltM, nM_lt, nM_le, iN_leM, iN_0M, nM_p1, iN_0s1, decide_true, decide_eq_true_eq, Nat.not_lt_zero, if_true, if_false, iN_div, iN_sub, show ¬ (1 = 0) by decide]
    rw [fv_1, (dgd a f).2.1]
  · simp (disch := omega) only [f_L_digit, ↓nM_lit, iN_lit, iN_add, iN_mul, iN_lt, iN_le, iN_eq, iN_c, gd_iN, iN_nM, nM_iN, iN_ltM, nM_lt, nM_le, iN_leM, iN_0M, nM_p1, iN_0s1, decide_true, decide_eq_true_eq, Nat.not_lt_zero, if_true, if_false, iN_div, iN_sub, show ¬ (2 = 0) by decide, show ¬ (2 = 1) by decide]
    rw [fv_2, (dgd a f).2.2]
def ZU (z : Rw) (u : Uf) : Prop := ∀ a φ, a ≤ 2 → φ < 3 → z (3 * a + φ) = iN (u.1 a φ)
theorem L_load {g q n e j z : Rw} {N : Nat} {l lc lf rf : Nat} {r : Int32} (hl : l < 64) (hlc : lc ≤ 9) (el : e l = iN (1000 * lc + dec lf)) (hr : (r = nM ∧ rf = 0) ∨ ∃ r' rc, r' < 64 ∧ rc ≤ 9 ∧ r = iN r' ∧ e r' = iN (1000 * rc + dec rf)) (hz : ∀ φ, φ < 3 → z φ = iN 0) (v5 v9 v10 : Int32) :
    wp (f_L_use_L34 400 g q n e j z N v5 (iN l) r v9 v10 (iN 0)) (fun t => ZU t.2 (u0 lf rf)) := by
  refine lp_up (F := fun f (y : Rw) i => f_L_use_L34 f g q n e j y N v5 (iN l) r v9 v10 i) (V := fun i y => (∀ φ, φ < 3 → y φ = iN 0) ∧ (∀ φ, φ < i → y (3 + φ) = iN (fv lf φ)) ∧ ∀ φ, φ < i → y (6 + φ) = iN (fv rf φ)) (hi := 3) ?_ 400 0 z (by omega) (by omega) ⟨hz, fun φ h => absurd h (Nat.not_lt_zero _), fun φ h => absurd h (Nat.not_lt_zero _)⟩
  intro f y i hi hv hk
  obtain ⟨v0, v1, v2⟩ := id hv
  by_cases he : i = 3
  · subst he
    simp (disch := omega) only [f_L_use_L34, ↓nM_lit, iN_lit, iN_add, iN_mul, iN_lt, iN_le, iN_eq, iN_c, gd_iN, iN_nM, nM_iN, iN_ltM, nM_lt, nM_le, iN_leM, iN_0M, nM_p1, iN_0s1, decide_true, decide_eq_true_eq, Nat.not_lt_zero, if_true, if_false, wp_some, wp_grd, wp_lb, wp_ite, wp_b1, wp_b2, wp_b3, wp_b4, wp_b5, Nat.le_refl]
    intro a φ ha hφ
    have ha3 : a = 0 ∨ a = 1 ∨ a = 2 := by omega
    rcases ha3 with rfl | rfl | rfl
    · rw [Nat.mul_zero, Nat.zero_add, v0 φ hφ]; rfl
    · rw [v1 φ hφ]; rfl
    · rw [v2 φ hφ]; rfl
  · have hi3 : i < 3 := by omega
    have nx : ∀ w : Rw, (∀ k, w k = if k = 6 + i then iN (fv rf i) else if k = 3 + i then iN (fv lf i) else y k) → (∀ φ, φ < 3 → w φ = iN 0) ∧ (∀ φ, φ < i + 1 → w (3 + φ) = iN (fv lf φ)) ∧ ∀ φ, φ < i + 1 → w (6 + φ) = iN (fv rf φ) := by
      intro w hw
      refine ⟨fun φ hφ => ?_, fun φ hφ => ?_, fun φ hφ => ?_⟩
      · rw [hw, if_neg (by omega), if_neg (by omega)]; exact v0 φ hφ
      · rw [hw, if_neg (by omega)]
        by_cases e : φ = i
        · rw [e, if_pos rfl]
        · rw [if_neg (by omega)]; exact v1 φ (by omega)
      · rw [hw]
        by_cases e : φ = i
        · rw [e, if_pos rfl]
        · rw [if_neg (by omega), if_neg (by omega)]; exact v2 φ (by omega)
    rcases hr with ⟨rfl, rfl⟩ | ⟨r', rc, hr1, hrc, rfl, er⟩
    · have h0 : (iN 0 ≤ nM) ↔ False := ⟨fun h => absurd h (by decide), False.elim⟩
      simp (disch := omega) only [f_L_use_L34, ↓nM_lit, iN_lit, iN_add, iN_mul, iN_lt, iN_le, iN_eq, iN_c, gd_iN, iN_nM, nM_iN, iN_ltM, nM_lt, nM_le, iN_leM, iN_0M, nM_p1, iN_0s1, decide_true, decide_eq_true_eq, Nat.not_lt_zero, if_true, if_false, wp_some, wp_grd, wp_lb, wp_ite, wp_b1, wp_b2, wp_b3, wp_b4, wp_b5, eq_grd, eq_lb, eq_b1, eq_b2, eq_b3, eq_b4, eq_b5, show ¬ (3 ≤ i) by omega, hl, el, L_digit hlc hi3, show 3 + i < 9 by omega, show 6 + i < 9 by omega, h0, true_and]
      refine hk _ hi3 (nx _ (fun k => ?_))
      rw [upd_ap, upd_ap]
      have : fv 0 i = 0 := by unfold fv; rw [Nat.zero_div]
      rw [this]
    · simp (disch := omega) only [f_L_use_L34, ↓nM_lit, iN_lit, iN_add, iN_mul, iN_lt, iN_le, iN_eq, iN_c, gd_iN, iN_nM, nM_iN, iN_ltM, nM_lt, nM_le, iN_leM, iN_0M, nM_p1, iN_0s1, decide_true, decide_eq_true_eq, Nat.not_lt_zero, if_true, if_false, wp_some, wp_grd, wp_lb, wp_ite, wp_b1, wp_b2, wp_b3, wp_b4, wp_b5, eq_grd, eq_lb, eq_b1, eq_b2, eq_b3, eq_b4, eq_b5, show ¬ (3 ≤ i) by omega, hl, el, L_digit hlc hi3, show 3 + i < 9 by omega, show 6 + i < 9 by omega, hr1, er, L_digit hrc hi3, Nat.zero_le, true_and]
      exact hk _ hi3 (nx _ (fun k => rfl))
/-- the two sides made alike -/
theorem L_J230 {g q n e j z : Rw} {N : Nat} {A B x y c0 c1 k : Nat} (hA : A < 9) (hB : B < 9) (hAB : A ≠ B) (hx : x < 4) (hy : y < 4) (zA : z A = iN x) (zB : z B = iN y) (v5 v10 : Int32) : ∃ z', f_L_use_J230 g q n e j z N v5 v10 (iN k) (iN A) (iN B) (iN c0) (iN c1) = some (0, iN (c0 + c1), v10, iN (k + 1), z') ∧ ∀ i, z' i = if i = B then iN (if y = 0 then x else y) else if i = A then iN (if x = 0 then y else x) else z i := by
  have nb : ∀ v : Int32, upd z A v B = iN y := fun v => by rw [upd_ne (fun h => hAB h.symm)]; exact zB
  have na : ∀ v : Int32, upd z A v A = v := fun v => upd_eq _ _ _
  have fin : ∀ a b : Nat, ∀ i, upd (upd z A (iN a)) B (iN b) i = if i = B then iN b else if i = A then iN a else z i := fun a b i => rfl
  by_cases h1 : x = 0
  · by_cases h2 : y = 0
    · subst h1; subst h2
      refine ⟨upd (upd z A (iN 0)) B (iN 0), ?_, fin 0 0⟩
      simp (disch := omega) only [f_L_use_J230, f_L_use_J258, ↓nM_lit, iN_lit, iN_add, iN_mul, iN_lt, iN_le, iN_eq, iN_c, gd_iN, iN_nM, nM_iN, iN_ltM, nM_lt, nM_le, iN_leM, iN_0M, nM_p1, iN_0s1, decide_true, decide_eq_true_eq, Nat.not_lt_zero, if_true, if_false, eq_grd, eq_lb, eq_b1, eq_b2, eq_b3, eq_b4, eq_b5, hA, hB, zA, zB, nb, na]
    · subst h1
      refine ⟨upd (upd z A (iN y)) B (iN y), ?_, ?_⟩
      · simp (disch := omega) only [f_L_use_J230, f_L_use_J258, ↓nM_lit, iN_lit, iN_add, iN_mul, iN_lt, iN_le, iN_eq, iN_c, gd_iN, iN_nM, nM_iN, iN_ltM, nM_lt, nM_le, iN_leM, iN_0M, nM_p1, iN_0s1, decide_true, decide_eq_true_eq, Nat.not_lt_zero, if_true, if_false, eq_grd, eq_lb, eq_b1, eq_b2, eq_b3, eq_b4, eq_b5, hA, hB, zA, zB, nb, na, h2]
      · intro i; rw [fin, if_neg h2, if_pos rfl]
  · by_cases h2 : y = 0
    · subst h2
      refine ⟨upd (upd z A (iN x)) B (iN x), ?_, ?_⟩
      · simp (disch := omega) only [f_L_use_J230, f_L_use_J258, ↓nM_lit, iN_lit, iN_add, iN_mul, iN_lt, iN_le, iN_eq, iN_c, gd_iN, iN_nM, nM_iN, iN_ltM, nM_lt, nM_le, iN_leM, iN_0M, nM_p1, iN_0s1, decide_true, decide_eq_true_eq, Nat.not_lt_zero, if_true, if_false, eq_grd, eq_lb, eq_b1, eq_b2, eq_b3, eq_b4, eq_b5, hA, hB, zA, zB, nb, na, h1]
      · intro i; rw [fin, if_pos rfl, if_neg h1]
    · refine ⟨upd (upd z A (iN x)) B (iN y), ?_, ?_⟩
      · simp (disch := omega) only [f_L_use_J230, f_L_use_J258, ↓nM_lit, iN_lit, iN_add, iN_mul, iN_lt, iN_le, iN_eq, iN_c, gd_iN, iN_nM, nM_iN, iN_ltM, nM_lt, nM_le, iN_leM, iN_0M, nM_p1, iN_0s1, decide_true, decide_eq_true_eq, Nat.not_lt_zero, if_true, if_false, eq_grd, eq_lb, eq_b1, eq_b2, eq_b3, eq_b4, eq_b5, hA, hB, zA, zB, nb, na, h1, h2]
      · intro i; rw [fin, if_neg h2, if_neg h1]
theorem L_use_L {g q n e j : Rw} {N : Nat} {G : Ob} (hX : LG g q n G) (hG : WGr G) {r : Nat} (hr : r < nn (G 21 0)) {lf rf base : Nat} (hb : base ≤ 100000) (z0 : Rw) (h0 : ZU z0 (u0 lf rf)) :
    wp (f_L_use_L91 400 g q n e j z0 N (iN r) (iN base) (iN 0) (iN 0)) (fun t => match uni G r lf rf with | none => t.1 = 2 | some u => t.1 = 1 ∧ (∃ c, u.2.1 = iN c ∧ c ≤ 60 ∧ t.2.1 = iN (base + c)) ∧ t.2.2.1 = iN (rbN u.2.2 3) ∧ ZU t.2.2.2.2 u) := by
  obtain ⟨hX5, hX⟩ := hX
  obtain ⟨x1, x2, x3, x4, xq⟩ := hX r hr
  obtain ⟨-, hq⟩ := id hG
  obtain ⟨-, -, -, n3, hn3, en3, he⟩ := hq r hr
  have enn : nn (G 26 r) = n3 := by rw [en3, nn, iN_c (by omega)]
  have en : n r = iN n3 := by rw [x4, en3]
  unfold uni
  rw [enn]
  refine lp_up (F := fun f (y : Rw × Int32 × Int32) i => f_L_use_L91 f g q n e j y.1 N (iN r) y.2.1 y.2.2 i) (V := fun i y => ∃ u c, uNn G r i (u0 lf rf) = some u ∧ ZU y.1 u ∧ u.2.1 = iN c ∧ c ≤ 20 * i ∧ y.2.1 = iN (base + c) ∧ y.2.2 = iN (rbN u.2.2 i)) (hi := n3) ?_ 400 0 (z0, iN base, iN 0) (by omega) (by omega) ⟨_, 0, rfl, h0, rfl, by omega, rfl, rfl⟩
  intro f y i hi hv hk
  obtain ⟨z, y1, y2⟩ := y
  obtain ⟨u, c, hu, hz, hc, hc2, ecost, erel⟩ := hv
  simp only at hz ecost erel
  subst ecost
  subst erel
  have hB := UB_n hG hr (show i ≤ nn (G 26 r) by omega) hu
  obtain ⟨v3, v32, vz, -⟩ := id hB
  by_cases he2 : i = n3
  · subst he2
    simp (disch := omega) only [f_L_use_L91, ↓nM_lit, iN_lit, iN_add, iN_mul, iN_lt, iN_le, iN_eq, iN_c, gd_iN, iN_nM, nM_iN, iN_ltM, nM_lt, nM_le, iN_leM, iN_0M, nM_p1, iN_0s1, decide_true, decide_eq_true_eq, Nat.not_lt_zero, if_true, if_false, wp_some, wp_grd, wp_lb, wp_ite, wp_b1, wp_b2, wp_b3, wp_b4, wp_b5, eq_grd, eq_lb, eq_b1, eq_b2, eq_b3, eq_b4, eq_b5, Nat.le_refl, show r < 5 by omega, en]
    rw [hu]
    exact ⟨trivial, ⟨c, hc, by omega, rfl⟩, by rw [rbN_out hn3 vz], hz⟩
  · have hi3 : i < 3 := by omega
    obtain ⟨φ, a, b, k, w1, w2, w3, w4, w5, w6, q1, q2, q3, q4⟩ := he i (by omega)
    obtain ⟨xq1, xq2, xq3, xq4⟩ := xq i (by omega)
    rw [q1] at xq1
    rw [q2] at xq2
    rw [q3] at xq3
    rw [q4] at xq4
    have ya := hz a φ w2 (by omega)
    have yb := hz b φ w3 (by omega)
    have xa := v3 a φ
    have xb := v3 b φ
    have est : uSt G r i u = uSt1 φ a b (iN k) i u := by
      rw [uSt, q1, q2, q3, q4, nn, nn, nn, iN_c (by omega), iN_c (by omega), iN_c (by omega)]
    have enx : uNn G r (i + 1) (u0 lf rf) = uSt1 φ a b (iN k) i u := by rw [uNn, hu]; exact est
    have zr : rbN u.2.2 (i + 1) = rbN u.2.2 i := by rw [rbN, if_pos (vz i (Nat.le_refl i)), Nat.add_zero]
    rw [uSt1] at enx
    have idx : ∀ a' φ', φ' < 3 → (3 * a' + φ' = 3 * a + φ ↔ a' = a ∧ φ' = φ) := by intro a' φ' h; omega
    have idxb : ∀ a' φ', φ' < 3 → (3 * a' + φ' = 3 * b + φ ↔ a' = b ∧ φ' = φ) := by intro a' φ' h; omega
    have hk0 : ¬ (n3 ≤ i) := by omega
    have hA : 3 * a + φ < 9 := by omega
    have hB9 : 3 * b + φ < 9 := by omega
    have hAB : 3 * a + φ ≠ 3 * b + φ := by omega
    have J : ∀ z' : Rw, (∀ ii, z' ii = if ii = 3 * b + φ then iN (if u.1 b φ = 0 then u.1 a φ else u.1 b φ) else if ii = 3 * a + φ then iN (if u.1 a φ = 0 then u.1 b φ else u.1 a φ) else z ii) → ∀ a' φ', a' ≤ 2 → φ' < 3 → z' (3 * a' + φ') = iN (if a' = b ∧ φ' = φ then (if u.1 b φ = 0 then u.1 a φ else u.1 b φ) else if a' = a ∧ φ' = φ then (if u.1 a φ = 0 then u.1 b φ else u.1 a φ) else u.1 a' φ') := by
      intro z' hz' a' φ' k1 k2
      rw [hz']
      simp only [idx a' φ' k2, idxb a' φ' k2]
      split
      · rfl
      · split
        · rfl
        · exact hz a' φ' k1 k2
    obtain ⟨z', e1, e2⟩ := L_J230 (g := g) (q := q) (n := n) (e := e) (j := j) (N := N) (c0 := base + c) (c1 := 0) (k := i) hA hB9 hAB (show u.1 a φ < 4 by omega) (show u.1 b φ < 4 by omega) ya yb (iN r) (iN (rbN u.2.2 i))
    have N0 : f_L_use_J174 g q n e j z N (iN r) (iN (base + c)) (iN (rbN u.2.2 i)) (iN i) (iN (12 * r + i)) (iN (3 * a + φ)) (iN (3 * b + φ)) = some (0, iN (base + c), iN (rbN u.2.2 i), iN (i + 1), z') := by
      simp (disch := omega) only [f_L_use_J174, f_L_use_J175, f_L_use_J194, f_L_use_J209, ↓nM_lit, iN_lit, iN_add, iN_mul, iN_lt, iN_le, iN_eq, iN_c, gd_iN, iN_nM, nM_iN, iN_ltM, nM_lt, nM_le, iN_leM, iN_0M, nM_p1, iN_0s1, decide_true, decide_eq_true_eq, Nat.not_lt_zero, if_true, if_false, eq_grd, eq_lb, eq_b1, eq_b2, eq_b3, eq_b4, eq_b5, Nat.add_zero]
      exact e1
    have Jz := J z' e2
    simp (maxSteps := 4000000) (disch := omega) only [f_L_use_L91, ↓nM_lit, iN_lit, iN_add, iN_mul, iN_lt, iN_le, iN_eq, iN_c, gd_iN, iN_nM, nM_iN, iN_ltM, nM_lt, nM_le, iN_leM, iN_0M, nM_p1, iN_0s1, decide_true, decide_eq_true_eq, Nat.not_lt_zero, if_true, if_false, wp_some, wp_grd, wp_lb, wp_ite, wp_b1, wp_b2, wp_b3, wp_b4, wp_b5, eq_grd, eq_lb, eq_b1, eq_b2, eq_b3, eq_b4, eq_b5, en, hk0, show r < 5 by omega, show 12 * r + i + 3 < 60 by omega, show 12 * r + i + 6 < 60 by omega, show 12 * r + i < 60 by omega, xq1, xq2, xq3, xq4, hA, hB9, ya, yb, true_and, Nat.le_zero, N0]
    by_cases h1 : u.1 a φ = 0
    · rw [if_pos h1] at enx
      simp only [h1, if_true]
      refine hk (z', iN (base + c), iN (rbN u.2.2 i)) (by omega) ⟨_, c, enx, ?_, hc, by omega, rfl, by rw [zr]⟩
      intro a' φ' k1 k2
      show z' (3 * a' + φ') = _
      rw [Jz a' φ' k1 k2]
      simp only [u2, h1, if_true]
      by_cases ea : a' = a ∧ φ' = φ
      · rw [if_pos ea, if_neg (fun hh => w4 (ea.1.symm.trans hh.1))]
      · rw [if_neg ea]
        by_cases eb : a' = b ∧ φ' = φ
        · rw [if_pos eb, eb.1, eb.2]
          by_cases h2 : u.1 b φ = 0
          · rw [if_pos h2, h2]
          · rw [if_neg h2]
        · rw [if_neg eb]
    · rw [if_neg h1] at enx
      by_cases h2 : u.1 b φ = 0
      · rw [if_pos h2] at enx
        simp only [h1, h2, if_true, if_false]
        refine hk (z', iN (base + c), iN (rbN u.2.2 i)) (by omega) ⟨_, c, enx, ?_, hc, by omega, rfl, by rw [zr]⟩
        intro a' φ' k1 k2
        show z' (3 * a' + φ') = _
        rw [Jz a' φ' k1 k2]
        simp only [u2, h1, h2, if_true, if_false]
        by_cases eb : a' = b ∧ φ' = φ
        · rw [if_pos eb, if_pos eb]
        · rw [if_neg eb, if_neg eb]
          by_cases ea : a' = a ∧ φ' = φ
          · rw [if_pos ea, ea.1, ea.2]
          · rw [if_neg ea]
      · rw [if_neg h2] at enx
        by_cases h3 : u.1 a φ = u.1 b φ
        · rw [if_pos h3] at enx
          simp only [h1, h2, h3, if_true, if_false]
          refine hk (z', iN (base + c), iN (rbN u.2.2 i)) (by omega) ⟨_, c, enx, ?_, hc, by omega, rfl, by rw [zr]⟩
          intro a' φ' k1 k2
          show z' (3 * a' + φ') = _
          rw [Jz a' φ' k1 k2, if_neg h1, if_neg h2]
          by_cases eb : a' = b ∧ φ' = φ
          · rw [if_pos eb, eb.1, eb.2]
          · rw [if_neg eb]
            by_cases ea : a' = a ∧ φ' = φ
            · rw [if_pos ea, ea.1, ea.2]
            · rw [if_neg ea]
        · rw [if_neg h3] at enx
          simp only [h1, h2, h3, if_false]
          by_cases h4 : k = 0
          · rw [if_pos (by rw [h4])] at enx
            have dead : ∀ m, i + 1 ≤ m → uNn G r m (u0 lf rf) = none := by
              intro m hm
              induction m with
              | zero => omega
              | succ m im =>
                by_cases e : m = i
                · subst e; exact enx
                · rw [uNn, im (by omega)]
            subst h4
            simp (disch := omega) only [f_L_use_J175, ↓nM_lit, iN_lit, iN_add, iN_mul, iN_lt, iN_le, iN_eq, iN_c, gd_iN, iN_nM, nM_iN, iN_ltM, nM_lt, nM_le, iN_leM, iN_0M, nM_p1, iN_0s1, decide_true, decide_eq_true_eq, Nat.not_lt_zero, if_true, if_false, wp_some, wp_grd, wp_lb, wp_ite, wp_b1, wp_b2, wp_b3, wp_b4, wp_b5, eq_grd, eq_lb, eq_b1, eq_b2, eq_b3, eq_b4, eq_b5, show ¬ (1 = 0) by decide, show 12 * r + i + 9 < 60 by omega, xq4, show ¬ (2 = 0) by decide]
            rw [dead n3 (by omega)]
            exact trivial
          · rw [if_neg (by rw [iN_eq (by omega) (by omega)]; exact h4)] at enx
            obtain ⟨zc, f1, f2⟩ := L_J230 (g := g) (q := q) (n := n) (e := e) (j := j) (N := N) (c0 := base + c) (c1 := k) (k := i) hA hB9 hAB (show u.1 a φ < 4 by omega) (show u.1 b φ < 4 by omega) ya yb (iN r) (iN (rbN u.2.2 i + 2 ^ i))
            have N1 : f_L_use_J175 g q n e j z N (iN r) (iN (base + c)) (iN (rbN u.2.2 i)) (iN i) (iN (12 * r + i)) (iN (3 * a + φ)) (iN (3 * b + φ)) (iN 1) = some (0, iN (base + c + k), iN (rbN u.2.2 i + 2 ^ i), iN (i + 1), zc) := by
              simp (disch := omega) only [f_L_use_J175, f_L_use_J194, f_L_use_J209, ↓nM_lit, iN_lit, iN_add, iN_mul, iN_lt, iN_le, iN_eq, iN_c, gd_iN, iN_nM, nM_iN, iN_ltM, nM_lt, nM_le, iN_leM, iN_0M, nM_p1, iN_0s1, decide_true, decide_eq_true_eq, Nat.not_lt_zero, if_true, if_false, eq_grd, eq_lb, eq_b1, eq_b2, eq_b3, eq_b4, eq_b5, show ¬ (1 = 0) by decide, show 12 * r + i + 9 < 60 by omega, xq4, h4, shlN (show i < 12 by omega)]
              exact f1
            have Jc := J zc f2
            simp only [N1, wp_some, wp_grd, wp_lb, wp_ite, wp_b1, wp_b2, wp_b3, wp_b4, wp_b5, eq_grd, eq_lb, eq_b1, eq_b2, eq_b3, eq_b4, eq_b5, if_true]
            refine hk (zc, iN (base + c + k), iN (rbN u.2.2 i + 2 ^ i)) (by omega) ⟨_, c + k, enx, ?_, by rw [hc, iN_add], by omega, by rw [Nat.add_assoc], ?_⟩
            · intro a' φ' k1 k2
              show zc (3 * a' + φ') = iN (u.1 a' φ')
              rw [Jc a' φ' k1 k2, if_neg h1, if_neg h2]
              by_cases eb : a' = b ∧ φ' = φ
              · rw [if_pos eb, eb.1, eb.2]
              · rw [if_neg eb]
                by_cases ea : a' = a ∧ φ' = φ
                · rw [if_pos ea, ea.1, ea.2]
                · rw [if_neg ea]
            · show iN (rbN u.2.2 i + 2 ^ i) = iN (rbN (uN u.2.2 i (16 + 4 * u.1 a φ + u.1 b φ)) (i + 1))
              have cg : ∀ m, m ≤ i → rbN (uN u.2.2 i (16 + 4 * u.1 a φ + u.1 b φ)) m = rbN u.2.2 m := by
                intro m
                induction m with
                | zero => intro _; rfl
                | succ m im =>
                  intro hm
                  have e9 : uN u.2.2 i (16 + 4 * u.1 a φ + u.1 b φ) m = u.2.2 m := by rw [uN, if_neg (show ¬ (m = i) by omega)]
                  rw [rbN, rbN, im (by omega), e9]
              rw [rbN, cg i (Nat.le_refl i), uN, if_pos rfl, if_neg (by omega)]
/-- what a use answers -/
def mdN (G : Ob) (r k : Nat) (u : Uf) : Nat := 10000000 * rbN u.2.2 3 + 10000 * (k + nn u.2.1) + 1000 * nn (G 22 r) + dec (pf u)
theorem L_use {g q n e j : Rw} {G : Ob} (hX : LG g q n G) (hG : WGr G) {rl : Nat} (hr : rl < nn (G 21 0)) {l lc lf kl kr rf : Nat} {r : Int32} (hl : l < 64) (hlc : lc ≤ 9) (el : e l = iN (1000 * lc + dec lf)) (ejl : j l = iN kl) (hkl : kl ≤ 1000) (hkr : kr ≤ 1000) (hR : (r = nM ∧ rf = 0 ∧ kr = 0) ∨ ∃ r' rc, r' < 64 ∧ rc ≤ 9 ∧ r = iN r' ∧ e r' = iN (1000 * rc + dec rf) ∧ j r' = iN kr) :
    f_L_use g q n e j (iN rl) (iN l) r = some (match uni G rl lf rf with | none => nM | some u => iN (mdN G rl (kl + kr) u)) := by
  have x1 := (hX.2 rl hr).1
  have h5 := hX.1
  obtain ⟨-, hq⟩ := id hG
  obtain ⟨⟨pc, hpc, epc⟩, -⟩ := hq rl hr
  have hR2 : (r = nM ∧ rf = 0) ∨ ∃ r' rc, r' < 64 ∧ rc ≤ 9 ∧ r = iN r' ∧ e r' = iN (1000 * rc + dec rf) := by
    rcases hR with ⟨h1, h2, -⟩ | ⟨r', rc, h1, h2, h3, h4, -⟩
    · exact Or.inl ⟨h1, h2⟩
    · exact Or.inr ⟨r', rc, h1, h2, h3, h4⟩
  have J : f_L_use_J25 g q n e j (fun _ => 0) 1 (iN rl) (iN l) r (iN kl) (iN kr) = some (match uni G rl lf rf with | none => nM | some u => iN (mdN G rl (kl + kr) u)) := by
    have k1 := L_load (N := 1) (g := g) (q := q) (n := n) (j := j) (z := fun _ => iN 0) hl hlc el hR2 (fun φ _ => rfl) (iN rl) (iN (kl + kr)) (iN 0)
    obtain ⟨t, et, hz⟩ := k1
    obtain ⟨t2, et2, hu⟩ := L_use_L (N := 1) (e := e) (j := j) (lf := lf) (rf := rf) (base := kl + kr) hX hG hr (by omega) t.2 hz
    simp (disch := omega) only [f_L_use_J25, ↓nM_lit, iN_lit, iN_add, iN_mul, iN_lt, iN_le, iN_eq, iN_c, gd_iN, iN_nM, nM_iN, iN_ltM, nM_lt, nM_le, iN_leM, iN_0M, nM_p1, iN_0s1, decide_true, decide_eq_true_eq, Nat.not_lt_zero, if_true, if_false, eq_grd, eq_lb, eq_b1, eq_b2, eq_b3, eq_b4, eq_b5, et, et2]
    cases hun : uni G rl lf rf with
    | none =>
      rw [hun] at hu
      simp only at hu
      rw [hu]
      rfl
    | some u =>
      rw [hun] at hu
      obtain ⟨u1, ⟨c, hc, hc60, u2⟩, u3, u4⟩ := hu
      have hB := uni_UB hG hr hun
      have z0 := u4 0 0 (by decide) (by decide)
      have z1 := u4 0 1 (by decide) (by decide)
      have z2 := u4 0 2 (by decide) (by decide)
      rw [Nat.mul_zero, Nat.zero_add] at z0 z1 z2
      have hd : dec (pf u) = 100 * u.1 0 0 + 10 * u.1 0 1 + u.1 0 2 := by
        unfold dec pf
        rw [pkv_fv (hB.1 0) (by decide), pkv_fv (hB.1 0) (by decide), pkv_fv (hB.1 0) (by decide)]
      have hcn : nn u.2.1 = c := by rw [hc, nn, iN_c (by omega)]
      have hpn : nn (G 22 rl) = pc := by rw [epc, nn, iN_c (by omega)]
      rw [u1]
      simp (disch := omega) only [↓nM_lit, iN_lit, iN_add, iN_mul, iN_lt, iN_le, iN_eq, iN_c, gd_iN, iN_nM, nM_iN, iN_ltM, nM_lt, nM_le, iN_leM, iN_0M, nM_p1, iN_0s1, decide_true, decide_eq_true_eq, Nat.not_lt_zero, if_true, if_false, eq_grd, eq_lb, eq_b1, eq_b2, eq_b3, eq_b4, eq_b5, u2, u3, z0, z1, z2, show 4 * rl < 20 by omega, x1, epc]
      rw [mdN, hd, hcn, hpn]
      congr 2
      omega
  rcases hR with ⟨rfl, -, rfl⟩ | ⟨r', rc, h1, h2, rfl, h4, h5⟩
  · have h0 : (iN 0 ≤ nM) ↔ False := ⟨fun h => absurd h (by decide), False.elim⟩
    simp (disch := omega) only [f_L_use, ↓nM_lit, iN_lit, iN_add, iN_mul, iN_lt, iN_le, iN_eq, iN_c, gd_iN, iN_nM, nM_iN, iN_ltM, nM_lt, nM_le, iN_leM, iN_0M, nM_p1, iN_0s1, decide_true, decide_eq_true_eq, Nat.not_lt_zero, if_true, if_false, eq_grd, eq_lb, eq_b1, eq_b2, eq_b3, eq_b4, eq_b5, hl, ejl, h0]
    exact J
  · simp (disch := omega) only [f_L_use, ↓nM_lit, iN_lit, iN_add, iN_mul, iN_lt, iN_le, iN_eq, iN_c, gd_iN, iN_nM, nM_iN, iN_ltM, nM_lt, nM_le, iN_leM, iN_0M, nM_p1, iN_0s1, decide_true, decide_eq_true_eq, Nat.not_lt_zero, if_true, if_false, eq_grd, eq_lb, eq_b1, eq_b2, eq_b3, eq_b4, eq_b5, hl, ejl, h1, h5, Nat.zero_le]
    exact J
