/-! Unifying: said once, of both. -/
def WGr (G : Ob) : Prop := (∃ a, a ≤ 16 ∧ G 21 0 = iN a) ∧ ∀ g, g < nn (G 21 0) → (∃ a, a ≤ 9 ∧ G 22 g = iN a) ∧ (∃ a, a ≤ 9 ∧ G 23 g = iN a) ∧ ((G 24 g = nM ∧ nn (G 23 g) < nn (G 22 g) ∧ G 25 g = iN 1) ∨ ((∃ a, a ≤ 9 ∧ G 24 g = iN a) ∧ (G 25 g = iN 1 ∨ G 25 g = iN 2))) ∧ ∃ n, n ≤ 3 ∧ G 26 g = iN n ∧ ∀ e, e < n → ∃ f a b c, f ≤ 2 ∧ a ≤ 2 ∧ b ≤ 2 ∧ a ≠ b ∧ (G 24 g = nM → a ≤ 1 ∧ b ≤ 1) ∧ c ≤ 20 ∧ G 27 (3 * g + e) = iN f ∧ G 28 (3 * g + e) = iN a ∧ G 29 (3 * g + e) = iN b ∧ G 30 (3 * g + e) = iN c
abbrev Uf : Type := (Nat → Nat → Nat) × Int32 × (Nat → Nat)
def u2 (v : Nat → Nat → Nat) (a φ x : Nat) : Nat → Nat → Nat := fun a' φ' => if a' = a ∧ φ' = φ then x else v a' φ'
def uSt1 (φ a b : Nat) (c : Int32) (e : Nat) (u : Uf) : Option Uf :=
  if u.1 a φ = 0 then some (u2 u.1 a φ (u.1 b φ), u.2) else if u.1 b φ = 0 then some (u2 u.1 b φ (u.1 a φ), u.2) else if u.1 a φ = u.1 b φ then some u else if c = iN 0 then none else some (u.1, u.2.1 + c, uN u.2.2 e (16 + 4 * u.1 a φ + u.1 b φ))
def uSt (G : Ob) (g e : Nat) (u : Uf) : Option Uf := uSt1 (nn (G 27 (3 * g + e))) (nn (G 28 (3 * g + e))) (nn (G 29 (3 * g + e))) (G 30 (3 * g + e)) e u
def uNn (G : Ob) (g : Nat) : Nat → Uf → Option Uf
  | 0, u => some u
  | n + 1, u => match uNn G g n u with
    | none => none
    | some u => uSt G g n u
def u0 (lf rf : Nat) : Uf := (fun a φ => if a = 1 then fv lf φ else if a = 2 then fv rf φ else 0, iN 0, fun _ => 0)
def uni (G : Ob) (g lf rf : Nat) : Option Uf := uNn G g (nn (G 26 g)) (u0 lf rf)
def pkv (v : Nat → Nat) : Nat := pk3 (v 0) (v 1) (v 2)
def pf (u : Uf) : Nat := pkv (u.1 0)
/-- the relaxed equations, as the class keeps them and as the reference does -/
def rlN (rel : Nat → Nat) : Nat → Nat
  | 0 => 0
  | e + 1 => rlN rel e + rel e * 32 ^ e
def rbN (rel : Nat → Nat) : Nat → Nat
  | 0 => 0
  | e + 1 => rbN rel e + if rel e = 0 then 0 else 2 ^ e
/-- bounds while unifying, e equations done -/
def UB (e : Nat) (u : Uf) : Prop := (∀ a φ, u.1 a φ ≤ 3) ∧ (∀ k, u.2.2 k < 32) ∧ (∀ k, e ≤ k → u.2.2 k = 0) ∧ ∃ c, c ≤ 20 * e ∧ u.2.1 = iN c
theorem UB_0 {lf rf : Nat} : UB 0 (u0 lf rf) := by
  refine ⟨fun a φ => ?_, fun _ => (by decide : (0 : Nat) < 32), fun _ _ => rfl, 0, by omega, rfl⟩
  simp only [u0]
  have : ∀ f, fv f φ ≤ 3 := fun f => by unfold fv; omega
  split
  · exact this _
  · split
    · exact this _
    · omega
theorem UB_1 {φ a b : Nat} {c e : Nat} (hc : c ≤ 20) {u u' : Uf} (h : UB e u) (hs : uSt1 φ a b (iN c) e u = some u') : UB (e + 1) u' := by
  obtain ⟨h1, h2, h3, d, h4, h5⟩ := h
  rw [uSt1] at hs
  have hu2 : ∀ a φ x, x ≤ 3 → ∀ a' φ', u2 u.1 a φ x a' φ' ≤ 3 := by
    intro a φ x hx a' φ'
    unfold u2
    split
    · exact hx
    · exact h1 _ _
  split at hs
  · cases hs; exact ⟨hu2 _ _ _ (h1 _ _), h2, fun k hk => h3 k (by omega), d, by omega, h5⟩
  · split at hs
    · cases hs; exact ⟨hu2 _ _ _ (h1 _ _), h2, fun k hk => h3 k (by omega), d, by omega, h5⟩
    · split at hs
      · cases hs; exact ⟨h1, h2, fun k hk => h3 k (by omega), d, by omega, h5⟩
      · split at hs
        · cases hs
        · cases hs
          refine ⟨h1, fun k => ?_, fun k hk => ?_, d + c, by omega, ?_⟩
          · have ha := h1 a φ
            have hb := h1 b φ
            simp only [uN]
            split
            · omega
            · exact h2 k
          · simp only [uN, show ¬ (k = e) by omega, if_false]; exact h3 k (by omega)
          · simp only [h5, iN_add]
theorem UB_n {G : Ob} {g n lf rf : Nat} (hG : WGr G) (hg : g < nn (G 21 0)) (hn : n ≤ nn (G 26 g)) {u : Uf} (h : uNn G g n (u0 lf rf) = some u) : UB n u := by
  induction n generalizing u with
  | zero => rw [uNn] at h; cases h; exact UB_0
  | succ n ih =>
    rw [uNn] at h
    split at h
    · cases h
    · rename_i u1 h1
      have hu1 := ih (by omega) h1
      obtain ⟨-, -, -, k, hk, ek, hq⟩ := hG.2 g hg
      have ekn : nn (G 26 g) = k := by rw [ek, nn, iN_c (by omega)]
      obtain ⟨f, a, b, c, hf, ha, hb, hab, hM, hc, e1, e2, e3, e4⟩ := hq n (by omega)
      rw [uSt, e4] at h
      exact UB_1 hc hu1 h
theorem rlN_lt {rel : Nat → Nat} (h : ∀ k, rel k < 32) (e : Nat) : rlN rel e < 32 ^ e := by
  induction e with
  | zero => exact Nat.one_pos
  | succ e ih =>
    have h1 : rel e * 32 ^ e ≤ 31 * 32 ^ e := Nat.mul_le_mul_right _ (by have := h e; omega)
    have h2 : 32 ^ (e + 1) = 32 * 32 ^ e := by rw [Nat.pow_succ, Nat.mul_comm]
    rw [rlN]; omega
theorem rbN_lt {rel : Nat → Nat} (e : Nat) : rbN rel e < 2 ^ e := by
  induction e with
  | zero => exact Nat.one_pos
  | succ e ih => rw [rbN, Nat.pow_succ]; split <;> omega
/-- numbers -/
theorem fea_get {P φ : Nat} (hP : P < 64) (hφ : φ < 3) : (iN P >>> (iN (2 * φ) &&& iN 31)) &&& iN 3 = iN (fv P φ) := by
  have := b64_s (P := fun P => b4 (fun φ => decide (φ < 3 → (iN P >>> (iN (2 * φ) &&& iN 31)) &&& iN 3 = iN (fv P φ)))) (by decide +kernel) hP
  exact of_decide_eq_true (b4_s this (show φ < 4 by omega)) hφ
theorem fea_or {P y φ : Nat} (hP : P < 64) (hy : y < 4) (hφ : φ < 3) (h : fv P φ = 0 ∨ y = 0) : iN P ||| (iN y <<< (iN (2 * φ) &&& iN 31)) = iN (P + y * 4 ^ φ) := by
  have := b64_s (P := fun P => b4 (fun φ => b4 (fun y => decide (φ < 3 → (fv P φ = 0 ∨ y = 0) → iN P ||| (iN y <<< (iN (2 * φ) &&& iN 31)) = iN (P + y * 4 ^ φ))))) (by decide +kernel) hP
  exact of_decide_eq_true (b4_s (b4_s this (show φ < 4 by omega)) hy) hφ h
theorem rel_or {r c e : Nat} (hr : r < 32 ^ e) (hc : c < 32) (he : e < 3) : iN r ||| (iN c <<< (iN (5 * e) &&& iN 31)) = iN (r + c * 32 ^ e) := by
  have e1 : iN c <<< (iN (5 * e) &&& iN 31) = iN (c * 32 ^ e) := by
    have := b64_s (P := fun c => b4 (fun e => decide (c < 32 → e < 3 → iN c <<< (iN (5 * e) &&& iN 31) = iN (c * 32 ^ e)))) (by decide +kernel) (show c < 64 by omega)
    exact of_decide_eq_true (b4_s this (show e < 4 by omega)) hc he
  have e2 : (32 : Nat) ^ e = 2 ^ (5 * e) := by rw [Nat.pow_mul]
  rw [e1, iN_or]
  rw [e2] at hr ⊢
  have := Nat.two_pow_add_eq_or_of_lt hr c
  rw [Nat.or_comm, Nat.mul_comm c, ← this, Nat.add_comm]
theorem code_or {x y : Nat} (hx : x < 4) (hy : y < 4) : (iN 16 ||| (iN x <<< (iN 2 &&& iN 31))) ||| iN y = iN (16 + 4 * x + y) := by
  have := b4_s (P := fun x => b4 (fun y => decide ((iN 16 ||| (iN x <<< (iN 2 &&& iN 31))) ||| iN y = iN (16 + 4 * x + y)))) (by decide +kernel) hx
  exact of_decide_eq_true (b4_s this hy)
theorem pkv_fv {v : Nat → Nat} (h : ∀ φ, v φ ≤ 3) {φ : Nat} (hφ : φ < 3) : fv (pkv v) φ = v φ := by
  have h0 := h 0
  have h1 := h 1
  have h2 := h 2
  unfold fv pkv pk3
  match φ, hφ with
  | 0, _ => simp only [Nat.pow_zero, Nat.div_one]; omega
  | 1, _ => simp only [Nat.pow_one]; omega
  | 2, _ => simp only [show 4 ^ 2 = 16 from rfl]; omega
theorem pkv_lt {v : Nat → Nat} (h : ∀ φ, v φ ≤ 3) : pkv v < 64 := pk3_lt (h 0) (h 1) (h 2)
theorem fv_pk {f : Nat} (hf : f < 64) : pkv (fv f) = f := by unfold pkv pk3 fv; simp only [Nat.pow_zero, Nat.div_one, Nat.pow_one, show 4 ^ 2 = 16 from rfl]; omega
theorem pkv_u2 {v : Nat → Nat → Nat} {a φ x : Nat} (hv : v a φ = 0) (hφ : φ < 3) : pkv (u2 v a φ x a) = pkv (v a) + x * 4 ^ φ := by
  unfold pkv pk3 u2
  match φ, hφ with
  | 0, _ => simp only [hv, true_and, if_true, if_false, show ¬ (1 = 0) by decide, show ¬ (2 = 0) by decide, Nat.pow_zero]; omega
  | 1, _ => simp only [hv, true_and, if_true, if_false, show ¬ (0 = 1) by decide, show ¬ (2 = 1) by decide, Nat.pow_one]; omega
  | 2, _ => simp only [hv, true_and, if_true, if_false, show ¬ (0 = 2) by decide, show ¬ (1 = 2) by decide, show 4 ^ 2 = 16 from rfl]; omega
theorem u2_ne {v : Nat → Nat → Nat} {a φ x b : Nat} (h : b ≠ a) : u2 v a φ x b = v b := by
  funext φ'; simp only [u2, h, false_and, if_false]
/-- the class's grammar: X2 -/
def QX2 (x G : Ob) : Prop := x 0 0 = G 21 0 ∧ (∀ g, g < 16 → x 1 g = G 22 g ∧ x 2 g = G 23 g ∧ x 3 g = G 24 g ∧ x 4 g = G 25 g ∧ x 7 g = G 26 g) ∧ ∀ i, i < 48 → x 8 i = G 27 i ∧ x 9 i = G 28 i ∧ x 10 i = G 29 i ∧ x 11 i = G 30 i
def SU (x0 : Ob) (e : Nat) (u : Uf) (y : Ob) : Prop := (∀ k, k ≠ 12 → k ≠ 13 → k ≠ 14 → y k = x0 k) ∧ (∀ a, a < 3 → y 12 a = iN (pkv (u.1 a))) ∧ y 13 0 = u.2.1 ∧ y 14 0 = iN (rlN u.2.2 e)
theorem X2_settle {x0 G y : Ob} (hx : QX2 x0 G) {g e : Nat} (he : e < 3) (hg : g < 16) {φ a b c : Nat} (hf : φ ≤ 2) (ha : a ≤ 2) (hb : b ≤ 2) (hab : a ≠ b) (hc : c ≤ 20) (e1 : G 27 (3 * g + e) = iN φ) (e2 : G 28 (3 * g + e) = iN a) (e3 : G 29 (3 * g + e) = iN b) (e4 : G 30 (3 * g + e) = iN c) {u : Uf} (hu : UB e u) (hy : SU x0 e u y) :
    wp (f_X2_settle y (iN e) (iN (g * 3 + e)) (iN a) (iN b)) (fun r => (∀ k, k ≠ 12 → k ≠ 13 → k ≠ 14 → r.2 k = x0 k) ∧ match uSt1 φ a b (iN c) e u with | none => r.1 = iN 0 | some u' => r.1 = iN 1 ∧ SU x0 (e + 1) u' r.2) := by
  obtain ⟨y1, y2, y3, y4⟩ := id hy
  obtain ⟨v3, v32, vz, -⟩ := id hu
  have hx8 := (hx.2.2 (3 * g + e) (by omega))
  have y8 : y 8 (g * 3 + e) = iN φ := by rw [y1 8 (by decide) (by decide) (by decide), Nat.mul_comm, hx8.1, e1]
  have y11 : y 11 (g * 3 + e) = iN c := by rw [y1 11 (by decide) (by decide) (by decide), Nat.mul_comm, hx8.2.2.2, e4]
  have ya := y2 a (by omega)
  have yb := y2 b (by omega)
  have pa := pkv_lt (v3 a)
  have pb := pkv_lt (v3 b)
  have fa := pkv_fv (v3 a) (show φ < 3 by omega)
  have fb' := pkv_fv (v3 b) (show φ < 3 by omega)
  have xa := v3 a φ
  have xb := v3 b φ
  have ga := fea_get pa (show φ < 3 by omega)
  have gb := fea_get pb (show φ < 3 by omega)
  rw [fa] at ga
  rw [fb'] at gb
  have zr : rlN u.2.2 (e + 1) = rlN u.2.2 e := by rw [rlN, vz e (Nat.le_refl e)]; omega
  simp (maxSteps := 4000000) (disch := omega) only [f_X2_settle, ↓nM_lit, iN_lit, iN_add, iN_mul, iN_lt, iN_le, iN_eq, iN_c, gd_iN, iN_nM, nM_iN, iN_ltM, nM_lt, nM_le, iN_leM, iN_0M, nM_p1, iN_0s1, decide_true, decide_eq_true_eq, Nat.not_lt_zero, if_true, if_false, wp_some, wp_grd, wp_lb, wp_ite, wp_b1, wp_b2, wp_b3, wp_b4, wp_b5, eq_grd, eq_lb, eq_b1, eq_b2, eq_b3, eq_b4, eq_b5, show ¬ (3 ≤ a) by omega, show ¬ (3 ≤ b) by omega, show g * 3 + e < 48 by omega, show a < 3 by omega, show b < 3 by omega, y8, ya, yb, ga, gb, true_and]
  by_cases h1 : u.1 a φ = 0
  · have oa := fea_or pa (show u.1 b φ < 4 by omega) (show φ < 3 by omega) (Or.inl (by rw [fa]; exact h1))
    have ob := fea_or pb (show 0 < 4 by omega) (show φ < 3 by omega) (Or.inr rfl)
    have yb2 : upo y 12 a (iN (pkv (u.1 a) + u.1 b φ * 4 ^ φ)) 12 b = iN (pkv (u.1 b)) := by rw [upo_ap, if_neg (by omega)]; exact yb
    rw [uSt1, if_pos h1]
    simp (disch := omega) only [h1, if_true, f_X2_settle_J78, ↓nM_lit, iN_lit, iN_add, iN_mul, iN_lt, iN_le, iN_eq, iN_c, gd_iN, iN_nM, nM_iN, iN_ltM, nM_lt, nM_le, iN_leM, iN_0M, nM_p1, iN_0s1, decide_true, decide_eq_true_eq, Nat.not_lt_zero, if_true, if_false, wp_some, wp_grd, wp_lb, wp_ite, wp_b1, wp_b2, wp_b3, wp_b4, wp_b5, eq_grd, eq_lb, eq_b1, eq_b2, eq_b3, eq_b4, eq_b5, show a < 3 by omega, show b < 3 by omega, ya, oa, yb2, ob, Nat.zero_mul, Nat.add_zero, true_and]
    refine ⟨?_, ?_, ?_, ?_, ?_⟩
    · intro k k1 k2 k3; rw [upo_ne k1, upo_ne k1]; exact y1 k k1 k2 k3
    · intro k k1 k2 k3; rw [upo_ne k1, upo_ne k1]; exact y1 k k1 k2 k3
    · intro j hj
      by_cases j1 : j = a
      · subst j1
        rw [upo_ap, if_neg (by omega), upo_ap, if_pos ⟨rfl, rfl⟩, pkv_u2 h1 (show φ < 3 by omega)]
      · show _ = iN (pkv (u2 u.1 a φ (u.1 b φ) j))
        rw [u2_ne j1, upo_ap]
        by_cases j2 : j = b
        · subst j2; rw [if_pos ⟨rfl, rfl⟩]
        · rw [if_neg (by omega), upo_ap, if_neg (by omega)]; exact y2 j hj
    · rw [upo_ne (by decide), upo_ne (by decide)]; exact y3
    · rw [upo_ne (by decide), upo_ne (by decide), zr]; exact y4
  · by_cases h2 : u.1 b φ = 0
    · have oa := fea_or pa (show 0 < 4 by omega) (show φ < 3 by omega) (Or.inr rfl)
      have ob := fea_or pb (show u.1 a φ < 4 by omega) (show φ < 3 by omega) (Or.inl (by rw [fb']; exact h2))
      have yb2 : upo y 12 a (iN (pkv (u.1 a))) 12 b = iN (pkv (u.1 b)) := by rw [upo_ap, if_neg (by omega)]; exact yb
      rw [uSt1, if_neg h1, if_pos h2]
      rw [Nat.zero_mul, Nat.add_zero] at oa
      simp (disch := omega) only [h1, h2, if_true, if_false, f_X2_settle_J78, ↓nM_lit, iN_lit, iN_add, iN_mul, iN_lt, iN_le, iN_eq, iN_c, gd_iN, iN_nM, nM_iN, iN_ltM, nM_lt, nM_le, iN_leM, iN_0M, nM_p1, iN_0s1, decide_true, decide_eq_true_eq, Nat.not_lt_zero, if_true, if_false, wp_some, wp_grd, wp_lb, wp_ite, wp_b1, wp_b2, wp_b3, wp_b4, wp_b5, eq_grd, eq_lb, eq_b1, eq_b2, eq_b3, eq_b4, eq_b5, show a < 3 by omega, show b < 3 by omega, ya, oa, yb2, ob, true_and]
      refine ⟨?_, ?_, ?_, ?_, ?_⟩
      · intro k k1 k2 k3; rw [upo_ne k1, upo_ne k1]; exact y1 k k1 k2 k3
      · intro k k1 k2 k3; rw [upo_ne k1, upo_ne k1]; exact y1 k k1 k2 k3
      · intro j hj
        by_cases j1 : j = b
        · subst j1
          rw [upo_ap, if_pos ⟨rfl, rfl⟩, pkv_u2 h2 (show φ < 3 by omega)]
        · show _ = iN (pkv (u2 u.1 b φ (u.1 a φ) j))
          rw [u2_ne j1, upo_ap, if_neg (by omega), upo_ap]
          by_cases j2 : j = a
          · subst j2; rw [if_pos ⟨rfl, rfl⟩]
          · rw [if_neg (by omega)]; exact y2 j hj
      · rw [upo_ne (by decide), upo_ne (by decide)]; exact y3
      · rw [upo_ne (by decide), upo_ne (by decide), zr]; exact y4
    · by_cases h3 : u.1 a φ = u.1 b φ
      · rw [uSt1, if_neg h1, if_neg h2, if_pos h3]
        simp (disch := omega) only [h1, h2, h3, if_true, if_false, wp_some, wp_grd, wp_lb, wp_ite, wp_b1, wp_b2, wp_b3, wp_b4, wp_b5]
        exact ⟨y1, y1, y2, y3, by rw [zr]; exact y4⟩
      · rw [uSt1, if_neg h1, if_neg h2, if_neg h3]
        have co := code_or (show u.1 a φ < 4 by omega) (show u.1 b φ < 4 by omega)
        have ro := rel_or (rlN_lt v32 e) (show 16 + 4 * u.1 a φ + u.1 b φ < 32 by omega) he
        have y14' : upo y 13 0 (y 13 0 + iN c) 14 0 = iN (rlN u.2.2 e) := by rw [upo_ne (by decide)]; exact y4
        have y11' : upo (upo y 13 0 (y 13 0 + iN c)) 14 0 (iN (rlN u.2.2 e + (16 + 4 * u.1 a φ + u.1 b φ) * 32 ^ e)) 11 (g * 3 + e) = iN c := by rw [upo_ne (by decide), upo_ne (by decide)]; exact y11
        simp (disch := omega) only [h1, h2, h3, if_false, ↓nM_lit, iN_lit, iN_add, iN_mul, iN_lt, iN_le, iN_eq, iN_c, gd_iN, iN_nM, nM_iN, iN_ltM, nM_lt, nM_le, iN_leM, iN_0M, nM_p1, iN_0s1, decide_true, decide_eq_true_eq, Nat.not_lt_zero, if_true, if_false, wp_some, wp_grd, wp_lb, wp_ite, wp_b1, wp_b2, wp_b3, wp_b4, wp_b5, eq_grd, eq_lb, eq_b1, eq_b2, eq_b3, eq_b4, eq_b5, y11, y14', co, ro, y11', show g * 3 + e < 48 by omega, true_and]
        have fr : ∀ k, k ≠ 12 → k ≠ 13 → k ≠ 14 → upo (upo y 13 0 (y 13 0 + iN c)) 14 0 (iN (rlN u.2.2 e + (16 + 4 * u.1 a φ + u.1 b φ) * 32 ^ e)) k = x0 k := fun k k1 k2 k3 => by rw [upo_ne k3, upo_ne k2]; exact y1 k k1 k2 k3
        by_cases h4 : c = 0
        · simp only [h4, Nat.le_refl, if_true]
          rw [h4] at fr
          exact ⟨fr, trivial⟩
        · simp only [h4, Nat.le_zero, if_false]
          refine ⟨fr, fr, ?_, ?_, ?_⟩
          · intro j hj; rw [upo_ne (by decide), upo_ne (by decide)]; exact y2 j hj
          · rw [upo_ne (by decide), upo_ap, if_pos ⟨rfl, rfl⟩, y3]
          · have out : ∀ k, k ≤ e → rlN (uN u.2.2 e (16 + 4 * u.1 a φ + u.1 b φ)) k = rlN u.2.2 k := by
              intro k
              induction k with
              | zero => intro _; rfl
              | succ k ik => intro hk; rw [rlN, rlN, ik (by omega), uN, if_neg (by omega)]
            rw [upo_ap, if_pos ⟨rfl, rfl⟩, rlN, out e (Nat.le_refl e)]
            simp only [uN, if_true]
