/-! The law lays edges into its rows. -/
def lsp (b w : Nat) : Nat := if w = 1 then b else if w = 2 then 3 + b else 5
theorem L_span {b w : Nat} (hb : b < 100) (hw : w < 100) : f_L_span (iN b) (iN w) = some (iN (lsp b w)) := by
  unfold lsp
  by_cases h1 : w = 1
  · simp (disch := omega) only [f_L_span, ↓nM_lit, iN_lit, iN_add, iN_mul, iN_lt, iN_le, iN_eq, iN_c, gd_iN, iN_nM, nM_iN, iN_ltM, nM_lt, nM_le, iN_leM, iN_0M, nM_p1, iN_0s1, decide_true, decide_eq_true_eq, Nat.not_lt_zero, if_true, if_false, h1]
  · by_cases h2 : w = 2
    · simp (disch := omega) only [f_L_span, ↓nM_lit, iN_lit, iN_add, iN_mul, iN_lt, iN_le, iN_eq, iN_c, gd_iN, iN_nM, nM_iN, iN_ltM, nM_lt, nM_le, iN_leM, iN_0M, nM_p1, iN_0s1, decide_true, decide_eq_true_eq, Nat.not_lt_zero, if_true, if_false, h2, show ¬ (2 = 1) by decide]
    · simp (disch := omega) only [f_L_span, ↓nM_lit, iN_lit, iN_add, iN_mul, iN_lt, iN_le, iN_eq, iN_c, gd_iN, iN_nM, nM_iN, iN_ltM, nM_lt, nM_le, iN_leM, iN_0M, nM_p1, iN_0s1, decide_true, decide_eq_true_eq, Nat.not_lt_zero, if_true, if_false, h1, h2]
theorem lsp_lt {b w : Nat} (h1 : 1 ≤ w) (h2 : b + w ≤ 3) : lsp b w < 6 := by unfold lsp; split; omega; split <;> omega
theorem lsp_inj {b w b' w' : Nat} (h1 : 1 ≤ w) (h2 : b + w ≤ 3) (k1 : 1 ≤ w') (k2 : b' + w' ≤ 3) (h : lsp b w = lsp b' w') : b = b' ∧ w = w' := by
  unfold lsp at h
  split at h
  · split at h
    · omega
    · split at h <;> omega
  · split at h
    · split at h
      · omega
      · split at h <;> omega
    · split at h
      · omega
      · split at h <;> omega
theorem sp_inj {b w b' w' : Nat} (h1 : 1 ≤ w) (h2 : b + w ≤ 6) (k1 : 1 ≤ w') (k2 : b' + w' ≤ 6) (h : 6 * b + w - 1 = 6 * b' + w' - 1) : b = b' ∧ w = w' := by omega
abbrev Cy : Type := Rw × Rw × Rw × Rw × Rw × Rw
def yc (y : Cy) : Rw := y.1
def ye (y : Cy) : Rw := y.2.1
def yj (y : Cy) : Rw := y.2.2.1
def ya (y : Cy) : Rw := y.2.2.2.1
def yb (y : Cy) : Rw := y.2.2.2.2.1
def ym (y : Cy) : Rw := y.2.2.2.2.2
/-- row i of the edges is the tree's -/
def LT (y : Cy) (G : Ob) : Tr → Nat → Prop
  | .leaf x, i => ye y i = iN (1000 * nn x.2.2.1 + dec x.2.2.2) ∧ yj y i = iN 0 ∧ ya y i = iN 0
  | .branch g l r, i => ∃ il ir, ye y i = iN (1000 * nn (G 22 g) + dec (tF G (.branch g l r))) ∧ yj y i = tK G (.branch g l r) ∧ ya y i = iN (10000 * ir + 100 * (il + 1) + g + 1) ∧ il < i ∧ LT y G l il ∧ (G 24 g = nM → ir = 0) ∧ (G 24 g ≠ nM → ∃ q, q < i ∧ ir = q + 1 ∧ LT y G r q)
theorem LT_2 {y : Cy} {G : Ob} {t : Tr} {i : Nat} (h : LT y G t i) : ye y i = iN (1000 * nn (tC G t) + dec (tF G t)) ∧ yj y i = tK G t := by
  cases t with
  | leaf x => exact ⟨h.1, h.2.1⟩
  | branch g l r => obtain ⟨il, ir, h1, h2, -⟩ := h; exact ⟨h1, h2⟩
def oldL (n : Nat) (y z : Cy) : Prop := ∀ i, i < n → ye z i = ye y i ∧ yj z i = yj y i ∧ ya z i = ya y i
theorem oldL_r {n : Nat} {y : Cy} : oldL n y y := fun _ _ => ⟨rfl, rfl, rfl⟩
theorem oldL_t {n m : Nat} {x y z : Cy} (hnm : n ≤ m) (h1 : oldL n x y) (h2 : oldL m y z) : oldL n x z := fun i hi => by
  obtain ⟨a1, a2, a3⟩ := h1 i hi
  obtain ⟨b1, b2, b3⟩ := h2 i (by omega)
  exact ⟨b1.trans a1, b2.trans a2, b3.trans a3⟩
theorem LT_mono {y z : Cy} {G : Ob} {n : Nat} (h : oldL n y z) : ∀ (t : Tr) (i : Nat), i < n → LT y G t i → LT z G t i := by
  intro t
  induction t with
  | leaf x =>
    intro i hi ht
    obtain ⟨e1, e2, e3⟩ := h i hi
    exact ⟨e1.trans ht.1, e2.trans ht.2.1, e3.trans ht.2.2⟩
  | branch g l r ihl ihr =>
    intro i hi ht
    obtain ⟨il, ir, h1, h2, h3, h4, h5, h6, h7⟩ := ht
    obtain ⟨e1, e2, e3⟩ := h i hi
    refine ⟨il, ir, e1.trans h1, e2.trans h2, e3.trans h3, h4, ihl il (by omega) h5, h6, fun hu => ?_⟩
    obtain ⟨q, q1, q2, q3⟩ := h7 hu
    exact ⟨q, q1, q2, ihr q (by omega) q3⟩
/-- the law's rows hold a chart of at most three words, n edges made -/
def LCh (y : Cy) (G : Ob) (ch : Ch) (n : Nat) : Prop := yc y 6 = iN n ∧ n ≤ 64 ∧ ∀ b0 w, 1 ≤ w → b0 + w ≤ 3 → ym y (lsp b0 w) = iN (ch (6 * b0 + w - 1)).length ∧ ∀ i, i < (ch (6 * b0 + w - 1)).length → ∃ d, d < n ∧ yb y (8 * lsp b0 w + i) = iN d ∧ LT y G ((ch (6 * b0 + w - 1)).getD i dum) d
theorem findIdx_of {p : Tr → Bool} : ∀ (l : List Tr) (k : Nat), k ≤ l.length → (∀ i, i < k → p (l.getD i dum) = false) → (k < l.length → p (l.getD k dum) = true) → l.findIdx p = k := by
  intro l
  induction l with
  | nil => intro k hk _ _; simp at hk; subst hk; rfl
  | cons a l ih =>
    intro k hk h1 h2
    cases k with
    | zero =>
      have := h2 (by simp)
      rw [List.findIdx_cons]
      have e : p a = true := this
      rw [e]; rfl
    | succ k =>
      have e : p a = false := h1 0 (by omega)
      rw [List.findIdx_cons, e]
      have := ih k (by simpa using hk) (fun i hi => h1 (i + 1) (by omega)) (fun hl => h2 (by simpa using hl))
      rw [this]; rfl
theorem L_find {y : Cy} {G : Ob} {ch : Ch} {n : Nat} (hx : LCh y G ch n) (hG : WGr G) {b0 w : Nat} (hw1 : 1 ≤ w) (hw3 : b0 + w ≤ 3) (h8 : (ch (6 * b0 + w - 1)).length ≤ 8) (hw : ∀ t, t ∈ ch (6 * b0 + w - 1) → WT G t) {t : Tr} (htC : ∃ c, c ≤ 9 ∧ tC G t = iN c) (htF : tF G t < 64) (k v9 : Int32) :
    wp (f_L_lays_L10 400 (yc y) (ye y) (yj y) (ya y) (yb y) (ym y) (iN (lsp b0 w)) (iN (1000 * nn (tC G t) + dec (tF G t))) k v9 (iN (ch (6 * b0 + w - 1)).length) (iN 0)) (fun r => r.1 = iN (adI G ch (6 * b0 + w - 1) t)) := by
  obtain ⟨h6, h64, hxs⟩ := hx
  obtain ⟨hm, hb⟩ := hxs b0 w hw1 hw3
  have hs := lsp_lt hw1 hw3
  obtain ⟨ct, hct, ect⟩ := htC
  have hnt : nn (tC G t) = ct := by rw [ect, nn, iN_c (by omega)]
  have hdt := dec_le (tF G t)
  generalize hl : ch (6 * b0 + w - 1) = ls at *
  unfold adI
  rw [hl]
  refine lp_up (F := fun f (p : Int32) i => f_L_lays_L10 f (yc y) (ye y) (yj y) (ya y) (yb y) (ym y) (iN (lsp b0 w)) (iN (1000 * nn (tC G t) + dec (tF G t))) k v9 p i) (V := fun i p => ∃ a, p = iN a ∧ ((a = ls.length ∧ ∀ q, q < i → al G t (ls.getD q dum) = false) ∨ (a < i ∧ al G t (ls.getD a dum) = true ∧ ∀ q, q < a → al G t (ls.getD q dum) = false))) (hi := ls.length) ?_ 400 0 (iN ls.length) (by omega) (by omega) ⟨_, rfl, Or.inl ⟨rfl, fun q hq => absurd hq (Nat.not_lt_zero _)⟩⟩
  intro f p i hi ⟨a, ea, hv⟩ hk
  subst ea
  have ha8 : a ≤ 8 := by rcases hv with ⟨h1, -⟩ | ⟨h1, -⟩ <;> omega
  by_cases he : i = ls.length
  · subst he
    simp (disch := omega) only [f_L_lays_L10, ↓nM_lit, iN_lit, iN_add, iN_mul, iN_lt, iN_le, iN_eq, iN_c, gd_iN, iN_nM, nM_iN, iN_ltM, nM_lt, nM_le, iN_leM, iN_0M, nM_p1, iN_0s1, decide_true, decide_eq_true_eq, Nat.not_lt_zero, if_true, if_false, wp_some, wp_grd, wp_lb, wp_ite, wp_b1, wp_b2, wp_b3, wp_b4, wp_b5, eq_grd, eq_lb, eq_b1, eq_b2, eq_b3, eq_b4, eq_b5, hs, hm, Nat.le_refl, true_and]
    congr 1
    rcases hv with ⟨h1, h2⟩ | ⟨h1, h2, h3⟩
    · exact (findIdx_of ls a (by omega) (fun q hq => h2 q (by omega)) (fun h => by omega)).symm
    · exact (findIdx_of ls a (by omega) h3 (fun _ => h2)).symm
  · have hi' : i < ls.length := by omega
    obtain ⟨d, hd, ebd, hT⟩ := hb i hi'
    have hmem : ls.getD i dum ∈ ls := getD_mem hi'
    have hWT := hw _ hmem
    obtain ⟨c2, hc2, ec2⟩ := tC_le hG _ hWT
    have hn2 : nn (tC G (ls.getD i dum)) = c2 := by rw [ec2, nn, iN_c (by omega)]
    have hF2 := tF_lt hG _ hWT
    have hd2 := dec_le (tF G (ls.getD i dum))
    have ee := (LT_2 hT).1
    have eqc : (1000 * nn (tC G (ls.getD i dum)) + dec (tF G (ls.getD i dum)) = 1000 * nn (tC G t) + dec (tF G t)) ↔ al G t (ls.getD i dum) = true := by
      unfold al
      rw [Bool.and_eq_true, decide_eq_true_eq, decide_eq_true_eq, hn2, hnt, ec2, ect, iN_eq (by omega) (by omega)]
      have := dec_inj hF2 htF
      rw [iN_eq (by omega) (by omega)] at this
      rw [← this]
      omega
    by_cases ha : a = ls.length
    · have hv' : ∀ q, q < i → al G t (ls.getD q dum) = false := by
        rcases hv with ⟨-, h2⟩ | ⟨h1, -⟩
        · exact h2
        · omega
      by_cases hal : al G t (ls.getD i dum) = true
      · have hc := eqc.mpr hal
        simp (disch := omega) only [f_L_lays_L10, ↓nM_lit, iN_lit, iN_add, iN_mul, iN_lt, iN_le, iN_eq, iN_c, gd_iN, iN_nM, nM_iN, iN_ltM, nM_lt, nM_le, iN_leM, iN_0M, nM_p1, iN_0s1, decide_true, decide_eq_true_eq, Nat.not_lt_zero, if_true, if_false, wp_some, wp_grd, wp_lb, wp_ite, wp_b1, wp_b2, wp_b3, wp_b4, wp_b5, eq_grd, eq_lb, eq_b1, eq_b2, eq_b3, eq_b4, eq_b5, hs, hm, show ¬ (ls.length ≤ i) by omega, ha, show 8 * lsp b0 w + i < 48 by omega, ebd, show d < 64 by omega, ee, hc, true_and]
        exact hk (iN i) hi' ⟨i, rfl, Or.inr ⟨by omega, hal, hv'⟩⟩
      · have hc : ¬ (1000 * nn (tC G (ls.getD i dum)) + dec (tF G (ls.getD i dum)) = 1000 * nn (tC G t) + dec (tF G t)) := fun h => hal (eqc.mp h)
        simp (disch := omega) only [f_L_lays_L10, ↓nM_lit, iN_lit, iN_add, iN_mul, iN_lt, iN_le, iN_eq, iN_c, gd_iN, iN_nM, nM_iN, iN_ltM, nM_lt, nM_le, iN_leM, iN_0M, nM_p1, iN_0s1, decide_true, decide_eq_true_eq, Nat.not_lt_zero, if_true, if_false, wp_some, wp_grd, wp_lb, wp_ite, wp_b1, wp_b2, wp_b3, wp_b4, wp_b5, eq_grd, eq_lb, eq_b1, eq_b2, eq_b3, eq_b4, eq_b5, hs, hm, show ¬ (ls.length ≤ i) by omega, ha, show 8 * lsp b0 w + i < 48 by omega, ebd, show d < 64 by omega, ee, hc, true_and]
        refine hk (iN ls.length) hi' ⟨_, rfl, Or.inl ⟨rfl, fun q hq => ?_⟩⟩
        by_cases e : q = i
        · rw [e]; exact Bool.eq_false_iff.mpr hal
        · exact hv' q (by omega)
    · have hv' : a < i ∧ al G t (ls.getD a dum) = true ∧ ∀ q, q < a → al G t (ls.getD q dum) = false := by
        rcases hv with ⟨h1, -⟩ | h1
        · exact absurd h1 ha
        · exact h1
      simp (disch := omega) only [f_L_lays_L10, ↓nM_lit, iN_lit, iN_add, iN_mul, iN_lt, iN_le, iN_eq, iN_c, gd_iN, iN_nM, nM_iN, iN_ltM, nM_lt, nM_le, iN_leM, iN_0M, nM_p1, iN_0s1, decide_true, decide_eq_true_eq, Nat.not_lt_zero, if_true, if_false, wp_some, wp_grd, wp_lb, wp_ite, wp_b1, wp_b2, wp_b3, wp_b4, wp_b5, eq_grd, eq_lb, eq_b1, eq_b2, eq_b3, eq_b4, eq_b5, hs, hm, show ¬ (ls.length ≤ i) by omega, ha, true_and]
      exact hk (iN a) hi' ⟨a, rfl, Or.inr ⟨by omega, hv'.2⟩⟩
