/-! The word that could mend: said once. -/
def fw (hit : Nat → Bool) : Nat → Option Nat
  | 0 => none
  | n + 1 => match fw hit n with
    | some w => some w
    | none => if hit n = true then some n else none
theorem fw_up {hit : Nat → Bool} {n w : Nat} (h : fw hit n = some w) (d : Nat) : fw hit (n + d) = some w := by
  induction d with
  | zero => exact h
  | succ d ih => rw [← Nat.add_assoc, fw, ih]
theorem fw_hit {hit : Nat → Bool} {n w : Nat} (hw : w < n) (h0 : fw hit w = none) (h1 : hit w = true) : fw hit n = some w := by
  have : fw hit (w + 1) = some w := by rw [fw, h0]; simp only [h1, if_true]
  have := fw_up this (n - (w + 1))
  rw [show w + 1 + (n - (w + 1)) = n by omega] at this
  exact this
theorem fw_no {hit : Nat → Bool} {w : Nat} (h0 : fw hit w = none) (h1 : hit w = false) : fw hit (w + 1) = none := by
  rw [fw, h0]; simp only [h1, Bool.false_eq_true, if_false]
theorem fw_lt {hit : Nat → Bool} {n w : Nat} (h : fw hit n = some w) : w < n := by
  induction n with
  | zero => cases h
  | succ n ih =>
    rw [fw] at h
    cases h2 : fw hit n with
    | none =>
      rw [h2] at h; simp only at h
      split at h
      · cases h; exact Nat.lt_succ_self _
      · cases h
    | some v => rw [h2] at h; simp only at h; cases h; exact Nat.lt_succ_of_lt (ih h2)
/-- the row r of a word is told so -/
def hitR (M : Ob) (lem cat : Int32) (P w r : Nat) : Bool := decide (M 3 (4 * w + r) = lem) && decide (M 4 (4 * w + r) = cat) && decide (pk3 (nn (M 5 (12 * w + 3 * r))) (nn (M 5 (12 * w + 3 * r + 1))) (nn (M 5 (12 * w + 3 * r + 2))) = P)
def hitL (M : Ob) (lem cat : Int32) (P w : Nat) : Nat → Bool
  | 0 => false
  | r + 1 => hitL M lem cat P w r || hitR M lem cat P w r
theorem hitL_up {M : Ob} {lem cat : Int32} {P w r : Nat} (h : hitR M lem cat P w r = true) (d : Nat) : hitL M lem cat P w (r + 1 + d) = true := by
  induction d with
  | zero => rw [Nat.add_zero, hitL, h, Bool.or_true]
  | succ d ih => rw [← Nat.add_assoc, hitL, ih, Bool.true_or]
def hitW (M : Ob) (lem cat : Int32) (P w : Nat) : Bool := hitL M lem cat P w (nn (M 2 w))
def lmM (M : Ob) (w k : Nat) : Int32 := if nn (M 2 w) = 0 then iN (100 + w) else M 3 (4 * w + k)
def stP (P φ v : Nat) : Nat := pk3 (if 0 = φ then v else fv P 0) (if 1 = φ then v else fv P 1) (if 2 = φ then v else fv P 2)
abbrev Lf : Type := Nat × Nat × Int32 × Nat
def cdW (M : Ob) (s φ v : Nat) (a : Lf) : Option Nat := fw (hitW M (lmM M (evw M s a.1) a.2.1) (eT (evS M s) a.1 a.2.1) (stP (eP (evS M s) a.1 a.2.1) φ v)) (nn (M 0 0))
def cdA (M : Ob) (s φ v : Nat) (a : Lf) : Int32 := match cdW M s φ v a with
  | none => nM
  | some w => iN (100 * a.1 + w)
/-- down to the head -/
def dn (G : Ob) : Tr → Lf
  | .leaf a => a
  | .branch g l r => if G 25 g = iN 2 then dn G r else dn G l
def wnt (G : Ob) (g e side : Nat) (u : Uf) : Option Nat := if G 28 (3 * g + e) = iN side then some (u.1 (nn (G 29 (3 * g + e))) (nn (G 27 (3 * g + e)))) else if G 29 (3 * g + e) = iN side then some (u.1 (nn (G 28 (3 * g + e))) (nn (G 27 (3 * g + e)))) else none
def cdU (G M : Ob) (s g e side : Nat) (l r : Tr) (o : Option Uf) : Int32 := match o with
  | none => nM
  | some u => match wnt G g e side u with
    | none => nM
    | some v => cdA M s (nn (G 27 (3 * g + e))) v (dn G (if side = 2 then r else l))
def cdt (G M : Ob) (s : Nat) (t : Tr) (e side : Nat) : Int32 := match t with
  | .leaf _ => nM
  | .branch g l r => cdU G M s g e side l r (uNn G g e (u0 (tF G l) (tF G r)))
/-- what a relaxed equation was -/
theorem uNn_rel {G : Ob} {g lf rf e : Nat} (hG : WGr G) (hg : g < nn (G 21 0)) (d : Nat) : ∀ U, e + 1 + d ≤ nn (G 26 g) → uNn G g (e + 1 + d) (u0 lf rf) = some U → ∃ u, uNn G g e (u0 lf rf) = some u ∧ (U.2.2 e = 0 ∨ U.2.2 e = 16 + 4 * u.1 (nn (G 28 (3 * g + e))) (nn (G 27 (3 * g + e))) + u.1 (nn (G 29 (3 * g + e))) (nn (G 27 (3 * g + e)))) := by
  induction d with
  | zero =>
    intro U hn hU
    rw [Nat.add_zero, uNn] at hU
    cases hu : uNn G g e (u0 lf rf) with
    | none => rw [hu] at hU; cases hU
    | some u =>
      rw [hu] at hU
      simp only at hU
      have hB := (UB_n hG hg (show e ≤ nn (G 26 g) by omega) hu).2.2.1 e (Nat.le_refl e)
      refine ⟨u, rfl, ?_⟩
      rw [uSt, uSt1] at hU
      split at hU
      · cases hU; exact Or.inl hB
      · split at hU
        · cases hU; exact Or.inl hB
        · split at hU
          · cases hU; exact Or.inl hB
          · split at hU
            · cases hU
            · cases hU; right; unfold uN; simp only [if_true]
  | succ d ih =>
    intro U hn hU
    rw [show e + 1 + (d + 1) = (e + 1 + d) + 1 by omega, uNn] at hU
    cases hu : uNn G g (e + 1 + d) (u0 lf rf) with
    | none => rw [hu] at hU; cases hU
    | some V =>
      rw [hu] at hU
      simp only at hU
      obtain ⟨u, h1, h2⟩ := ih V (by omega) hu
      refine ⟨u, h1, ?_⟩
      have : U.2.2 e = V.2.2 e := by
        rw [uSt, uSt1] at hU
        split at hU
        · cases hU; rfl
        · split at hU
          · cases hU; rfl
          · split at hU
            · cases hU; rfl
            · split at hU
              · cases hU
              · cases hU; show (if e = e + 1 + d then _ else V.2.2 e) = V.2.2 e; exact if_neg (by omega)
      rw [this]; exact h2
theorem tR_code {G : Ob} (hG : WGr G) {g : Nat} {l r : Tr} {e : Nat} (hw : WT G (.branch g l r)) (h : tR G (.branch g l r) e ≠ 0) : e < nn (G 26 g) ∧ ∃ u, uNn G g e (u0 (tF G l) (tF G r)) = some u ∧ (∀ a φ, u.1 a φ ≤ 3) ∧ tR G (.branch g l r) e = 16 + 4 * u.1 (nn (G 28 (3 * g + e))) (nn (G 27 (3 * g + e))) + u.1 (nn (G 29 (3 * g + e))) (nn (G 27 (3 * g + e))) := by
  have he : e < nn (G 26 g) := by
    rcases Nat.lt_or_ge e (nn (G 26 g)) with h1 | h1
    · exact h1
    · exact absurd ((tR_B hG _ hw).2 g l r rfl e h1) h
  refine ⟨he, ?_⟩
  rw [tR] at h ⊢
  cases hU : uni G g (tF G l) (tF G r) with
  | none => rw [hU] at h; exact absurd rfl h
  | some U =>
    rw [hU, uR] at h
    rw [uR]
    unfold uni at hU
    obtain ⟨u, h1, h2⟩ := uNn_rel (e := e) hG hw.1 (nn (G 26 g) - (e + 1)) U (by omega) (by rw [show e + 1 + (nn (G 26 g) - (e + 1)) = nn (G 26 g) by omega]; exact hU)
    refine ⟨u, h1, (UB_n hG hw.1 (by omega) h1).1, ?_⟩
    rcases h2 with h2 | h2
    · exact absurd h2 h
    · exact h2
theorem dn_W {G : Ob} (hG : WGr G) (t : Tr) : WT G t → WT G (.leaf (dn G t)) := by
  induction t with
  | leaf a => exact id
  | branch g l r ihl ihr =>
    intro h
    rw [dn]
    by_cases h2 : G 25 g = iN 2
    · rw [if_pos h2]
      have hun : G 24 g ≠ nM := by
        intro hu
        rcases (hG.2 g h.1).2.2.1 with ⟨-, -, h25⟩ | ⟨⟨c, hc, e⟩, -⟩
        · rw [h25] at h2; exact absurd h2 (by decide)
        · rw [e, iN_nM (by omega)] at hu; exact hu
      exact ihr (h.2.2.2.2.2 hun).1
    · rw [if_neg h2]; exact ihl h.2.1
theorem dn_LV {G : Ob} {E : Ev} (t : Tr) : LV E t → LV E (.leaf (dn G t)) := by
  induction t with
  | leaf a => exact id
  | branch g l r ihl ihr =>
    intro h
    rw [dn]
    by_cases h2 : G 25 g = iN 2
    · rw [if_pos h2]; exact ihr h.2
    · rw [if_neg h2]; exact ihl h.1
/-- a leaf of a chart of a sentence -/
theorem dn_at {G : Ob} {E : Ev} (hG : WGr G) {t : Tr} (h : WT G t) (hl : LV E t) : (dn G t).1 < eL E ∧ (dn G t).2.1 < eC E (dn G t).1 ∧ (dn G t).2.1 < 4 := by
  obtain ⟨h1, h2, ⟨c, hc, e⟩, -⟩ := dn_W hG t h
  rcases dn_LV (G := G) t hl with h3 | ⟨h3, h4, -⟩
  · rw [e, iN_nM (by omega)] at h3; exact h3.elim
  · exact ⟨h3, h4, h2⟩
