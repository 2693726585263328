/-! The law's rows beside the ghost: what holds between steps. -/
theorem upd_ap (f : Nat → Int32) (k : Nat) (v : Int32) (j : Nat) : upd f k v j = if j = k then v else f j := rfl
theorem upd_eq (f : Nat → Int32) (k : Nat) (v : Int32) : upd f k v k = v := by rw [upd_ap, if_pos rfl]
theorem upd_ne {f : Nat → Int32} {k : Nat} {v : Int32} {j : Nat} (h : j ≠ k) : upd f k v j = f j := by rw [upd_ap, if_neg h]
theorem nnI {a : Nat} (h : a < 2147483648) : nn (iN a) = a := iN_c h
abbrev Rw : Type := Nat → Int32
/-- the code of a reading: told, guessed -/
def cdM (M : Ob) (i r : Nat) : Nat := 1000 * nn (M 4 (4 * i + r)) + 100 * nn (M 5 (12 * i + 3 * r)) + 10 * nn (M 5 (12 * i + 3 * r + 1)) + nn (M 5 (12 * i + 3 * r + 2))
def cdG (M : Ob) (e : Nat) : Nat := 1000 * nn (M 7 (4 * e)) + 100 * nn (M 8 (12 * e)) + 10 * nn (M 8 (12 * e + 1)) + nn (M 8 (12 * e + 2))
def LXw (c w u : Rw) (M : Ob) : Prop := ∃ m, m ≤ 6 ∧ c 0 = iN m ∧ M 0 0 = iN m ∧
  (∀ i, i < m → ∃ e, e < 2 ∧ w (4 * i) = iN e ∧ M 1 i = iN e) ∧
  (∀ i, i < 6 → ∃ b, b ≤ 2 ∧ (m ≤ i → b = 0) ∧ w (4 * i + 1) = iN b ∧ M 2 i = iN b ∧ ∀ r, r < b → w (4 * i + 2 + r) = iN (cdM M i r)) ∧
  ∀ e, e < 2 → (u e = nM ∧ M 6 e = iN 0) ∨ (u e = iN (cdG M e) ∧ M 6 e = iN 1)
def LXt (c x : Rw) (M : Ob) : Prop := (∀ s, s < 2 → ∃ n, n ≤ 3 ∧ c (8 + s) = iN n ∧ M 9 s = iN n ∧ ∀ p, p < n → x (3 * s + p) = M 10 (6 * s + p)) ∧ M 9 2 = iN 0 ∧ M 9 3 = iN 0
def LXs (c t : Rw) (M : Ob) : Prop := ∃ n, n ≤ 4 ∧ c 1 = iN n ∧ M 15 0 = iN n ∧ ∀ g, g < n → t (5 * g) = M 16 g ∧ t (5 * g + 1) = M 17 g ∧ t (5 * g + 2) = M 18 g ∧ t (5 * g + 3) = M 19 g ∧ (M 16 g = iN 1 → t (5 * g + 4) = M 20 g)
def LXg (c g q n : Rw) (M : Ob) : Prop := ∃ m, m ≤ 5 ∧ c 2 = iN m ∧ M 21 0 = iN m ∧ (∀ r, r < m → g (4 * r) = M 22 r ∧ g (4 * r + 1) = M 23 r ∧ g (4 * r + 2) = M 24 r ∧ n r = M 26 r ∧ ∀ k, k < nn (M 26 r) → q (12 * r + k) = M 27 (3 * r + k) ∧ q (12 * r + k + 3) = M 28 (3 * r + k) ∧ q (12 * r + k + 6) = M 29 (3 * r + k) ∧ q (12 * r + k + 9) = M 30 (3 * r + k)) ∧ ∀ r, m ≤ r → r < 5 → n r = iN 0
def cat0 (v : Int32) : Prop := v = nM ∨ ∃ a, a ≤ 9 ∧ v = iN a
def LXp (c p k : Rw) (M : Ob) : Prop := ∃ m, m ≤ 6 ∧ c 3 = iN m ∧ M 59 0 = iN m ∧ (∀ i, i < m → p (5 * i) = M 60 i ∧ p (5 * i + 1) = M 61 i ∧ p (5 * i + 2) = M 62 i ∧ p (5 * i + 3) = M 63 i ∧ cat0 (M 60 i) ∧ cat0 (M 61 i) ∧ cat0 (M 62 i)) ∧ ∀ i, i < 6 → p (5 * i + 4) = M 64 i ∧ ∃ S, S < 64 ∧ k i = iN S ∧ ∀ w, w < 6 → M 65 (40 * i + w) = biN (S.testBit w)
def LXh (c h : Rw) (M : Ob) : Prop := c 4 = M 52 0 ∧ c 5 = M 53 0 ∧ ∀ s, s < 2 → c (10 + s) = M 55 s ∧ h (8 * s) = M 54 s + iN 1 ∧ h (8 * s + 1) = M 56 s ∧ (M 54 s = M 52 0 → M 56 s = M 55 s → ∀ p, p < nn (M 9 s) → h (8 * s + 2 + 2 * p) = M 57 (6 * s + p) ∧ h (8 * s + 2 + (2 * p + 1)) = M 58 (6 * s + p))
def LX (c w u x t g q n h p k : Rw) (M : Ob) : Prop := LXw c w u M ∧ LXt c x M ∧ LXs c t M ∧ LXg c g q n M ∧ LXp c p k M ∧ LXh c h M
theorem wp_b6 {A1 A2 A3 A4 A5 A6 R : Type} {o : Option (A1 × A2 × A3 × A4 × A5 × A6)} {k : A1 → A2 → A3 → A4 → A5 → A6 → Option R} {Q : R → Prop} : wp (bnd6 o k) Q ↔ wp o (fun a => wp (k a.1 a.2.1 a.2.2.1 a.2.2.2.1 a.2.2.2.2.1 a.2.2.2.2.2) Q) := by
  unfold bnd6
  cases o with
  | none => exact Iff.intro (fun ⟨_, e, _⟩ => (nomatch e)) (fun ⟨_, e, _⟩ => (nomatch e))
  | some a => exact ⟨fun h => ⟨a, rfl, h⟩, fun ⟨_, e, h⟩ => by cases e; exact h⟩
theorem eq_b6 {A1 A2 A3 A4 A5 A6 R : Type} {a : A1 × A2 × A3 × A4 × A5 × A6} {k : A1 → A2 → A3 → A4 → A5 → A6 → Option R} : bnd6 (some a) k = k a.1 a.2.1 a.2.2.1 a.2.2.2.1 a.2.2.2.2.1 a.2.2.2.2.2 := rfl
theorem wp_b7 {A1 A2 A3 A4 A5 A6 A7 R : Type} {o : Option (A1 × A2 × A3 × A4 × A5 × A6 × A7)} {k : A1 → A2 → A3 → A4 → A5 → A6 → A7 → Option R} {Q : R → Prop} : wp (bnd7 o k) Q ↔ wp o (fun a => wp (k a.1 a.2.1 a.2.2.1 a.2.2.2.1 a.2.2.2.2.1 a.2.2.2.2.2.1 a.2.2.2.2.2.2) Q) := by
  unfold bnd7
  cases o with
  | none => exact Iff.intro (fun ⟨_, e, _⟩ => (nomatch e)) (fun ⟨_, e, _⟩ => (nomatch e))
  | some a => exact ⟨fun h => ⟨a, rfl, h⟩, fun ⟨_, e, h⟩ => by cases e; exact h⟩
theorem eq_b7 {A1 A2 A3 A4 A5 A6 A7 R : Type} {a : A1 × A2 × A3 × A4 × A5 × A6 × A7} {k : A1 → A2 → A3 → A4 → A5 → A6 → A7 → Option R} : bnd7 (some a) k = k a.1 a.2.1 a.2.2.1 a.2.2.2.1 a.2.2.2.2.1 a.2.2.2.2.2.1 a.2.2.2.2.2.2 := rfl
theorem wp_b8 {A1 A2 A3 A4 A5 A6 A7 A8 R : Type} {o : Option (A1 × A2 × A3 × A4 × A5 × A6 × A7 × A8)} {k : A1 → A2 → A3 → A4 → A5 → A6 → A7 → A8 → Option R} {Q : R → Prop} : wp (bnd8 o k) Q ↔ wp o (fun a => wp (k a.1 a.2.1 a.2.2.1 a.2.2.2.1 a.2.2.2.2.1 a.2.2.2.2.2.1 a.2.2.2.2.2.2.1 a.2.2.2.2.2.2.2) Q) := by
  unfold bnd8
  cases o with
  | none => exact Iff.intro (fun ⟨_, e, _⟩ => (nomatch e)) (fun ⟨_, e, _⟩ => (nomatch e))
  | some a => exact ⟨fun h => ⟨a, rfl, h⟩, fun ⟨_, e, h⟩ => by cases e; exact h⟩
theorem eq_b8 {A1 A2 A3 A4 A5 A6 A7 A8 R : Type} {a : A1 × A2 × A3 × A4 × A5 × A6 × A7 × A8} {k : A1 → A2 → A3 → A4 → A5 → A6 → A7 → A8 → Option R} : bnd8 (some a) k = k a.1 a.2.1 a.2.2.1 a.2.2.2.1 a.2.2.2.2.1 a.2.2.2.2.2.1 a.2.2.2.2.2.2.1 a.2.2.2.2.2.2.2 := rfl
theorem wp_b9 {A1 A2 A3 A4 A5 A6 A7 A8 A9 R : Type} {o : Option (A1 × A2 × A3 × A4 × A5 × A6 × A7 × A8 × A9)} {k : A1 → A2 → A3 → A4 → A5 → A6 → A7 → A8 → A9 → Option R} {Q : R → Prop} : wp (bnd9 o k) Q ↔ wp o (fun a => wp (k a.1 a.2.1 a.2.2.1 a.2.2.2.1 a.2.2.2.2.1 a.2.2.2.2.2.1 a.2.2.2.2.2.2.1 a.2.2.2.2.2.2.2.1 a.2.2.2.2.2.2.2.2) Q) := by
  unfold bnd9
  cases o with
  | none => exact Iff.intro (fun ⟨_, e, _⟩ => (nomatch e)) (fun ⟨_, e, _⟩ => (nomatch e))
  | some a => exact ⟨fun h => ⟨a, rfl, h⟩, fun ⟨_, e, h⟩ => by cases e; exact h⟩
theorem eq_b9 {A1 A2 A3 A4 A5 A6 A7 A8 A9 R : Type} {a : A1 × A2 × A3 × A4 × A5 × A6 × A7 × A8 × A9} {k : A1 → A2 → A3 → A4 → A5 → A6 → A7 → A8 → A9 → Option R} : bnd9 (some a) k = k a.1 a.2.1 a.2.2.1 a.2.2.2.1 a.2.2.2.2.1 a.2.2.2.2.2.1 a.2.2.2.2.2.2.1 a.2.2.2.2.2.2.2.1 a.2.2.2.2.2.2.2.2 := rfl
theorem wp_b10 {A1 A2 A3 A4 A5 A6 A7 A8 A9 A10 R : Type} {o : Option (A1 × A2 × A3 × A4 × A5 × A6 × A7 × A8 × A9 × A10)} {k : A1 → A2 → A3 → A4 → A5 → A6 → A7 → A8 → A9 → A10 → Option R} {Q : R → Prop} : wp (bnd10 o k) Q ↔ wp o (fun a => wp (k a.1 a.2.1 a.2.2.1 a.2.2.2.1 a.2.2.2.2.1 a.2.2.2.2.2.1 a.2.2.2.2.2.2.1 a.2.2.2.2.2.2.2.1 a.2.2.2.2.2.2.2.2.1 a.2.2.2.2.2.2.2.2.2) Q) := by
  unfold bnd10
  cases o with
  | none => exact Iff.intro (fun ⟨_, e, _⟩ => (nomatch e)) (fun ⟨_, e, _⟩ => (nomatch e))
  | some a => exact ⟨fun h => ⟨a, rfl, h⟩, fun ⟨_, e, h⟩ => by cases e; exact h⟩
theorem eq_b10 {A1 A2 A3 A4 A5 A6 A7 A8 A9 A10 R : Type} {a : A1 × A2 × A3 × A4 × A5 × A6 × A7 × A8 × A9 × A10} {k : A1 → A2 → A3 → A4 → A5 → A6 → A7 → A8 → A9 → A10 → Option R} : bnd10 (some a) k = k a.1 a.2.1 a.2.2.1 a.2.2.2.1 a.2.2.2.2.1 a.2.2.2.2.2.1 a.2.2.2.2.2.2.1 a.2.2.2.2.2.2.2.1 a.2.2.2.2.2.2.2.2.1 a.2.2.2.2.2.2.2.2.2 := rfl
theorem wp_b11 {A1 A2 A3 A4 A5 A6 A7 A8 A9 A10 A11 R : Type} {o : Option (A1 × A2 × A3 × A4 × A5 × A6 × A7 × A8 × A9 × A10 × A11)} {k : A1 → A2 → A3 → A4 → A5 → A6 → A7 → A8 → A9 → A10 → A11 → Option R} {Q : R → Prop} : wp (bnd11 o k) Q ↔ wp o (fun a => wp (k a.1 a.2.1 a.2.2.1 a.2.2.2.1 a.2.2.2.2.1 a.2.2.2.2.2.1 a.2.2.2.2.2.2.1 a.2.2.2.2.2.2.2.1 a.2.2.2.2.2.2.2.2.1 a.2.2.2.2.2.2.2.2.2.1 a.2.2.2.2.2.2.2.2.2.2) Q) := by
  unfold bnd11
  cases o with
  | none => exact Iff.intro (fun ⟨_, e, _⟩ => (nomatch e)) (fun ⟨_, e, _⟩ => (nomatch e))
  | some a => exact ⟨fun h => ⟨a, rfl, h⟩, fun ⟨_, e, h⟩ => by cases e; exact h⟩
theorem eq_b11 {A1 A2 A3 A4 A5 A6 A7 A8 A9 A10 A11 R : Type} {a : A1 × A2 × A3 × A4 × A5 × A6 × A7 × A8 × A9 × A10 × A11} {k : A1 → A2 → A3 → A4 → A5 → A6 → A7 → A8 → A9 → A10 → A11 → Option R} : bnd11 (some a) k = k a.1 a.2.1 a.2.2.1 a.2.2.2.1 a.2.2.2.2.1 a.2.2.2.2.2.1 a.2.2.2.2.2.2.1 a.2.2.2.2.2.2.2.1 a.2.2.2.2.2.2.2.2.1 a.2.2.2.2.2.2.2.2.2.1 a.2.2.2.2.2.2.2.2.2.2 := rfl
theorem wp_b12 {A1 A2 A3 A4 A5 A6 A7 A8 A9 A10 A11 A12 R : Type} {o : Option (A1 × A2 × A3 × A4 × A5 × A6 × A7 × A8 × A9 × A10 × A11 × A12)} {k : A1 → A2 → A3 → A4 → A5 → A6 → A7 → A8 → A9 → A10 → A11 → A12 → Option R} {Q : R → Prop} : wp (bnd12 o k) Q ↔ wp o (fun a => wp (k a.1 a.2.1 a.2.2.1 a.2.2.2.1 a.2.2.2.2.1 a.2.2.2.2.2.1 a.2.2.2.2.2.2.1 a.2.2.2.2.2.2.2.1 a.2.2.2.2.2.2.2.2.1 a.2.2.2.2.2.2.2.2.2.1 a.2.2.2.2.2.2.2.2.2.2.1 a.2.2.2.2.2.2.2.2.2.2.2) Q) := by
  unfold bnd12
  cases o with
  | none => exact Iff.intro (fun ⟨_, e, _⟩ => (nomatch e)) (fun ⟨_, e, _⟩ => (nomatch e))
  | some a => exact ⟨fun h => ⟨a, rfl, h⟩, fun ⟨_, e, h⟩ => by cases e; exact h⟩
theorem eq_b12 {A1 A2 A3 A4 A5 A6 A7 A8 A9 A10 A11 A12 R : Type} {a : A1 × A2 × A3 × A4 × A5 × A6 × A7 × A8 × A9 × A10 × A11 × A12} {k : A1 → A2 → A3 → A4 → A5 → A6 → A7 → A8 → A9 → A10 → A11 → A12 → Option R} : bnd12 (some a) k = k a.1 a.2.1 a.2.2.1 a.2.2.2.1 a.2.2.2.2.1 a.2.2.2.2.2.1 a.2.2.2.2.2.2.1 a.2.2.2.2.2.2.2.1 a.2.2.2.2.2.2.2.2.1 a.2.2.2.2.2.2.2.2.2.1 a.2.2.2.2.2.2.2.2.2.2.1 a.2.2.2.2.2.2.2.2.2.2.2 := rfl
theorem wp_b13 {A1 A2 A3 A4 A5 A6 A7 A8 A9 A10 A11 A12 A13 R : Type} {o : Option (A1 × A2 × A3 × A4 × A5 × A6 × A7 × A8 × A9 × A10 × A11 × A12 × A13)} {k : A1 → A2 → A3 → A4 → A5 → A6 → A7 → A8 → A9 → A10 → A11 → A12 → A13 → Option R} {Q : R → Prop} : wp (bnd13 o k) Q ↔ wp o (fun a => wp (k a.1 a.2.1 a.2.2.1 a.2.2.2.1 a.2.2.2.2.1 a.2.2.2.2.2.1 a.2.2.2.2.2.2.1 a.2.2.2.2.2.2.2.1 a.2.2.2.2.2.2.2.2.1 a.2.2.2.2.2.2.2.2.2.1 a.2.2.2.2.2.2.2.2.2.2.1 a.2.2.2.2.2.2.2.2.2.2.2.1 a.2.2.2.2.2.2.2.2.2.2.2.2) Q) := by
  unfold bnd13
  cases o with
  | none => exact Iff.intro (fun ⟨_, e, _⟩ => (nomatch e)) (fun ⟨_, e, _⟩ => (nomatch e))
  | some a => exact ⟨fun h => ⟨a, rfl, h⟩, fun ⟨_, e, h⟩ => by cases e; exact h⟩
theorem eq_b13 {A1 A2 A3 A4 A5 A6 A7 A8 A9 A10 A11 A12 A13 R : Type} {a : A1 × A2 × A3 × A4 × A5 × A6 × A7 × A8 × A9 × A10 × A11 × A12 × A13} {k : A1 → A2 → A3 → A4 → A5 → A6 → A7 → A8 → A9 → A10 → A11 → A12 → A13 → Option R} : bnd13 (some a) k = k a.1 a.2.1 a.2.2.1 a.2.2.2.1 a.2.2.2.2.1 a.2.2.2.2.2.1 a.2.2.2.2.2.2.1 a.2.2.2.2.2.2.2.1 a.2.2.2.2.2.2.2.2.1 a.2.2.2.2.2.2.2.2.2.1 a.2.2.2.2.2.2.2.2.2.2.1 a.2.2.2.2.2.2.2.2.2.2.2.1 a.2.2.2.2.2.2.2.2.2.2.2.2 := rfl
theorem wp_b14 {A1 A2 A3 A4 A5 A6 A7 A8 A9 A10 A11 A12 A13 A14 R : Type} {o : Option (A1 × A2 × A3 × A4 × A5 × A6 × A7 × A8 × A9 × A10 × A11 × A12 × A13 × A14)} {k : A1 → A2 → A3 → A4 → A5 → A6 → A7 → A8 → A9 → A10 → A11 → A12 → A13 → A14 → Option R} {Q : R → Prop} : wp (bnd14 o k) Q ↔ wp o (fun a => wp (k a.1 a.2.1 a.2.2.1 a.2.2.2.1 a.2.2.2.2.1 a.2.2.2.2.2.1 a.2.2.2.2.2.2.1 a.2.2.2.2.2.2.2.1 a.2.2.2.2.2.2.2.2.1 a.2.2.2.2.2.2.2.2.2.1 a.2.2.2.2.2.2.2.2.2.2.1 a.2.2.2.2.2.2.2.2.2.2.2.1 a.2.2.2.2.2.2.2.2.2.2.2.2.1 a.2.2.2.2.2.2.2.2.2.2.2.2.2) Q) := by
  unfold bnd14
  cases o with
  | none => exact Iff.intro (fun ⟨_, e, _⟩ => (nomatch e)) (fun ⟨_, e, _⟩ => (nomatch e))
  | some a => exact ⟨fun h => ⟨a, rfl, h⟩, fun ⟨_, e, h⟩ => by cases e; exact h⟩
theorem eq_b14 {A1 A2 A3 A4 A5 A6 A7 A8 A9 A10 A11 A12 A13 A14 R : Type} {a : A1 × A2 × A3 × A4 × A5 × A6 × A7 × A8 × A9 × A10 × A11 × A12 × A13 × A14} {k : A1 → A2 → A3 → A4 → A5 → A6 → A7 → A8 → A9 → A10 → A11 → A12 → A13 → A14 → Option R} : bnd14 (some a) k = k a.1 a.2.1 a.2.2.1 a.2.2.2.1 a.2.2.2.2.1 a.2.2.2.2.2.1 a.2.2.2.2.2.2.1 a.2.2.2.2.2.2.2.1 a.2.2.2.2.2.2.2.2.1 a.2.2.2.2.2.2.2.2.2.1 a.2.2.2.2.2.2.2.2.2.2.1 a.2.2.2.2.2.2.2.2.2.2.2.1 a.2.2.2.2.2.2.2.2.2.2.2.2.1 a.2.2.2.2.2.2.2.2.2.2.2.2.2 := rfl
theorem wp_b15 {A1 A2 A3 A4 A5 A6 A7 A8 A9 A10 A11 A12 A13 A14 A15 R : Type} {o : Option (A1 × A2 × A3 × A4 × A5 × A6 × A7 × A8 × A9 × A10 × A11 × A12 × A13 × A14 × A15)} {k : A1 → A2 → A3 → A4 → A5 → A6 → A7 → A8 → A9 → A10 → A11 → A12 → A13 → A14 → A15 → Option R} {Q : R → Prop} : wp (bnd15 o k) Q ↔ wp o (fun a => wp (k a.1 a.2.1 a.2.2.1 a.2.2.2.1 a.2.2.2.2.1 a.2.2.2.2.2.1 a.2.2.2.2.2.2.1 a.2.2.2.2.2.2.2.1 a.2.2.2.2.2.2.2.2.1 a.2.2.2.2.2.2.2.2.2.1 a.2.2.2.2.2.2.2.2.2.2.1 a.2.2.2.2.2.2.2.2.2.2.2.1 a.2.2.2.2.2.2.2.2.2.2.2.2.1 a.2.2.2.2.2.2.2.2.2.2.2.2.2.1 a.2.2.2.2.2.2.2.2.2.2.2.2.2.2) Q) := by
  unfold bnd15
  cases o with
  | none => exact Iff.intro (fun ⟨_, e, _⟩ => (nomatch e)) (fun ⟨_, e, _⟩ => (nomatch e))
  | some a => exact ⟨fun h => ⟨a, rfl, h⟩, fun ⟨_, e, h⟩ => by cases e; exact h⟩
theorem eq_b15 {A1 A2 A3 A4 A5 A6 A7 A8 A9 A10 A11 A12 A13 A14 A15 R : Type} {a : A1 × A2 × A3 × A4 × A5 × A6 × A7 × A8 × A9 × A10 × A11 × A12 × A13 × A14 × A15} {k : A1 → A2 → A3 → A4 → A5 → A6 → A7 → A8 → A9 → A10 → A11 → A12 → A13 → A14 → A15 → Option R} : bnd15 (some a) k = k a.1 a.2.1 a.2.2.1 a.2.2.2.1 a.2.2.2.2.1 a.2.2.2.2.2.1 a.2.2.2.2.2.2.1 a.2.2.2.2.2.2.2.1 a.2.2.2.2.2.2.2.2.1 a.2.2.2.2.2.2.2.2.2.1 a.2.2.2.2.2.2.2.2.2.2.1 a.2.2.2.2.2.2.2.2.2.2.2.1 a.2.2.2.2.2.2.2.2.2.2.2.2.1 a.2.2.2.2.2.2.2.2.2.2.2.2.2.1 a.2.2.2.2.2.2.2.2.2.2.2.2.2.2 := rfl
theorem wp_b16 {A1 A2 A3 A4 A5 A6 A7 A8 A9 A10 A11 A12 A13 A14 A15 A16 R : Type} {o : Option (A1 × A2 × A3 × A4 × A5 × A6 × A7 × A8 × A9 × A10 × A11 × A12 × A13 × A14 × A15 × A16)} {k : A1 → A2 → A3 → A4 → A5 → A6 → A7 → A8 → A9 → A10 → A11 → A12 → A13 → A14 → A15 → A16 → Option R} {Q : R → Prop} : wp (bnd16 o k) Q ↔ wp o (fun a => wp (k a.1 a.2.1 a.2.2.1 a.2.2.2.1 a.2.2.2.2.1 a.2.2.2.2.2.1 a.2.2.2.2.2.2.1 a.2.2.2.2.2.2.2.1 a.2.2.2.2.2.2.2.2.1 a.2.2.2.2.2.2.2.2.2.1 a.2.2.2.2.2.2.2.2.2.2.1 a.2.2.2.2.2.2.2.2.2.2.2.1 a.2.2.2.2.2.2.2.2.2.2.2.2.1 a.2.2.2.2.2.2.2.2.2.2.2.2.2.1 a.2.2.2.2.2.2.2.2.2.2.2.2.2.2.1 a.2.2.2.2.2.2.2.2.2.2.2.2.2.2.2) Q) := by
  unfold bnd16
  cases o with
  | none => exact Iff.intro (fun ⟨_, e, _⟩ => (nomatch e)) (fun ⟨_, e, _⟩ => (nomatch e))
  | some a => exact ⟨fun h => ⟨a, rfl, h⟩, fun ⟨_, e, h⟩ => by cases e; exact h⟩
theorem eq_b16 {A1 A2 A3 A4 A5 A6 A7 A8 A9 A10 A11 A12 A13 A14 A15 A16 R : Type} {a : A1 × A2 × A3 × A4 × A5 × A6 × A7 × A8 × A9 × A10 × A11 × A12 × A13 × A14 × A15 × A16} {k : A1 → A2 → A3 → A4 → A5 → A6 → A7 → A8 → A9 → A10 → A11 → A12 → A13 → A14 → A15 → A16 → Option R} : bnd16 (some a) k = k a.1 a.2.1 a.2.2.1 a.2.2.2.1 a.2.2.2.2.1 a.2.2.2.2.2.1 a.2.2.2.2.2.2.1 a.2.2.2.2.2.2.2.1 a.2.2.2.2.2.2.2.2.1 a.2.2.2.2.2.2.2.2.2.1 a.2.2.2.2.2.2.2.2.2.2.1 a.2.2.2.2.2.2.2.2.2.2.2.1 a.2.2.2.2.2.2.2.2.2.2.2.2.1 a.2.2.2.2.2.2.2.2.2.2.2.2.2.1 a.2.2.2.2.2.2.2.2.2.2.2.2.2.2.1 a.2.2.2.2.2.2.2.2.2.2.2.2.2.2.2 := rfl
