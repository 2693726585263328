/-! What a sentence is read from, and what striking leaves: said once, of both. -/
abbrev Ev : Type := Nat × (Nat → Nat) × (Nat → Nat → Int32) × (Nat → Nat → Nat)
/-- words; readings at a place; category and packed features of a reading at a place -/
def eL (E : Ev) : Nat := E.1
def eC (E : Ev) (p : Nat) : Nat := E.2.1 p
def eT (E : Ev) (p k : Nat) : Int32 := E.2.2.1 p k
def eP (E : Ev) (p k : Nat) : Nat := E.2.2.2 p k
def lo (l : Nat) (b : Nat → Bool) : Nat := (if l.testBit 0 && b 0 then 1 else 0) + (if l.testBit 1 && b 1 then 2 else 0) + (if l.testBit 2 && b 2 then 4 else 0) + (if l.testBit 3 && b 3 then 8 else 0)
def lf (E : Ev) (L : Nat → Nat) (p : Nat) (c : Int32) : Nat := if p < eL E then lo (L p) (fun k => decide (eT E p k = c)) else 0
/-- SEEN: from t on -/
def sGo (R : Ob) (E : Ev) (L : Nat → Nat) (g : Nat) : Nat → Int32 → Bool
  | 0, _ => false
  | n + 1, t => if t < iN 0 then false else if iN (eL E) ≤ t then false else
      if R 20 g ≠ nM ∧ R 20 g ≠ R 19 g ∧ lf E L t.toNatClampNeg (R 20 g) ≠ 0 then false else
      if lf E L t.toNatClampNeg (R 19 g) ≠ 0 then true else sGo R E L g n (t + R 18 g)
def sSu (R : Ob) (E : Ev) (L : Nat → Nat) (g : Nat) (t : Int32) : Bool :=
  if t < iN 0 then false else if iN (eL E) ≤ t then false else decide (L t.toNatClampNeg ≠ 0) && decide (lf E L t.toNatClampNeg (R 19 g) = L t.toNatClampNeg)
def sHo (R : Ob) (E : Ev) (L : Nat → Nat) (g p : Nat) : Bool := if R 16 g = iN 0 then sSu R E L g (iN p + R 18 g) else sGo R E L g 6 (iN p + R 18 g)
def uN (f : Nat → Nat) (k v : Nat) : Nat → Nat := fun j => if j = k then v else f j
abbrev Sk : Type := Bool × (Nat → Nat)
def s1 (R : Ob) (E : Ev) (g p : Nat) (s : Sk) : Sk :=
  if lf E s.2 p (R 17 g) ≠ 0 ∧ lf E s.2 p (R 17 g) ≠ s.2 p ∧ sHo R E s.2 g p = true then (true, uN s.2 p (s.2 p - lf E s.2 p (R 17 g))) else s
def sP (R : Ob) (E : Ev) (g : Nat) : Nat → Sk → Sk
  | 0, s => s
  | k + 1, s => s1 R E g k (sP R E g k s)
def sR (R : Ob) (E : Ev) : Nat → Sk → Sk
  | 0, s => s
  | k + 1, s => sP R E k (eL E) (sR R E k s)
def rnd (R : Ob) (E : Ev) (L : Nat → Nat) : Sk := sR R E (R 15 0).toNatClampNeg (false, L)
def sI (R : Ob) (E : Ev) : Nat → (Nat → Nat) → (Nat → Nat)
  | 0, L => L
  | n + 1, L => if (rnd R E L).1 = true then sI R E n (rnd R E L).2 else (rnd R E L).2
def l0 (E : Ev) (p : Nat) : Nat := 2 ^ eC E p - 1
def stk (R : Ob) (E : Ev) : Nat → Nat := sI R E 25 (l0 E)
/-- an environment in its bounds -/
def EvB (E : Ev) : Prop := eL E ≤ 6 ∧ ∀ p, p < eL E → eC E p ≤ 4 ∧ ∀ k, k < eC E p → eP E p k < 64 ∧ ∃ a, a ≤ 9 ∧ eT E p k = iN a
def LB (E : Ev) (L : Nat → Nat) : Prop := ∀ p, p < eL E → L p < 2 ^ eC E p
/-- bits, by cases -/
def b16 (P : Nat → Bool) : Bool := (List.range 16).all P
theorem b16_s {P : Nat → Bool} (h : b16 P = true) {l : Nat} (hl : l < 16) : P l = true := by
  unfold b16 at h
  rw [List.all_eq_true] at h
  exact h l (List.mem_range.mpr hl)
def b4 (P : Nat → Bool) : Bool := (List.range 4).all P
theorem b4_s {P : Nat → Bool} (h : b4 P = true) {l : Nat} (hl : l < 4) : P l = true := by
  unfold b4 at h
  rw [List.all_eq_true] at h
  exact h l (List.mem_range.mpr hl)
theorem bit_0 {l k : Nat} (hl : l < 16) (hk : k < 4) : ((iN l >>> (iN k &&& iN 31)) &&& iN 1 = iN 0) ↔ l.testBit k = false := by
  have := b4_s (P := fun k => b16 (fun l => decide (((iN l >>> (iN k &&& iN 31)) &&& iN 1 = iN 0) ↔ l.testBit k = false))) (by decide) hk
  exact of_decide_eq_true (b16_s this hl)
theorem bit_1 {l k : Nat} (hl : l < 16) (hk : k < 4) : ((iN l >>> (iN k &&& iN 31)) &&& iN 1 = iN 1) ↔ l.testBit k = true := by
  have := b4_s (P := fun k => b16 (fun l => decide (((iN l >>> (iN k &&& iN 31)) &&& iN 1 = iN 1) ↔ l.testBit k = true))) (by decide) hk
  exact of_decide_eq_true (b16_s this hl)
theorem bit_or {s k : Nat} (hs : s < 2 ^ k) (hk : k < 4) : iN s ||| (iN 1 <<< (iN k &&& iN 31)) = iN (s + 2 ^ k) := by
  have := b4_s (P := fun k => b16 (fun s => decide (s < 2 ^ k → iN s ||| (iN 1 <<< (iN k &&& iN 31)) = iN (s + 2 ^ k)))) (by decide) hk
  exact of_decide_eq_true (b16_s this (Nat.lt_of_lt_of_le hs (by have : 2 ^ k ≤ 2 ^ 3 := Nat.pow_le_pow_right (by decide) (by omega); omega))) hs
theorem bit_or0 {s : Nat} : iN s ||| iN 0 = iN s := Int32.or_zero
theorem bit_full {n : Nat} (h : n ≤ 4) : (iN 1 <<< (iN n &&& iN 31)) - iN 1 = iN (2 ^ n - 1) := by
  have : n < 5 := by omega
  match n, this with
  | 0, _ => decide
  | 1, _ => decide
  | 2, _ => decide
  | 3, _ => decide
  | 4, _ => decide
def mk4 (a b c d : Bool) (k : Nat) : Bool := if k = 0 then a else if k = 1 then b else if k = 2 then c else d
theorem lo_mk (l : Nat) (b : Nat → Bool) : lo l b = lo l (mk4 (b 0) (b 1) (b 2) (b 3)) := rfl
theorem lo_all {P : Nat → Nat → Bool} (h : b16 (fun l => P l (lo l (mk4 false false false false)) && P l (lo l (mk4 true false false false)) && P l (lo l (mk4 false true false false)) && P l (lo l (mk4 true true false false)) && P l (lo l (mk4 false false true false)) && P l (lo l (mk4 true false true false)) && P l (lo l (mk4 false true true false)) && P l (lo l (mk4 true true true false)) && P l (lo l (mk4 false false false true)) && P l (lo l (mk4 true false false true)) && P l (lo l (mk4 false true false true)) && P l (lo l (mk4 true true false true)) && P l (lo l (mk4 false false true true)) && P l (lo l (mk4 true false true true)) && P l (lo l (mk4 false true true true)) && P l (lo l (mk4 true true true true))) = true) {l : Nat} (hl : l < 16) (b : Nat → Bool) : P l (lo l b) = true := by
  have := b16_s h hl
  simp only [Bool.and_eq_true] at this
  rw [lo_mk]
  cases b 0 <;> cases b 1 <;> cases b 2 <;> cases b 3 <;> simp only [this]
def pc4 (l : Nat) : Nat := l % 2 + l / 2 % 2 + l / 4 % 2 + l / 8 % 2
theorem lo_lt {l : Nat} (hl : l < 16) (b : Nat → Bool) : lo l b < 16 :=
  of_decide_eq_true (lo_all (P := fun _ s => decide (s < 16)) (by decide) hl b)
theorem lo_le {l : Nat} (hl : l < 16) (b : Nat → Bool) : lo l b ≤ l :=
  of_decide_eq_true (lo_all (P := fun l s => decide (s ≤ l)) (by decide) hl b)
theorem lo_out {l : Nat} (hl : l < 16) (b : Nat → Bool) : iN l &&& (iN (lo l b) ^^^ nM) = iN (l - lo l b) :=
  of_decide_eq_true (lo_all (P := fun l s => decide (iN l &&& (iN s ^^^ nM) = iN (l - s))) (by decide) hl b)
theorem lo_pc {l : Nat} (hl : l < 16) (b : Nat → Bool) (h : lo l b ≠ 0) : pc4 (l - lo l b) < pc4 l :=
  of_decide_eq_true (lo_all (P := fun l s => decide (s ≠ 0 → pc4 (l - s) < pc4 l)) (by decide) hl b) h
theorem lo_cg {l : Nat} {b b' : Nat → Bool} (h : ∀ k, k < 4 → l.testBit k = true → b k = b' k) : lo l b = lo l b' := by
  unfold lo
  have h0 := h 0 (by decide)
  have h1 := h 1 (by decide)
  have h2 := h 2 (by decide)
  have h3 := h 3 (by decide)
  cases e0 : l.testBit 0 <;> cases e1 : l.testBit 1 <;> cases e2 : l.testBit 2 <;> cases e3 : l.testBit 3 <;> simp_all
def loK (l : Nat) (b : Nat → Bool) : Nat → Nat
  | 0 => 0
  | k + 1 => loK l b k + if l.testBit k && b k then 2 ^ k else 0
theorem loK_lt (l : Nat) (b : Nat → Bool) (k : Nat) : loK l b k < 2 ^ k := by
  induction k with
  | zero => exact Nat.one_pos
  | succ k ih => rw [loK, Nat.pow_succ]; split <;> omega
theorem loK_4 (l : Nat) (b : Nat → Bool) : loK l b 4 = lo l b := by
  simp only [loK, lo, Nat.zero_add, Nat.pow_zero, Nat.reducePow]
theorem loK_t {l : Nat} {b : Nat → Bool} {k : Nat} (h : l.testBit k = true) (hb : b k = true) : loK l b (k + 1) = loK l b k + 2 ^ k := by
  rw [loK, h, hb]; rfl
theorem loK_f {l : Nat} {b : Nat → Bool} {k : Nat} (h : l.testBit k = true → b k = false) : loK l b (k + 1) = loK l b k := by
  rw [loK]
  cases h1 : l.testBit k
  · rfl
  · rw [h h1]; rfl
theorem loK_cn {l c : Nat} {b : Nat → Bool} (hl : l < 2 ^ c) (hc : c ≤ 4) : loK l b c = lo l b := by
  rw [← loK_4]
  have : ∀ d, c + d ≤ 4 → loK l b (c + d) = loK l b c := by
    intro d
    induction d with
    | zero => intro _; rfl
    | succ d ih =>
      intro h
      rw [← Nat.add_assoc, loK_f, ih (by omega)]
      intro hb
      have := Nat.testBit_lt_two_pow (Nat.lt_of_lt_of_le hl (Nat.pow_le_pow_right (by decide) (show c ≤ c + d by omega)))
      rw [this] at hb; cases hb
  have h := this (4 - c) (by omega)
  rw [show c + (4 - c) = 4 by omega] at h
  exact h.symm
