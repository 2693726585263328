/-! Numbers, outcomes, loops: the tools of the mathematics. -/
def iN (n : Nat) : Int32 := Int32.ofNat n
def nM : Int32 := -1
theorem iN_t {n : Nat} (h : n < 2147483648) : (iN n).toInt = (n : Int) := Int32.toInt_ofNat_of_lt h
theorem nM_t : nM.toInt = -1 := by decide
theorem iN_c {n : Nat} (h : n < 2147483648) : (iN n).toNatClampNeg = n := Int32.toNatClampNeg_ofNat_of_lt h
theorem iN_lt {a b : Nat} (ha : a < 2147483648) (hb : b < 2147483648) : (iN a < iN b) ↔ a < b := by
  rw [Int32.lt_iff_toInt_lt, iN_t ha, iN_t hb]; omega
theorem iN_le {a b : Nat} (ha : a < 2147483648) (hb : b < 2147483648) : (iN a ≤ iN b) ↔ a ≤ b := by
  rw [Int32.le_iff_toInt_le, iN_t ha, iN_t hb]; omega
theorem iN_eq {a b : Nat} (ha : a < 2147483648) (hb : b < 2147483648) : (iN a = iN b) ↔ a = b := by
  rw [← Int32.toInt_inj, iN_t ha, iN_t hb]; omega
theorem iN_add (a b : Nat) : iN a + iN b = iN (a + b) := (Int32.ofNat_add a b).symm
theorem iN_mul (a b : Nat) : iN a * iN b = iN (a * b) := (Int32.ofNat_mul a b).symm
theorem iN_sub {a b : Nat} (h : b ≤ a) : iN a - iN b = iN (a - b) := by
  have e : iN a = iN (a - b) + iN b := by rw [iN_add, Nat.sub_add_cancel h]
  rw [e, Int32.add_sub_cancel]
theorem iN_lit (k : Nat) : (no_index (OfNat.ofNat k) : Int32) = iN k := rfl
theorem nM_lit : (-1 : Int32) = nM := rfl
theorem iN_0 : (0 : Int32) = iN 0 := rfl
theorem iN_1 : (1 : Int32) = iN 1 := rfl
theorem iN_nM {a : Nat} (h : a < 2147483648) : (iN a = nM) ↔ False := by
  rw [← Int32.toInt_inj, iN_t h, nM_t]; exact ⟨fun e => by omega, False.elim⟩
theorem nM_iN {a : Nat} (h : a < 2147483648) : (nM = iN a) ↔ False := by
  rw [← Int32.toInt_inj, iN_t h, nM_t]; exact ⟨fun e => by omega, False.elim⟩
theorem iN_lt0 {a : Nat} (h : a < 2147483648) : (iN a < iN 0) ↔ False := by
  rw [iN_lt h (by decide)]; exact ⟨fun e => by omega, False.elim⟩
theorem iN_ltM {a : Nat} (h : a < 2147483648) : (iN a < nM) ↔ False := by
  rw [Int32.lt_iff_toInt_lt, iN_t h, nM_t]; exact ⟨fun e => by omega, False.elim⟩
theorem nM_lt {a : Nat} (h : a < 2147483648) : (nM < iN a) ↔ True := by
  rw [Int32.lt_iff_toInt_lt, iN_t h, nM_t]; exact ⟨fun _ => trivial, fun _ => by omega⟩
theorem nM_le {a : Nat} (h : a < 2147483648) : (nM ≤ iN a) ↔ True := by
  rw [Int32.le_iff_toInt_le, iN_t h, nM_t]; exact ⟨fun _ => trivial, fun _ => by omega⟩
theorem iN_leM {a : Nat} (h : a < 2147483648) : (iN a ≤ nM) ↔ False := by
  rw [Int32.le_iff_toInt_le, iN_t h, nM_t]; exact ⟨fun e => by omega, False.elim⟩
theorem iN_pM {a : Nat} (h : 0 < a) : iN a + nM = iN (a - 1) := by
  have e : iN a = iN (a - 1) + iN 1 := by rw [iN_add, Nat.sub_add_cancel h]
  have e2 : iN 1 + nM = iN 0 := by decide
  rw [e, Int32.add_assoc, e2, iN_add, Nat.add_zero]
theorem iN_0M : iN 0 + nM = nM := by decide
theorem nM_p1 : nM + iN 1 = iN 0 := by decide
theorem iN_s1 {a : Nat} (h : 0 < a) : iN a - iN 1 = iN (a - 1) := iN_sub h
theorem iN_0s1 : iN 0 - iN 1 = nM := by decide
theorem gd_iN {a n : Nat} (h : a < 2147483648) : gd (iN a) n = decide (a < n) := by
  unfold gd
  rw [iN_c h]
  have : ¬ (iN a < 0) := by show ¬ (iN a < iN 0); rw [iN_lt0 h]; exact id
  simp only [this, false_or, Nat.not_le]
theorem iN_ex {p : Int32} {n : Nat} (h0 : ¬ p < 0) (h1 : p < iN n) (hn : n < 2147483648) : ∃ a, a < n ∧ p = iN a := by
  have a0 : 0 ≤ p.toInt := by
    have := h0; rw [Int32.lt_iff_toInt_lt] at this; have z : (0 : Int32).toInt = 0 := by decide
    rw [z] at this; omega
  rw [Int32.lt_iff_toInt_lt, iN_t hn] at h1
  refine ⟨p.toNatClampNeg, ?_, ?_⟩
  · have := Int32.toNat_toInt p; omega
  · exact (Int32.ofNat_toNatClampNeg p (by rw [Int32.le_iff_toInt_le]; exact a0)).symm
theorem i32_nlt {a b : Int32} : ¬ a < b ↔ b ≤ a := by
  rw [Int32.lt_iff_toInt_lt, Int32.le_iff_toInt_le]; omega
theorem i32_nle {a b : Int32} : ¬ a ≤ b ↔ b < a := by
  rw [Int32.lt_iff_toInt_lt, Int32.le_iff_toInt_le]; omega
/-- outcomes -/
def wp {R : Type} (o : Option R) (Q : R → Prop) : Prop := ∃ r, o = some r ∧ Q r
theorem wp_some {R : Type} {r : R} {Q : R → Prop} : wp (some r) Q ↔ Q r := ⟨fun ⟨_, e, h⟩ => by cases e; exact h, fun h => ⟨r, rfl, h⟩⟩
theorem wp_mono {R : Type} {o : Option R} {P Q : R → Prop} (h : wp o P) (hq : ∀ r, P r → Q r) : wp o Q := by
  obtain ⟨r, e, k⟩ := h; exact ⟨r, e, hq r k⟩
theorem wp_grd {R : Type} {b : Bool} {x : Option R} {Q : R → Prop} : wp (grd b x) Q ↔ b = true ∧ wp x Q := by
  unfold grd
  cases b
  · constructor
    · rintro ⟨_, e, _⟩; cases e
    · rintro ⟨e, _⟩; cases e
  · simp
theorem wp_lb {A R : Type} {a : A} {k : A → Option R} {Q : R → Prop} : wp (lb a k) Q ↔ wp (k a) Q := Iff.rfl
theorem wp_ite {R : Type} {c : Prop} [Decidable c] {x y : Option R} {Q : R → Prop} : wp (if c then x else y) Q ↔ if c then wp x Q else wp y Q := by
  split <;> exact Iff.rfl
theorem wp_b1 {A R : Type} {o : Option A} {k : A → Option R} {Q : R → Prop} : wp (bnd1 o k) Q ↔ wp o (fun a => wp (k a) Q) := by
  unfold bnd1
  cases o with
  | none => exact Iff.intro (fun ⟨_, e, _⟩ => (nomatch e)) (fun ⟨_, e, _⟩ => (nomatch e))
  | some a => exact ⟨fun h => ⟨a, rfl, h⟩, fun ⟨_, e, h⟩ => by cases e; exact h⟩
theorem wp_b2 {A B R : Type} {o : Option (A × B)} {k : A → B → Option R} {Q : R → Prop} : wp (bnd2 o k) Q ↔ wp o (fun a => wp (k a.1 a.2) Q) := by
  unfold bnd2
  cases o with
  | none => exact Iff.intro (fun ⟨_, e, _⟩ => (nomatch e)) (fun ⟨_, e, _⟩ => (nomatch e))
  | some a => exact ⟨fun h => ⟨a, rfl, h⟩, fun ⟨_, e, h⟩ => by cases e; exact h⟩
theorem wp_b3 {A B C R : Type} {o : Option (A × B × C)} {k : A → B → C → Option R} {Q : R → Prop} : wp (bnd3 o k) Q ↔ wp o (fun a => wp (k a.1 a.2.1 a.2.2) Q) := by
  unfold bnd3
  cases o with
  | none => exact Iff.intro (fun ⟨_, e, _⟩ => (nomatch e)) (fun ⟨_, e, _⟩ => (nomatch e))
  | some a => exact ⟨fun h => ⟨a, rfl, h⟩, fun ⟨_, e, h⟩ => by cases e; exact h⟩
theorem wp_b4 {A B C D R : Type} {o : Option (A × B × C × D)} {k : A → B → C → D → Option R} {Q : R → Prop} : wp (bnd4 o k) Q ↔ wp o (fun a => wp (k a.1 a.2.1 a.2.2.1 a.2.2.2) Q) := by
  unfold bnd4
  cases o with
  | none => exact Iff.intro (fun ⟨_, e, _⟩ => (nomatch e)) (fun ⟨_, e, _⟩ => (nomatch e))
  | some a => exact ⟨fun h => ⟨a, rfl, h⟩, fun ⟨_, e, h⟩ => by cases e; exact h⟩
theorem wp_b5 {A B C D E R : Type} {o : Option (A × B × C × D × E)} {k : A → B → C → D → E → Option R} {Q : R → Prop} : wp (bnd5 o k) Q ↔ wp o (fun a => wp (k a.1 a.2.1 a.2.2.1 a.2.2.2.1 a.2.2.2.2) Q) := by
  unfold bnd5
  cases o with
  | none => exact Iff.intro (fun ⟨_, e, _⟩ => (nomatch e)) (fun ⟨_, e, _⟩ => (nomatch e))
  | some a => exact ⟨fun h => ⟨a, rfl, h⟩, fun ⟨_, e, h⟩ => by cases e; exact h⟩
theorem eq_grd {R : Type} {x : Option R} : grd true x = x := rfl
theorem eq_lb {A B : Type} {a : A} {k : A → B} : lb a k = k a := rfl
theorem eq_b1 {A R : Type} {a : A} {k : A → Option R} : bnd1 (some a) k = k a := rfl
theorem eq_b2 {A B R : Type} {a : A × B} {k : A → B → Option R} : bnd2 (some a) k = k a.1 a.2 := rfl
theorem eq_b3 {A B C R : Type} {a : A × B × C} {k : A → B → C → Option R} : bnd3 (some a) k = k a.1 a.2.1 a.2.2 := rfl
theorem eq_b4 {A B C D R : Type} {a : A × B × C × D} {k : A → B → C → D → Option R} : bnd4 (some a) k = k a.1 a.2.1 a.2.2.1 a.2.2.2 := rfl
theorem eq_b5 {A B C D E R : Type} {a : A × B × C × D × E} {k : A → B → C → D → E → Option R} : bnd5 (some a) k = k a.1 a.2.1 a.2.2.1 a.2.2.2.1 a.2.2.2.2 := rfl
/-- states -/
theorem upo_ap (x : Ob) (k i : Nat) (v : Int32) (k' j : Nat) : upo x k i v k' j = if k' = k ∧ j = i then v else x k' j := by
  unfold upo va_up upd
  by_cases h1 : k' = k
  · subst h1; by_cases h2 : j = i <;> simp [h2]
  · simp [h1]
theorem upo_ne {x : Ob} {k i : Nat} {v : Int32} {k' : Nat} (h : k' ≠ k) : upo x k i v k' = x k' := by
  unfold upo va_up; simp [h]
theorem vu_eq {α : Type} (f : Nat → α) (k : Nat) (v : α) : va_up f k v k = v := by unfold va_up; simp
theorem vu_ne {α : Type} {f : Nat → α} {k : Nat} {v : α} {j : Nat} (h : j ≠ k) : va_up f k v j = f j := by unfold va_up; simp [h]
theorem vu_ap {α : Type} (f : Nat → α) (k : Nat) (v : α) (j : Nat) : va_up f k v j = if j = k then v else f j := rfl
/-- loops upwards: at every round the rest of the loop may be taken as done -/
theorem lp_up {S R : Type} {F : Nat → S → Int32 → Option R} {Q : R → Prop} {V : Nat → S → Prop} {hi : Nat}
    (step : ∀ n s i, i ≤ hi → V i s → (∀ s', i < hi → V (i + 1) s' → wp (F n s' (iN (i + 1))) Q) → wp (F (n + 1) s (iN i)) Q) :
    ∀ (n i : Nat) (s : S), hi - i < n → i ≤ hi → V i s → wp (F n s (iN i)) Q := by
  intro n
  induction n with
  | zero => intro i s h; omega
  | succ n ih =>
    intro i s hn hi2 hv
    exact step n s i hi2 hv (fun s' hlt hv' => ih (i + 1) s' (by omega) (by omega) hv')
/-- loops downwards, counted from above by d: the index is d - 1 -/
def iD (d : Nat) : Int32 := iN d - iN 1
theorem iD_s (d : Nat) : iD (d + 1) = iN d := iN_sub (Nat.le_add_left 1 d)
theorem iD_0 : iD 0 = nM := iN_0s1
theorem lp_dn {S R : Type} {F : Nat → S → Int32 → Option R} {Q : R → Prop} {V : Nat → S → Prop}
    (stop : ∀ n s, V 0 s → wp (F (n + 1) s nM) Q)
    (step : ∀ n s d, V (d + 1) s → (∀ s', V d s' → wp (F n s' (iD d)) Q) → wp (F (n + 1) s (iN d)) Q) :
    ∀ (n d : Nat) (s : S), d < n → V d s → wp (F n s (iD d)) Q := by
  intro n
  induction n with
  | zero => intro d s h; omega
  | succ n ih =>
    intro d s hn hv
    cases d with
    | zero => rw [iD_0]; exact stop n s hv
    | succ d => rw [iD_s]; exact step n s d hv (fun s' hv' => ih d s' (by omega) hv')
theorem iD_pM (d : Nat) : iN d + nM = iD d := by
  cases d with
  | zero => rw [iD_0]; exact iN_0M
  | succ d => rw [iD_s, iN_pM (Nat.succ_pos d)]; rfl
