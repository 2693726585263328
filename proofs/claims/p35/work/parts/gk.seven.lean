/-! The law's mark of an overflow is 0 or 1. -/
def wl {R : Type} (o : Option R) (Q : R → Prop) : Prop := ∀ r, o = some r → Q r
theorem wl_some {R : Type} {a : R} {Q : R → Prop} (h : Q a) : wl (some a) Q := by
  intro r e; cases e; exact h
theorem wl_none {R : Type} {Q : R → Prop} : wl (none : Option R) Q := by
  intro r e; cases e
theorem wl_grd {R : Type} {b : Bool} {o : Option R} {Q : R → Prop} (h : wl o Q) : wl (grd b o) Q := by
  intro r e
  cases b with
  | true => exact h r e
  | false => cases e
theorem wl_lb {A R : Type} {a : A} {k : A → Option R} {Q : R → Prop} (h : wl (k a) Q) : wl (lb a k) Q := h
theorem wl_ite {R : Type} {c : Prop} [Decidable c] {x y : Option R} {Q : R → Prop} (h1 : wl x Q) (h2 : wl y Q) : wl (if c then x else y) Q := by
  by_cases h : c
  · rw [if_pos h]; exact h1
  · rw [if_neg h]; exact h2
theorem wl_mono {R : Type} {o : Option R} {P Q : R → Prop} (h : wl o P) (hq : ∀ r, P r → Q r) : wl o Q := fun r e => hq r (h r e)
theorem wl_any {R : Type} {o : Option R} {Q : R → Prop} (h : ∀ r, Q r) : wl o Q := fun r _ => h r
theorem wp_wl {R : Type} {o : Option R} {P Q : R → Prop} (h : wp o P) (hq : wl o Q) : wp o (fun r => P r ∧ Q r) := by
  obtain ⟨r, e, hr⟩ := h
  exact ⟨r, e, hr, hq r e⟩
theorem wl_b1 {A1 R : Type} {o : Option A1} {k : A1 → Option R} {Q : R → Prop} (h : wl o (fun a => wl (k a) Q)) : wl (bnd1 o k) Q := by
  intro r e
  cases o with
  | none => cases e
  | some a => exact h a rfl r e
theorem wl_b2 {A1 A2 R : Type} {o : Option (A1 × A2)} {k : A1 → A2 → Option R} {Q : R → Prop} (h : wl o (fun a => wl (k a.1 a.2) Q)) : wl (bnd2 o k) Q := by
  intro r e
  cases o with
  | none => cases e
  | some a => exact h a rfl r e
theorem wl_b3 {A1 A2 A3 R : Type} {o : Option (A1 × A2 × A3)} {k : A1 → A2 → A3 → Option R} {Q : R → Prop} (h : wl o (fun a => wl (k a.1 a.2.1 a.2.2) Q)) : wl (bnd3 o k) Q := by
  intro r e
  cases o with
  | none => cases e
  | some a => exact h a rfl r e
theorem wl_b4 {A1 A2 A3 A4 R : Type} {o : Option (A1 × A2 × A3 × A4)} {k : A1 → A2 → A3 → A4 → Option R} {Q : R → Prop} (h : wl o (fun a => wl (k a.1 a.2.1 a.2.2.1 a.2.2.2) Q)) : wl (bnd4 o k) Q := by
  intro r e
  cases o with
  | none => cases e
  | some a => exact h a rfl r e
theorem wl_b5 {A1 A2 A3 A4 A5 R : Type} {o : Option (A1 × A2 × A3 × A4 × A5)} {k : A1 → A2 → A3 → A4 → A5 → Option R} {Q : R → Prop} (h : wl o (fun a => wl (k a.1 a.2.1 a.2.2.1 a.2.2.2.1 a.2.2.2.2) Q)) : wl (bnd5 o k) Q := by
  intro r e
  cases o with
  | none => cases e
  | some a => exact h a rfl r e
theorem wl_b6 {A1 A2 A3 A4 A5 A6 R : Type} {o : Option (A1 × A2 × A3 × A4 × A5 × A6)} {k : A1 → A2 → A3 → A4 → A5 → A6 → Option R} {Q : R → Prop} (h : wl o (fun a => wl (k a.1 a.2.1 a.2.2.1 a.2.2.2.1 a.2.2.2.2.1 a.2.2.2.2.2) Q)) : wl (bnd6 o k) Q := by
  intro r e
  cases o with
  | none => cases e
  | some a => exact h a rfl r e
theorem wl_b7 {A1 A2 A3 A4 A5 A6 A7 R : Type} {o : Option (A1 × A2 × A3 × A4 × A5 × A6 × A7)} {k : A1 → A2 → A3 → A4 → A5 → A6 → A7 → Option R} {Q : R → Prop} (h : wl o (fun a => wl (k a.1 a.2.1 a.2.2.1 a.2.2.2.1 a.2.2.2.2.1 a.2.2.2.2.2.1 a.2.2.2.2.2.2) Q)) : wl (bnd7 o k) Q := by
  intro r e
  cases o with
  | none => cases e
  | some a => exact h a rfl r e
theorem wl_b8 {A1 A2 A3 A4 A5 A6 A7 A8 R : Type} {o : Option (A1 × A2 × A3 × A4 × A5 × A6 × A7 × A8)} {k : A1 → A2 → A3 → A4 → A5 → A6 → A7 → A8 → Option R} {Q : R → Prop} (h : wl o (fun a => wl (k a.1 a.2.1 a.2.2.1 a.2.2.2.1 a.2.2.2.2.1 a.2.2.2.2.2.1 a.2.2.2.2.2.2.1 a.2.2.2.2.2.2.2) Q)) : wl (bnd8 o k) Q := by
  intro r e
  cases o with
  | none => cases e
  | some a => exact h a rfl r e
theorem wl_b9 {A1 A2 A3 A4 A5 A6 A7 A8 A9 R : Type} {o : Option (A1 × A2 × A3 × A4 × A5 × A6 × A7 × A8 × A9)} {k : A1 → A2 → A3 → A4 → A5 → A6 → A7 → A8 → A9 → Option R} {Q : R → Prop} (h : wl o (fun a => wl (k a.1 a.2.1 a.2.2.1 a.2.2.2.1 a.2.2.2.2.1 a.2.2.2.2.2.1 a.2.2.2.2.2.2.1 a.2.2.2.2.2.2.2.1 a.2.2.2.2.2.2.2.2) Q)) : wl (bnd9 o k) Q := by
  intro r e
  cases o with
  | none => cases e
  | some a => exact h a rfl r e
def ok7 (c : Rw) : Prop := c 7 = iN 0 ∨ c 7 = iN 1
theorem ok_71 (c : Rw) : ok7 (upd c (7 : Int32).toNatClampNeg 1) := Or.inr (by
  rw [show (7 : Int32).toNatClampNeg = 7 from by decide, upd_eq]; rfl)
theorem ok_70 (c : Rw) : ok7 (upd c (7 : Int32).toNatClampNeg 0) := Or.inl (by
  rw [show (7 : Int32).toNatClampNeg = 7 from by decide, upd_eq]; rfl)
theorem ok_6 {c : Rw} {v : Int32} (h : ok7 c) : ok7 (upd c (6 : Int32).toNatClampNeg v) := by
  unfold ok7
  rw [show (6 : Int32).toNatClampNeg = 6 from by decide, upd_ne (by decide)]
  exact h

theorem W_J135 {c e j a b m : Rw} {v6 v7 v8 v9 v10 s1 s2 s3 : Int32} (h : ok7 c) : wl (f_L_lays_J135 c e j a b m v6 v7 v8 v9 v10 s1 s2 s3) (fun z => ok7 z.1) := by
  unfold f_L_lays_J135
  repeat' (first | exact wl_some (by assumption) | exact wl_some (ok_71 _) | exact wl_some (ok_6 (by assumption)) | with_reducible apply wl_grd | with_reducible apply wl_lb | with_reducible apply wl_ite | (with_reducible apply wl_b1; refine wl_any ?_; intro _) | (with_reducible apply wl_b2; refine wl_any ?_; intro _) | (with_reducible apply wl_b3; refine wl_any ?_; intro _))
theorem W_J99 {c e j a b m : Rw} {v6 v7 v8 v9 v10 : Int32} (h : ok7 c) : wl (f_L_lays_J99 c e j a b m v6 v7 v8 v9 v10) (fun z => ok7 z.1) := by
  unfold f_L_lays_J99
  repeat' (first | exact wl_some (by assumption) | exact wl_some (ok_71 _) | exact wl_some (ok_6 (by assumption)) | with_reducible apply wl_grd | with_reducible apply wl_lb | with_reducible apply wl_ite | exact W_J135 (by assumption) | (with_reducible apply wl_b1; refine wl_any ?_; intro _) | (with_reducible apply wl_b2; refine wl_any ?_; intro _) | (with_reducible apply wl_b3; refine wl_any ?_; intro _))
theorem W_lays {c e j a b m : Rw} {v6 v7 v8 v9 : Int32} (h : ok7 c) : wl (f_L_lays c e j a b m v6 v7 v8 v9) (fun z => ok7 z.1) := by
  unfold f_L_lays
  repeat' (first | exact wl_some (by assumption) | exact wl_some (ok_71 _) | exact wl_some (ok_6 (by assumption)) | with_reducible apply wl_grd | with_reducible apply wl_lb | with_reducible apply wl_ite | exact W_J99 (by assumption) | (with_reducible apply wl_b1; refine wl_any ?_; intro _) | (with_reducible apply wl_b2; refine wl_any ?_; intro _) | (with_reducible apply wl_b3; refine wl_any ?_; intro _))
theorem W_tries {c g q n e j a b m : Rw} {v6 v7 v8 v9 : Int32} (h : ok7 c) : wl (f_L_tries c g q n e j a b m v6 v7 v8 v9) (fun z => ok7 z.1) := by
  unfold f_L_tries
  repeat' (first | exact wl_some (by assumption) | exact wl_some (ok_71 _) | exact wl_some (ok_6 (by assumption)) | with_reducible apply wl_grd | with_reducible apply wl_lb | with_reducible apply wl_ite | (with_reducible apply wl_b6; refine wl_mono (W_lays (by assumption)) ?_; intro _ _) | (with_reducible apply wl_b1; refine wl_any ?_; intro _) | (with_reducible apply wl_b2; refine wl_any ?_; intro _) | (with_reducible apply wl_b3; refine wl_any ?_; intro _))

theorem W_J205 {c w u x l v g q n e j a b m : Rw} {N : Nat} {v14 v15 v16 v17 v18 v19 s0 s1 : Int32} (h : ok7 c) : wl (f_L_chart_J205 c w u x l v g q n e j a b m N v14 v15 v16 v17 v18 v19 s0 s1) (fun z => ok7 z.2.2.1) := by
  unfold f_L_chart_J205
  repeat' (first | exact wl_some (by assumption) | exact wl_some (ok_71 _) | exact wl_some (ok_6 (by assumption)) | with_reducible apply wl_grd | with_reducible apply wl_lb | with_reducible apply wl_ite | (with_reducible apply wl_b6; refine wl_mono (W_lays (by assumption)) ?_; intro _ _) | (with_reducible apply wl_b1; refine wl_any ?_; intro _) | (with_reducible apply wl_b2; refine wl_any ?_; intro _) | (with_reducible apply wl_b3; refine wl_any ?_; intro _))

theorem W_J204 {c w u x l v g q n e j a b m : Rw} {N : Nat} {v14 v15 v16 v17 v18 v19 s0 : Int32} (h : ok7 c) : wl (f_L_chart_J204 c w u x l v g q n e j a b m N v14 v15 v16 v17 v18 v19 s0) (fun z => ok7 z.2.2.1) := by
  unfold f_L_chart_J204
  repeat' (first | exact wl_some (by assumption) | exact wl_some (ok_71 _) | exact wl_some (ok_6 (by assumption)) | with_reducible apply wl_grd | with_reducible apply wl_lb | with_reducible apply wl_ite | exact W_J205 (by assumption) | (with_reducible apply wl_b1; refine wl_any ?_; intro _) | (with_reducible apply wl_b2; refine wl_any ?_; intro _) | (with_reducible apply wl_b3; refine wl_any ?_; intro _))

theorem W_J168 {c w u x l v g q n e j a b m : Rw} {N : Nat} {v14 v15 v16 v17 v18 v19 v21 s0 s1 : Int32} (h : ok7 c) : wl (f_L_chart_J168 c w u x l v g q n e j a b m N v14 v15 v16 v17 v18 v19 v21 s0 s1) (fun z => ok7 z.2.2.1) := by
  unfold f_L_chart_J168
  repeat' (first | exact wl_some (by assumption) | exact wl_some (ok_71 _) | exact wl_some (ok_6 (by assumption)) | with_reducible apply wl_grd | with_reducible apply wl_lb | with_reducible apply wl_ite | exact W_J205 (by assumption) | exact W_J204 (by assumption) | (with_reducible apply wl_b1; refine wl_any ?_; intro _) | (with_reducible apply wl_b2; refine wl_any ?_; intro _) | (with_reducible apply wl_b3; refine wl_any ?_; intro _))

theorem W_J167 {c w u x l v g q n e j a b m : Rw} {N : Nat} {v14 v15 v16 v17 v18 v19 v21 s0 : Int32} (h : ok7 c) : wl (f_L_chart_J167 c w u x l v g q n e j a b m N v14 v15 v16 v17 v18 v19 v21 s0) (fun z => ok7 z.2.2.1) := by
  unfold f_L_chart_J167
  repeat' (first | exact wl_some (by assumption) | exact wl_some (ok_71 _) | exact wl_some (ok_6 (by assumption)) | with_reducible apply wl_grd | with_reducible apply wl_lb | with_reducible apply wl_ite | exact W_J168 (by assumption) | (with_reducible apply wl_b1; refine wl_any ?_; intro _) | (with_reducible apply wl_b2; refine wl_any ?_; intro _) | (with_reducible apply wl_b3; refine wl_any ?_; intro _))

theorem W_J134 {c w u x l v g q n e j a b m : Rw} {N : Nat} {v14 v15 v16 v17 v18 v19 v20 s0 : Int32} (h : ok7 c) : wl (f_L_chart_J134 c w u x l v g q n e j a b m N v14 v15 v16 v17 v18 v19 v20 s0) (fun z => ok7 z.2.2.1) := by
  unfold f_L_chart_J134
  repeat' (first | exact wl_some (by assumption) | exact wl_some (ok_71 _) | exact wl_some (ok_6 (by assumption)) | with_reducible apply wl_grd | with_reducible apply wl_lb | with_reducible apply wl_ite | exact W_J168 (by assumption) | exact W_J167 (by assumption) | (with_reducible apply wl_b1; refine wl_any ?_; intro _) | (with_reducible apply wl_b2; refine wl_any ?_; intro _) | (with_reducible apply wl_b3; refine wl_any ?_; intro _))

theorem W_L86 {w u x l v g q n : Rw} (k : Nat) : ∀ {c e j a b m : Rw} {N : Nat} {v14 v15 v16 v17 v18 v19 : Int32}, ok7 c → wl (f_L_chart_L86 k c w u x l v g q n e j a b m N v14 v15 v16 v17 v18 v19) (fun z => ok7 z.2.1) := by
  induction k with
  | zero => intros; exact wl_none
  | succ k ih =>
    intro c e j a b m N v14 v15 v16 v17 v18 v19 h
    rw [f_L_chart_L86]
    repeat' (first | exact wl_some (by assumption) | exact wl_some (ok_71 _) | exact wl_some (ok_6 (by assumption)) | with_reducible apply wl_grd | with_reducible apply wl_lb | with_reducible apply wl_ite | exact ih (by assumption) | (with_reducible apply wl_b8; refine wl_mono (W_J134 (by assumption)) ?_; intro _ _) | (with_reducible apply wl_b1; refine wl_any ?_; intro _) | (with_reducible apply wl_b2; refine wl_any ?_; intro _) | (with_reducible apply wl_b3; refine wl_any ?_; intro _))

theorem W_L285 {w u x l v g q n : Rw} (k : Nat) : ∀ {c e j a b m : Rw} {N : Nat} {v14 v15 v16 v17 v19 v20 v21 v22 : Int32}, ok7 c → wl (f_L_chart_L285 k c w u x l v g q n e j a b m N v14 v15 v16 v17 v19 v20 v21 v22) (fun z => ok7 z.2.1) := by
  induction k with
  | zero => intros; exact wl_none
  | succ k ih =>
    intro c e j a b m N v14 v15 v16 v17 v19 v20 v21 v22 h
    rw [f_L_chart_L285]
    repeat' (first | exact wl_some (by assumption) | exact wl_some (ok_71 _) | exact wl_some (ok_6 (by assumption)) | with_reducible apply wl_grd | with_reducible apply wl_lb | with_reducible apply wl_ite | exact ih (by assumption) | (with_reducible apply wl_b6; refine wl_mono (W_tries (by assumption)) ?_; intro _ _) | (with_reducible apply wl_b1; refine wl_any ?_; intro _) | (with_reducible apply wl_b2; refine wl_any ?_; intro _) | (with_reducible apply wl_b3; refine wl_any ?_; intro _))

theorem W_L251 {w u x l v g q n : Rw} (k : Nat) : ∀ {c e j a b m : Rw} {N : Nat} {v14 v15 v16 v17 v19 : Int32}, ok7 c → wl (f_L_chart_L251 k c w u x l v g q n e j a b m N v14 v15 v16 v17 v19) (fun z => ok7 z.2.1) := by
  induction k with
  | zero => intros; exact wl_none
  | succ k ih =>
    intro c e j a b m N v14 v15 v16 v17 v19 h
    rw [f_L_chart_L251]
    repeat' (first | exact wl_some (by assumption) | exact wl_some (ok_71 _) | exact wl_some (ok_6 (by assumption)) | with_reducible apply wl_grd | with_reducible apply wl_lb | with_reducible apply wl_ite | exact ih (by assumption) | (with_reducible apply wl_b8; refine wl_mono (W_L285 _ (by assumption)) ?_; intro _ _) | (with_reducible apply wl_b1; refine wl_any ?_; intro _) | (with_reducible apply wl_b2; refine wl_any ?_; intro _) | (with_reducible apply wl_b3; refine wl_any ?_; intro _))

theorem W_L495 {w u x l v g q n : Rw} (k : Nat) : ∀ {c e j a b m : Rw} {N : Nat} {v14 v15 v16 v17 v19 v20 v21 : Int32}, ok7 c → wl (f_L_chart_L495 k c w u x l v g q n e j a b m N v14 v15 v16 v17 v19 v20 v21) (fun z => ok7 z.2.1) := by
  induction k with
  | zero => intros; exact wl_none
  | succ k ih =>
    intro c e j a b m N v14 v15 v16 v17 v19 v20 v21 h
    rw [f_L_chart_L495]
    repeat' (first | exact wl_some (by assumption) | exact wl_some (ok_71 _) | exact wl_some (ok_6 (by assumption)) | with_reducible apply wl_grd | with_reducible apply wl_lb | with_reducible apply wl_ite | exact ih (by assumption) | (with_reducible apply wl_b6; refine wl_mono (W_tries (by assumption)) ?_; intro _ _) | (with_reducible apply wl_b1; refine wl_any ?_; intro _) | (with_reducible apply wl_b2; refine wl_any ?_; intro _) | (with_reducible apply wl_b3; refine wl_any ?_; intro _))

theorem W_L473 {w u x l v g q n : Rw} (k : Nat) : ∀ {c e j a b m : Rw} {N : Nat} {v14 v15 v16 v17 v19 : Int32}, ok7 c → wl (f_L_chart_L473 k c w u x l v g q n e j a b m N v14 v15 v16 v17 v19) (fun z => ok7 z.2.1) := by
  induction k with
  | zero => intros; exact wl_none
  | succ k ih =>
    intro c e j a b m N v14 v15 v16 v17 v19 h
    rw [f_L_chart_L473]
    repeat' (first | exact wl_some (by assumption) | exact wl_some (ok_71 _) | exact wl_some (ok_6 (by assumption)) | with_reducible apply wl_grd | with_reducible apply wl_lb | with_reducible apply wl_ite | exact ih (by assumption) | (with_reducible apply wl_b8; refine wl_mono (W_L495 _ (by assumption)) ?_; intro _ _) | (with_reducible apply wl_b1; refine wl_any ?_; intro _) | (with_reducible apply wl_b2; refine wl_any ?_; intro _) | (with_reducible apply wl_b3; refine wl_any ?_; intro _))

theorem W_L50 {w u x l v g q n : Rw} (k : Nat) : ∀ {c e j a b m : Rw} {N : Nat} {v14 v15 v16 : Int32}, ok7 c → wl (f_L_chart_L50 k c w u x l v g q n e j a b m N v14 v15 v16) (fun z => ok7 z.2.1) := by
  induction k with
  | zero => intros; exact wl_none
  | succ k ih =>
    intro c e j a b m N v14 v15 v16 h
    rw [f_L_chart_L50]
    repeat' (first | exact wl_some (by assumption) | exact wl_some (ok_71 _) | exact wl_some (ok_6 (by assumption)) | with_reducible apply wl_grd | with_reducible apply wl_lb | with_reducible apply wl_ite | exact ih (by assumption) | (with_reducible apply wl_b7; refine wl_mono (W_L86 _ (by assumption)) ?_; intro _ _) | (with_reducible apply wl_b8; refine wl_mono (W_L251 _ (by assumption)) ?_; intro _ _) | (with_reducible apply wl_b8; refine wl_mono (W_L473 _ (by assumption)) ?_; intro _ _) | (with_reducible apply wl_b1; refine wl_any ?_; intro _) | (with_reducible apply wl_b2; refine wl_any ?_; intro _) | (with_reducible apply wl_b3; refine wl_any ?_; intro _))

theorem W_L35 {w u x l v g q n : Rw} (k : Nat) : ∀ {c e j a b m : Rw} {N : Nat} {v14 v15 : Int32}, ok7 c → wl (f_L_chart_L35 k c w u x l v g q n e j a b m N v14 v15) (fun z => ok7 z.2.1) := by
  induction k with
  | zero => intros; exact wl_none
  | succ k ih =>
    intro c e j a b m N v14 v15 h
    rw [f_L_chart_L35]
    repeat' (first | exact wl_some (by assumption) | exact wl_some (ok_71 _) | exact wl_some (ok_6 (by assumption)) | with_reducible apply wl_grd | with_reducible apply wl_lb | with_reducible apply wl_ite | exact ih (by assumption) | (with_reducible apply wl_b8; refine wl_mono (W_L50 _ (by assumption)) ?_; intro _ _) | (with_reducible apply wl_b1; refine wl_any ?_; intro _) | (with_reducible apply wl_b2; refine wl_any ?_; intro _) | (with_reducible apply wl_b3; refine wl_any ?_; intro _))

theorem W_chart {c w u x l v g q n e j a b m : Rw} {p : Int32} : wl (f_L_chart c w u x l v g q n e j a b m p) (fun z => ok7 z.1) := by
  unfold f_L_chart
  have h := ok_70 (upd c (6 : Int32).toNatClampNeg 0)
  repeat' (first | exact wl_some (by assumption) | exact wl_some (ok_71 _) | exact wl_some (ok_6 (by assumption)) | with_reducible apply wl_grd | with_reducible apply wl_lb | with_reducible apply wl_ite | (with_reducible apply wl_b8; refine wl_mono (W_L35 _ (by assumption)) ?_; intro _ _) | (with_reducible apply wl_b1; refine wl_any ?_; intro _) | (with_reducible apply wl_b2; refine wl_any ?_; intro _) | (with_reducible apply wl_b3; refine wl_any ?_; intro _))
