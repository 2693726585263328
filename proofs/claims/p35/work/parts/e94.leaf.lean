/-! What holds of all edges of a chart; words without readings. -/
def AllP (P : Tr → Prop) (ch : Ch) : Prop := ∀ s t, t ∈ ch s → P t
def Clo (P : Tr → Prop) : Prop := P dum ∧ ∀ g l r, P l → P r → P (.branch g l r)
theorem addE_all {P : Tr → Prop} {G : Ob} {ch : Ch} {s : Nat} {t : Tr} (h : AllP P ch) (ht : P t) : AllP P (addE G ch s t) := by
  intro s' e he
  rcases addE_mem he with he | ⟨-, e2⟩
  · exact h s' e he
  · rw [e2]; exact ht
theorem tryE_all {P : Tr → Prop} {G : Ob} {ch : Ch} {s g : Nat} {l r : Tr} (hP : Clo P) (h : AllP P ch) (hl : P l) (hr : P r) : AllP P (tryE G ch s g l r) := by
  unfold tryE
  split
  · exact addE_all h (hP.2 g l r hl hr)
  · exact h
theorem usR_all {P : Tr → Prop} {G : Ob} {s g : Nat} {l : Tr} (hP : Clo P) (hl : P l) (rs : List Tr) (hr : ∀ r, r ∈ rs → P r) : ∀ ch : Ch, AllP P ch → AllP P (usR G s g l rs ch) := by
  unfold usR
  induction rs with
  | nil => intro ch h; exact h
  | cons r rs ih =>
    intro ch h
    rw [List.foldl_cons]
    refine ih (fun r hr' => hr r (List.mem_cons_of_mem _ hr')) _ ?_
    split
    · exact tryE_all hP h hl (hr r List.mem_cons_self)
    · exact h
theorem uls_all {P : Tr → Prop} {G : Ob} {s g : Nat} {rs : List Tr} (hP : Clo P) (hr : ∀ r, r ∈ rs → P r) (ls : List Tr) (hl : ∀ l, l ∈ ls → P l) : ∀ ch : Ch, AllP P ch → AllP P (uls G s g rs ls ch) := by
  unfold uls
  induction ls with
  | nil => intro ch h; exact h
  | cons l ls ih =>
    intro ch h
    rw [List.foldl_cons]
    refine ih (fun l hl' => hl l (List.mem_cons_of_mem _ hl')) _ ?_
    split
    · exact usR_all hP (hl l List.mem_cons_self) rs hr ch h
    · exact h
theorem rlF_all {P : Tr → Prop} {G : Ob} {s a b : Nat} (hP : Clo P) (g : Nat) (ch : Ch) (h : AllP P ch) : AllP P (rlF G s a b g ch) := by
  induction g with
  | zero => exact h
  | succ g ih =>
    rw [rlF]
    split
    · exact ih
    · exact uls_all hP (fun r hr => ih _ r hr) _ (fun l hl => ih _ l hl) _ ih
theorem cutF_all {P : Tr → Prop} {G : Ob} {b m : Nat} (hP : Clo P) (k : Nat) (ch : Ch) (h : AllP P ch) : AllP P (cutF G b m k ch) := by
  induction k with
  | zero => exact h
  | succ k ih => rw [cutF]; exact rlF_all hP _ _ ih
theorem abF_all {P : Tr → Prop} {G : Ob} {s : Nat} (hP : Clo P) (gs : List Nat) : ∀ ch : Ch, AllP P ch → AllP P (abF G s gs ch) := by
  unfold abF
  induction gs with
  | nil => intro ch h; exact h
  | cons g gs ih =>
    intro ch h
    rw [List.foldl_cons]
    exact ih _ (uls_all hP (fun r hr => by rw [List.mem_singleton.mp hr]; exact hP.1) _ (fun l hl => h _ l hl) _ h)
def LfP (P : Tr → Prop) (E : Ev) (L gv : Nat → Nat) : Prop := ∀ p k, p < eL E → (L p).testBit k = true → P (.leaf (p, k, eT E p k, gF (eT E p k) (eP E p k) (gv p)))
theorem wdF_all {P : Tr → Prop} {G : Ob} {E : Ev} {L gv : Nat → Nat} {p : Nat} (hl : LfP P E L gv) (hp : p < eL E) (k : Nat) (ch : Ch) (h : AllP P ch) : AllP P (wdF G E L gv p k ch) := by
  induction k with
  | zero => exact h
  | succ k ih =>
    rw [wdF]
    split
    · rename_i hb
      exact addE_all ih (hl p k hp hb)
    · exact ih
theorem celF_all {P : Tr → Prop} {G : Ob} {E : Ev} {L gv : Nat → Nat} {m b : Nat} (hP : Clo P) (hl : LfP P E L gv) (hb : b < eL E) (ch : Ch) (h : AllP P ch) : AllP P (celF G E L gv m b ch) := by
  rw [celF]
  refine abF_all hP _ _ ?_
  split
  · exact wdF_all hl hb _ _ h
  · exact cutF_all hP _ _ h
theorem froF_all {P : Tr → Prop} {G : Ob} {E : Ev} {L gv : Nat → Nat} {m : Nat} (hP : Clo P) (hl : LfP P E L gv) (b : Nat) (hb : b ≤ eL E) (ch : Ch) (h : AllP P ch) : AllP P (froF G E L gv m b ch) := by
  induction b with
  | zero => exact h
  | succ b ih => rw [froF]; exact celF_all hP hl (by omega) _ (ih (by omega))
theorem manF_all {P : Tr → Prop} {G : Ob} {E : Ev} {L gv : Nat → Nat} (hP : Clo P) (hl : LfP P E L gv) (m : Nat) (ch : Ch) (h : AllP P ch) : AllP P (manF G E L gv m ch) := by
  induction m with
  | zero => exact h
  | succ m ih => rw [manF]; exact froF_all hP hl _ (by omega) _ ih
theorem cht_all {P : Tr → Prop} {G : Ob} {E : Ev} {L gv : Nat → Nat} (hP : Clo P) (hl : LfP P E L gv) : AllP P (cht G E L gv) :=
  manF_all hP hl _ _ (fun _ _ h => absurd h List.not_mem_nil)
/-- the leaves are words' readings -/
def LV (E : Ev) : Tr → Prop
  | .leaf a => a.2.2.1 = nM ∨ (a.1 < eL E ∧ a.2.1 < eC E a.1 ∧ a.2.2.1 = eT E a.1 a.2.1)
  | .branch _ l r => LV E l ∧ LV E r
theorem LV_clo (E : Ev) : Clo (LV E) := ⟨Or.inl rfl, fun _ _ _ hl hr => ⟨hl, hr⟩⟩
theorem cht_LV {G : Ob} {E : Ev} {L gv : Nat → Nat} (hL : LB E L) : AllP (LV E) (cht G E L gv) :=
  cht_all (LV_clo E) (fun p k hp hb => Or.inr ⟨hp, bit_cn (hL p hp) hb, rfl⟩)
/-- a span of one word -/
theorem froF_at {G : Ob} {E : Ev} {L gv : Nat → Nat} {m : Nat} {s' : Nat} (ch : Ch) (b : Nat) (h : ∀ b', b' < b → s' ≠ 6 * b' + m - 1) : froF G E L gv m b ch s' = ch s' := by
  induction b with
  | zero => rfl
  | succ b ih => rw [froF, celF_ne (h b (Nat.lt_succ_self b)), ih (fun b' hb => h b' (by omega))]
theorem froF_1 {G : Ob} {E : Ev} {L gv : Nat → Nat} {p : Nat} (ch : Ch) (h0 : ch (6 * p) = []) (d : Nat) : ∃ ch0 : Ch, ch0 (6 * p) = [] ∧ froF G E L gv 1 (p + 1 + d) ch (6 * p) = abF G (6 * p) (sing G) (wdF G E L gv p 4 ch0) (6 * p) := by
  refine ⟨froF G E L gv 1 p ch, ?_, ?_⟩
  · rw [froF_at ch p (fun b' hb => by omega)]; exact h0
  · induction d with
    | zero =>
      rw [Nat.add_zero, froF, celF, if_pos rfl]
      rfl
    | succ d ih => rw [← Nat.add_assoc, froF, celF_ne (by omega), ih]
theorem cht_1 {G : Ob} {E : Ev} {L gv : Nat → Nat} (h6 : eL E ≤ 6) {p : Nat} (hp : p < eL E) : ∃ ch0 : Ch, ch0 (6 * p) = [] ∧ cht G E L gv (6 * p) = abF G (6 * p) (sing G) (wdF G E L gv p 4 ch0) (6 * p) := by
  obtain ⟨ch0, h1, h2⟩ := froF_1 (G := G) (E := E) (L := L) (gv := gv) (p := p) (fun _ => []) rfl (eL E - (p + 1))
  refine ⟨ch0, h1, ?_⟩
  rw [← h2]
  have key : ∀ d, 1 + d ≤ eL E → manF G E L gv (1 + d) (fun _ => []) (6 * p) = froF G E L gv 1 (p + 1 + (eL E - (p + 1))) (fun _ => []) (6 * p) := by
    intro d
    induction d with
    | zero =>
      intro _
      rw [show p + 1 + (eL E - (p + 1)) = eL E by omega]
      rfl
    | succ d ih =>
      intro h
      rw [← Nat.add_assoc, manF, froF_at _ _ (fun b' hb => by omega)]
      exact ih (by omega)
  have := key (eL E - 1) (by omega)
  rw [show 1 + (eL E - 1) = eL E by omega] at this
  exact this
theorem tryE_len {G : Ob} {ch : Ch} {s g : Nat} {l r : Tr} (h : ch s ≠ []) : tryE G ch s g l r s ≠ [] := by
  unfold tryE
  split
  · intro e
    have := (addE_keep (G := G) (t := .branch g l r) (show 0 < (ch s).length from List.length_pos_iff.mpr h)).1
    rw [e] at this; exact absurd this (Nat.not_lt_zero _)
  · exact h
theorem usR_len {G : Ob} {s g : Nat} {l : Tr} (rs : List Tr) : ∀ ch : Ch, ch s ≠ [] → usR G s g l rs ch s ≠ [] := by
  unfold usR
  induction rs with
  | nil => intro ch h; exact h
  | cons r rs ih =>
    intro ch h
    rw [List.foldl_cons]
    refine ih _ ?_
    split
    · exact tryE_len h
    · exact h
theorem uls_len {G : Ob} {s g : Nat} {rs : List Tr} (ls : List Tr) : ∀ ch : Ch, ch s ≠ [] → uls G s g rs ls ch s ≠ [] := by
  unfold uls
  induction ls with
  | nil => intro ch h; exact h
  | cons l ls ih =>
    intro ch h
    rw [List.foldl_cons]
    refine ih _ ?_
    split
    · exact usR_len rs ch h
    · exact h
theorem abF_len {G : Ob} {s : Nat} (gs : List Nat) : ∀ ch : Ch, (ch s ≠ [] → abF G s gs ch s ≠ []) ∧ (ch s = [] → abF G s gs ch s = []) := by
  unfold abF
  induction gs with
  | nil => intro ch; exact ⟨id, id⟩
  | cons g gs ih =>
    intro ch
    rw [List.foldl_cons]
    refine ⟨fun h => (ih _).1 (uls_len _ ch h), fun h => (ih _).2 ?_⟩
    rw [h]; exact h
theorem wdF_nil {G : Ob} {E : Ev} {L gv : Nat → Nat} {p : Nat} (h : L p = 0) (k : Nat) (ch : Ch) : wdF G E L gv p k ch = ch := by
  induction k with
  | zero => rfl
  | succ k ih => rw [wdF, ih, h, Nat.zero_testBit, if_neg (by decide)]
theorem addE_nz {G : Ob} {ch : Ch} {s : Nat} {t : Tr} : addE G ch s t s ≠ [] := by
  by_cases h : ch s = []
  · have h1 : ¬ (adI G ch s t < (ch s).length) := by rw [h]; exact Nat.not_lt_zero _
    rw [addE, if_neg h1, if_neg (by rw [h]; decide), upL, if_pos rfl]
    intro e
    have := congrArg List.length e
    rw [List.length_append, List.length_singleton, List.length_nil] at this
    omega
  · intro e
    have := (addE_keep (G := G) (t := t) (show 0 < (ch s).length from List.length_pos_iff.mpr h)).1
    rw [e] at this; exact absurd this (Nat.not_lt_zero _)
theorem wdF_nz {G : Ob} {E : Ev} {L gv : Nat → Nat} {p j : Nat} (hb : (L p).testBit j = true) (k : Nat) (hj : j < k) (ch : Ch) : wdF G E L gv p k ch (6 * p) ≠ [] := by
  induction k with
  | zero => omega
  | succ k ih =>
    rw [wdF]
    by_cases hk : (L p).testBit k = true
    · rw [if_pos hk]; exact addE_nz
    · rw [if_neg hk]
      refine ih ?_
      by_cases e : j = k
      · rw [e] at hb; exact absurd hb hk
      · omega
theorem nz_bit {l : Nat} (h : l < 16) (h0 : l ≠ 0) : ∃ j, j < 4 ∧ l.testBit j = true := by
  have := b16_s (P := fun l => decide (l ≠ 0 → l.testBit 0 = true ∨ l.testBit 1 = true ∨ l.testBit 2 = true ∨ l.testBit 3 = true)) (by decide) h
  rcases of_decide_eq_true this h0 with h | h | h | h
  · exact ⟨0, by decide, h⟩
  · exact ⟨1, by decide, h⟩
  · exact ⟨2, by decide, h⟩
  · exact ⟨3, by decide, h⟩
theorem cht_wd {G : Ob} {E : Ev} {L gv : Nat → Nat} (hE : EvB E) (hL : LB E L) (hz : ∀ p, p < eL E → eC E p ≠ 0 → L p ≠ 0) {p : Nat} (hp : p < eL E) : cht G E L gv (6 * p) = [] ↔ eC E p = 0 := by
  obtain ⟨ch0, h1, h2⟩ := cht_1 (G := G) (L := L) (gv := gv) hE.1 hp
  rw [h2]
  constructor
  · intro h
    by_cases h0 : eC E p = 0
    · exact h0
    · obtain ⟨j, hj, hb⟩ := nz_bit (LB16 hE hL hp) (hz p hp h0)
      exact absurd h ((abF_len _ _).1 (wdF_nz hb 4 hj ch0))
  · intro h
    have hl := hL p hp
    rw [h] at hl
    refine (abF_len _ _).2 ?_
    rw [wdF_nil (by omega)]; exact h1
/-- striking leaves a reading where there was one -/
def NZ (E : Ev) (L : Nat → Nat) : Prop := ∀ p, p < eL E → L p < 16 ∧ (eC E p ≠ 0 → L p ≠ 0)
theorem NZ_1 {R : Ob} {E : Ev} {g p : Nat} {s : Sk} (hp : p < eL E) (h : NZ E s.2) : NZ E (s1 R E g p s).2 := by
  rw [s1]
  split
  · rename_i hc
    intro q hq
    show uN s.2 p (s.2 p - lf E s.2 p (R 17 g)) q < 16 ∧ _
    unfold uN
    by_cases e : q = p
    · subst e
      have hle : lf E s.2 q (R 17 g) ≤ s.2 q := by rw [lf, if_pos hq]; exact lo_le (h q hq).1 _
      have := (h q hq).1
      have h2 := hc.2.1
      simp only [if_true]
      exact ⟨by omega, fun _ => by omega⟩
    · simp only [e, if_false]
      exact h q hq
  · exact h
theorem NZ_P {R : Ob} {E : Ev} {g : Nat} {s : Sk} (h : NZ E s.2) (k : Nat) (hk : k ≤ eL E) : NZ E (sP R E g k s).2 := by
  induction k with
  | zero => exact h
  | succ k ih => rw [sP]; exact NZ_1 (by omega) (ih (by omega))
theorem NZ_R {R : Ob} {E : Ev} {s : Sk} (h : NZ E s.2) (k : Nat) : NZ E (sR R E k s).2 := by
  induction k with
  | zero => exact h
  | succ k ih => rw [sR]; exact NZ_P ih _ (Nat.le_refl _)
theorem NZ_I {R : Ob} {E : Ev} (d : Nat) : ∀ L : Nat → Nat, NZ E L → NZ E (sI R E d L) := by
  induction d with
  | zero => intro L h; exact h
  | succ d ih =>
    intro L h
    have h1 : NZ E (rnd R E L).2 := NZ_R (s := (false, L)) h _
    rw [sI]
    split
    · exact ih _ h1
    · exact h1
theorem stk_nz {R : Ob} {E : Ev} (hE : EvB E) {p : Nat} (hp : p < eL E) (h : eC E p ≠ 0) : stk R E p ≠ 0 := by
  have h0 : NZ E (l0 E) := by
    intro q hq
    have h4 := (hE.2 q hq).1
    have : ∀ c, c < 5 → 2 ^ c - 1 < 16 ∧ (c ≠ 0 → 2 ^ c - 1 ≠ 0) := by decide
    exact this _ (by omega)
  exact (NZ_I 25 _ h0 p hp).2 h
