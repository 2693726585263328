/-! Referring. -/
theorem iN_and (a b : Nat) : iN a &&& iN b = iN (a &&& b) := Int32.toBitVec.inj (by unfold iN; simp [BitVec.ofNat_and])
theorem iN_or (a b : Nat) : iN a ||| iN b = iN (a ||| b) := Int32.toBitVec.inj (by unfold iN; simp [BitVec.ofNat_or])
theorem iN_xor (a b : Nat) : iN a ^^^ iN b = iN (a ^^^ b) := Int32.toBitVec.inj (by unfold iN; simp [BitVec.ofNat_xor])
def b64 (P : Nat → Bool) : Bool := (List.range 64).all P
theorem b64_s {P : Nat → Bool} (h : b64 P = true) {l : Nat} (hl : l < 64) : P l = true := by
  unfold b64 at h
  rw [List.all_eq_true] at h
  exact h l (List.mem_range.mpr hl)
def fv (f φ : Nat) : Nat := f / 4 ^ φ % 4
def agN (f g : Nat) : Bool := (decide (f % 4 = g % 4) || decide (f % 4 = 0) || decide (g % 4 = 0)) && (decide (f / 4 % 4 = g / 4 % 4) || decide (f / 4 % 4 = 0) || decide (g / 4 % 4 = 0))
theorem agr {f g : Nat} (hf : f < 64) (hg : g < 64) : f_X5_agree (iN f) (iN g) = some (if agN f g = true then iN 1 else iN 0) := by
  have := b64_s (P := fun f => b64 (fun g => decide (f_X5_agree (iN f) (iN g) = some (if agN f g = true then iN 1 else iN 0)))) (by decide +kernel) hf
  exact of_decide_eq_true (b64_s this hg)
def nG (ok : Nat → Bool) : Nat → Nat → Option Nat
  | 0, _ => none
  | d + 1, r => if ok r = true then some r else nG ok d (r + 1)
def nOk (E : Ev) (L : Nat → Nat) (f p r : Nat) : Bool := (L p).testBit r && decide (eT E p r = iN 0) && agN (eP E p r) f
/-- a noun ahead of a place: its place and what it gives -/
def fD (E : Ev) (L : Nat → Nat) (f : Nat) : Nat → Option (Nat × Nat)
  | 0 => none
  | p + 1 => match nG (nOk E L f p) 4 0 with
    | some r => some (p, eP E p r % 16)
    | none => fD E L f p
def fA (Es : Nat → Ev) (Ls : Nat → Nat → Nat) (f : Nat) : Nat → Nat → Option (Nat × Nat × Nat)
  | 0, _ => none
  | _ + 1, 0 => none
  | c + 1, s + 1 => match fD (Es s) (Ls s) f (eL (Es s)) with
    | some q => some (s, q)
    | none => fA Es Ls f c s
def fb (set : Nat) : Option Nat := nG (fun r => set.testBit r) 4 0
def rfO (Es : Nat → Ev) (Ls : Nat → Nat → Nat) (E : Ev) (L : Nat → Nat) (s place : Nat) : Option (Nat × Nat × Nat) :=
  match fb (lf E L place (iN 1)) with
  | none => none
  | some r => match fD E L (eP E place r) place with
    | some q => some (s, q)
    | none => fA Es Ls (eP E place r) 2 s
def gvO (Es : Nat → Ev) (Ls : Nat → Nat → Nat) (E : Ev) (L : Nat → Nat) (s place : Nat) : Nat :=
  match rfO Es Ls E L s place with
  | none => 0
  | some q => q.2.2
theorem mk4_at {b : Nat → Bool} {r : Nat} (hr : r < 4) : b r = mk4 (b 0) (b 1) (b 2) (b 3) r := by
  match r, hr with
  | 0, _ => rfl
  | 1, _ => rfl
  | 2, _ => rfl
  | 3, _ => rfl
theorem lo_bit {l r : Nat} (hl : l < 16) (hr : r < 4) (b : Nat → Bool) : (lo l b).testBit r = (l.testBit r && b r) := by
  rw [mk4_at (b := b) hr, lo_mk]
  have := b4_s (P := fun r => b16 (fun l => decide ((lo l (mk4 false false false false)).testBit r = (l.testBit r && mk4 false false false false r) ∧ (lo l (mk4 true false false false)).testBit r = (l.testBit r && mk4 true false false false r) ∧ (lo l (mk4 false true false false)).testBit r = (l.testBit r && mk4 false true false false r) ∧ (lo l (mk4 true true false false)).testBit r = (l.testBit r && mk4 true true false false r) ∧ (lo l (mk4 false false true false)).testBit r = (l.testBit r && mk4 false false true false r) ∧ (lo l (mk4 true false true false)).testBit r = (l.testBit r && mk4 true false true false r) ∧ (lo l (mk4 false true true false)).testBit r = (l.testBit r && mk4 false true true false r) ∧ (lo l (mk4 true true true false)).testBit r = (l.testBit r && mk4 true true true false r) ∧ (lo l (mk4 false false false true)).testBit r = (l.testBit r && mk4 false false false true r) ∧ (lo l (mk4 true false false true)).testBit r = (l.testBit r && mk4 true false false true r) ∧ (lo l (mk4 false true false true)).testBit r = (l.testBit r && mk4 false true false true r) ∧ (lo l (mk4 true true false true)).testBit r = (l.testBit r && mk4 true true false true r) ∧ (lo l (mk4 false false true true)).testBit r = (l.testBit r && mk4 false false true true r) ∧ (lo l (mk4 true false true true)).testBit r = (l.testBit r && mk4 true false true true r) ∧ (lo l (mk4 false true true true)).testBit r = (l.testBit r && mk4 false true true true r) ∧ (lo l (mk4 true true true true)).testBit r = (l.testBit r && mk4 true true true true r)))) (by decide +kernel) hr
  obtain ⟨h0, h1, h2, h3, h4, h5, h6, h7, h8, h9, h10, h11, h12, h13, h14, h15⟩ := of_decide_eq_true (b16_s this hl)
  cases b 0 <;> cases b 1 <;> cases b 2 <;> cases b 3 <;> assumption
theorem X5_noun {x x5 : Ob} {E : Ev} {L : Nat → Nat} (hx : RL6 x E L) (hE : EvB E) (hL : LB E L) {p f : Nat} (hp : p < eL E) (hf : f < 64) (v2 : Int32) (d : Nat) : ∀ (n r : Nat), r + d = 4 → d < n →
    wp (f_X5_lookIn_L29 n x5 x v2 (iN f) (iN p) (iN (lf E L p (iN 0))) (iN r)) (fun q => match nG (nOk E L f p) d r with | none => q.1 = 1 | some k => q.1 = 2 ∧ q.2.2 = iN (eP E p k) ∧ k < 4 ∧ nOk E L f p k = true) := by
  have h6 := hE.1
  have h16 := LB16 hE hL hp
  have hl := lf_lt hE hL hp (iN 0)
  induction d with
  | zero =>
    intro n r hr hn
    obtain ⟨n, rfl⟩ : ∃ m, n = m + 1 := ⟨n - 1, by omega⟩
    simp (disch := omega) only [f_X5_lookIn_L29, ↓nM_lit, iN_lit, iN_add, iN_mul, iN_lt, iN_le, iN_eq, iN_c, gd_iN, iN_nM, nM_iN, iN_ltM, nM_lt, nM_le, iN_leM, iN_0M, nM_p1, iN_0s1, decide_true, decide_eq_true_eq, Nat.not_lt_zero, if_true, if_false, wp_some, wp_grd, wp_lb, wp_ite, wp_b1, wp_b2, wp_b3, wp_b4, wp_b5, show 4 ≤ r by omega, nG]
  | succ d ih =>
    intro n r hr hn
    obtain ⟨n, rfl⟩ : ∃ m, n = m + 1 := ⟨n - 1, by omega⟩
    have ih' := ih n (r + 1) (by omega) (by omega)
    have hb : (lf E L p (iN 0)).testBit r = ((L p).testBit r && decide (eT E p r = iN 0)) := by
      rw [lf, if_pos hp]; exact lo_bit h16 (by omega) _
    simp (disch := omega) only [f_X5_lookIn_L29, f_X6_featuresOf, f_X6_featuresOf_J26, hx.1, ↓nM_lit, iN_lit, iN_add, iN_mul, iN_lt, iN_le, iN_eq, iN_c, gd_iN, iN_nM, nM_iN, iN_ltM, nM_lt, nM_le, iN_leM, iN_0M, nM_p1, iN_0s1, decide_true, decide_eq_true_eq, Nat.not_lt_zero, if_true, if_false, wp_some, wp_grd, wp_lb, wp_ite, wp_b1, wp_b2, wp_b3, wp_b4, wp_b5, eq_grd, eq_lb, eq_b1, eq_b2, eq_b3, eq_b4, eq_b5, show ¬ (4 ≤ r) by omega, show ¬ (eL E ≤ p) by omega, show p * 4 + r < 24 by omega, show ¬ (1 = 0) by decide, bit_0 hl (show r < 4 by omega), hb, nG]
    have e : nOk E L f p r = ((L p).testBit r && decide (eT E p r = iN 0) && agN (eP E p r) f) := rfl
    cases hc : ((L p).testBit r && decide (eT E p r = iN 0)) with
    | false =>
      rw [hc, Bool.false_and] at e
      simp only [if_true, e, Bool.false_eq_true, if_false]; exact ih'
    | true =>
      rw [hc, Bool.true_and] at e
      have hbit : (L p).testBit r = true := by
        cases h : (L p).testBit r
        · rw [h] at hc; cases hc
        · rfl
      have hcn := bit_cn (hL p hp) hbit
      have e5 := (hx.2.2 p hp r hcn).2
      have e64 := ((hE.2 p hp).2 r hcn).1
      simp only [Bool.true_eq_false, if_false, e5, agr e64 hf, wp_some]
      cases ha : agN (eP E p r) f with
      | false =>
        rw [ha] at e
        simp (disch := omega) only [Bool.false_eq_true, if_false, if_true, e]; exact ih'
      | true =>
        rw [ha] at e
        simp (disch := omega) only [if_true, e, ↓nM_lit, iN_lit, iN_add, iN_mul, iN_lt, iN_le, iN_eq, iN_c, gd_iN, iN_nM, nM_iN, iN_ltM, nM_lt, nM_le, iN_leM, iN_0M, nM_p1, iN_0s1, decide_true, decide_eq_true_eq, Nat.not_lt_zero, if_true, if_false, show ¬ (1 = 0) by decide, wp_some, wp_grd, wp_lb, wp_ite, wp_b1, wp_b2, wp_b3, wp_b4, wp_b5]
        exact ⟨trivial, trivial, by omega, trivial⟩
theorem X5_down {x x5 : Ob} {E : Ev} {L : Nat → Nat} (hx : RL6 x E L) (hE : EvB E) (hL : LB E L) {f : Nat} (hf : f < 64) (v2 : Int32) (n d : Nat) (hd : d ≤ eL E) (hn : d < n) :
    wp (f_X5_lookIn_L12 n x5 x v2 (iN f) (iD d)) (fun q => match fD E L f d with | none => q.1 = 1 | some k => q.1 = 2 ∧ q.2.1 = iN k.1 ∧ q.2.2 &&& iN 15 = iN k.2 ∧ k.1 < eL E ∧ k.2 < 16) := by
  have h6 := hE.1
  refine lp_dn (F := fun n (_ : Unit) i => f_X5_lookIn_L12 n x5 x v2 (iN f) i) (V := fun i _ => i ≤ eL E ∧ fD E L f d = fD E L f i) ?_ ?_ n d () hn ⟨hd, rfl⟩
  · intro n _ ⟨_, hv⟩
    rw [hv]
    simp (disch := omega) only [f_X5_lookIn_L12, wp_some, wp_grd, wp_lb, wp_ite, wp_b1, wp_b2, wp_b3, wp_b4, wp_b5, fD, show nM < 0 ↔ True by decide, if_true]
  · intro n _ i ⟨hi, hv⟩ hk
    have hp : i < eL E := by omega
    have hl := lf_lt hE hL hp (iN 0)
    simp (disch := omega) only [f_X5_lookIn_L12, ↓nM_lit, iN_lit, iN_add, iN_mul, iN_lt, iN_le, iN_eq, iN_c, gd_iN, iN_nM, nM_iN, iN_ltM, nM_lt, nM_le, iN_leM, iN_0M, nM_p1, iN_0s1, decide_true, decide_eq_true_eq, Nat.not_lt_zero, if_true, if_false, wp_some, wp_grd, wp_lb, wp_ite, wp_b1, wp_b2, wp_b3, wp_b4, wp_b5, eq_grd, eq_lb, eq_b1, eq_b2, eq_b3, eq_b4, eq_b5, X6_left hx hE hL hp]
    refine wp_mono (X5_noun (x5 := x5) hx hE hL hp hf v2 4 200 0 (by omega) (by omega)) ?_
    intro q hq
    rw [fD] at hv
    cases hg : nG (nOk E L f i) 4 0 with
    | none =>
      rw [hg] at hq hv
      simp only [hq, if_true, iD_pM]
      exact hk () ⟨by omega, hv⟩
    | some k =>
      rw [hg] at hq hv
      obtain ⟨q1, q2, q3, q4⟩ := hq
      rw [hv]
      have hbit : (L i).testBit k = true := by
        cases h : (L i).testBit k
        · rw [nOk, h] at q4; cases q4
        · rfl
      have hcn := bit_cn (hL i hp) hbit
      have e64 := ((hE.2 i hp).2 k hcn).1
      simp only [q1, show ¬ (2 = 1) by decide, if_false, wp_some, wp_grd, wp_lb, wp_ite, wp_b1, wp_b2, wp_b3, wp_b4, wp_b5]
      refine ⟨trivial, trivial, ?_, hp, Nat.mod_lt _ (by decide)⟩
      rw [q2, iN_and]
      exact congrArg iN (Nat.and_two_pow_sub_one_eq_mod (eP E i k) 4)
theorem X5_look {x x5 : Ob} {E : Ev} {L : Nat → Nat} (hx : RL6 x E L) (hE : EvB E) (hL : LB E L) {f : Nat} (hf : f < 64) (s b : Nat) (hb : b ≤ eL E) :
    wp (f_X5_lookIn x5 x (iN s) (iN b) (iN f)) (fun q => match fD E L f b with | none => q.1 = iN 0 | some k => q.1 = iN 1 ∧ q.2 0 0 = iN s ∧ q.2 1 0 = iN k.1 ∧ q.2 2 0 = iN k.2 ∧ k.1 < eL E ∧ k.2 < 16) := by
  have h6 := hE.1
  have e : (if iN (eL E) < iN b then iN (eL E) else iN b) = iN b := by
    have : ¬ (iN (eL E) < iN b) := by rw [iN_lt (by omega) (by omega)]; omega
    rw [if_neg this]
  have e2 : iN b - 1 = iD b := rfl
  rw [f_X5_lookIn, hx.1, e, e2]
  simp only [wp_some, wp_grd, wp_lb, wp_ite, wp_b1, wp_b2, wp_b3, wp_b4, wp_b5]
  refine wp_mono (X5_down (x5 := x5) hx hE hL hf (iN s) 200 b hb (by omega)) ?_
  intro q hq
  cases hg : fD E L f b with
  | none =>
    rw [hg] at hq
    simp only [hq, if_true, wp_some, wp_grd, wp_lb, wp_ite, wp_b1, wp_b2, wp_b3, wp_b4, wp_b5, iN_0]
  | some k =>
    rw [hg] at hq
    obtain ⟨q1, q2, q3, q4, q5⟩ := hq
    simp (disch := omega) only [q1, show ¬ (2 = 1) by decide, if_false, wp_some, wp_grd, wp_lb, wp_ite, wp_b1, wp_b2, wp_b3, wp_b4, wp_b5, upo_ap, iN_lit]
    refine ⟨trivial, ?_, ?_, ?_, q4, q5⟩
    · simp
    · simp [q2]
    · simp [q3]
