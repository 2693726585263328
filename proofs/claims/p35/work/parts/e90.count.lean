/-! Relaxed equations, in their order. -/
theorem iN_shr {a : Nat} (h : a < 2147483648) {k : Nat} (hk : k < 32) : iN a >>> (iN k &&& iN 31) = iN (a / 2 ^ k) := by
  have hb : ∀ k, k < 32 → ((iN k &&& iN 31).toBitVec.smod 32#32) = BitVec.ofNat 32 k := by decide
  apply Int32.toBitVec_inj.mp
  rw [Int32.toBitVec_shiftRight]
  have hb2 := hb k hk
  have e1 : (iN a).toBitVec = BitVec.ofNat 32 a := rfl
  have e2 : (iN (a / 2 ^ k)).toBitVec = BitVec.ofNat 32 (a / 2 ^ k) := rfl
  rw [e1, e2]
  have hm : (BitVec.ofNat 32 a).msb = false := by
    rw [BitVec.msb_eq_false_iff_two_mul_lt, BitVec.toNat_ofNat, Nat.mod_eq_of_lt (by omega)]; omega
  show (BitVec.ofNat 32 a).sshiftRight' ((iN k &&& iN 31).toBitVec.smod 32#32) = _
  rw [hb2, BitVec.sshiftRight', BitVec.sshiftRight_eq_of_msb_false hm]
  apply BitVec.eq_of_toNat_eq
  have hd : a / 2 ^ k ≤ a := Nat.div_le_self _ _
  rw [BitVec.toNat_ushiftRight, BitVec.toNat_ofNat, BitVec.toNat_ofNat, BitVec.toNat_ofNat, Nat.mod_eq_of_lt (show a < 2 ^ 32 by omega), Nat.mod_eq_of_lt (show k < 2 ^ 32 by omega), Nat.mod_eq_of_lt (show a / 2 ^ k < 2 ^ 32 by omega), Nat.shiftRight_eq_div_pow]
theorem rlN_3 (rel : Nat → Nat) : rlN rel 3 = rel 0 + rel 1 * 32 + rel 2 * 1024 := by
  simp only [rlN, Nat.zero_add, Nat.pow_zero, Nat.mul_one, Nat.pow_one, show 32 ^ 2 = 1024 from rfl]
theorem rel_get {rel : Nat → Nat} (h : ∀ k, rel k < 32) {e : Nat} (he : e < 3) : (iN (rlN rel 3) >>> (iN (5 * e) &&& iN 31)) &&& iN 31 = iN (rel e) := by
  have h0 := h 0
  have h1 := h 1
  have h2 := h 2
  rw [rlN_3, iN_shr (by omega) (by omega), iN_and, show (31 : Nat) = 2 ^ 5 - 1 from rfl, Nat.and_two_pow_sub_one_eq_mod]
  congr 1
  match e, he with
  | 0, _ => rw [Nat.mul_zero, Nat.pow_zero, Nat.div_one]; omega
  | 1, _ => rw [Nat.mul_one, show 2 ^ 5 = 32 from rfl]; omega
  | 2, _ => rw [show 2 ^ (5 * 2) = 1024 from rfl, show 2 ^ 5 = 32 from rfl]; omega
theorem tR_B {G : Ob} (hG : WGr G) (t : Tr) : WT G t → (∀ k, tR G t k < 32) ∧ ∀ g l r, t = .branch g l r → ∀ k, nn (G 26 g) ≤ k → tR G t k = 0 := by
  cases t with
  | leaf a => intro _; exact ⟨fun _ => by show 0 < 32; decide, fun g l r h => by cases h⟩
  | branch g l r =>
    intro h
    obtain ⟨w1, -, -, w4, -⟩ := h
    simp only [tR]
    cases hu : uni G g (tF G l) (tF G r) with
    | none => rw [hu] at w4; cases w4
    | some u =>
      have hB := uni_UB hG w1 hu
      refine ⟨hB.2.1, ?_⟩
      intro g' l' r' he k hk
      cases he
      exact hB.2.2.1 k hk
theorem X0_rel {x G : Ob} {t : Tr} {σ : Nat} (hG : WGr G) (hw : WT G t) (h : RC x G t σ) (hσ : σ < 288) {e : Nat} (he : e < 3) :
    f_X0_relaxedBits x (iN σ) (iN e) = some (iN (tR G t e)) ∧ f_X0_isRelaxed x (iN σ) (iN e) = some (if tR G t e = 0 then iN 0 else iN 1) := by
  have h8 : x 8 σ = iN (rlN (tR G t) 3) := by
    cases t with
    | leaf a =>
      obtain ⟨-, -, -, -, -, -, -, h8⟩ := h
      have e0 : rlN (tR G (.leaf a)) 3 = 0 := by simp only [rlN_3, tR, Nat.zero_mul, Nat.add_zero]
      rw [e0]; exact h8
    | branch g l r => obtain ⟨-, σl, σr, ⟨-, -, -, -, -, -, h8⟩, -⟩ := h; exact h8
  have hb := (tR_B hG t hw).1
  have hbe := hb e
  have e1 : f_X0_relaxedBits x (iN σ) (iN e) = some (iN (tR G t e)) := by
    simp (disch := omega) only [f_X0_relaxedBits, f_X10_isBelow, ↓nM_lit, iN_lit, iN_add, iN_mul, iN_lt, iN_le, iN_eq, iN_c, gd_iN, iN_nM, nM_iN, iN_ltM, nM_lt, nM_le, iN_leM, iN_0M, nM_p1, iN_0s1, decide_true, decide_eq_true_eq, Nat.not_lt_zero, if_true, if_false, eq_grd, eq_lb, eq_b1, eq_b2, eq_b3, eq_b4, eq_b5, show ¬ (288 ≤ σ) by omega, show ¬ (1 = 0) by decide, hσ, h8, rel_get hb he]
  refine ⟨e1, ?_⟩
  rw [f_X0_isRelaxed, e1]
  simp (disch := omega) only [↓nM_lit, iN_lit, iN_add, iN_mul, iN_lt, iN_le, iN_eq, iN_c, gd_iN, iN_nM, nM_iN, iN_ltM, nM_lt, nM_le, iN_leM, iN_0M, nM_p1, iN_0s1, decide_true, decide_eq_true_eq, Nat.not_lt_zero, if_true, if_false, eq_grd, eq_lb, eq_b1, eq_b2, eq_b3, eq_b4, eq_b5]
  split <;> rfl
def rls (rel : Nat → Nat) : Nat → List Nat
  | 0 => []
  | e + 1 => rls rel e ++ (if rel e = 0 then [] else [e])
abbrev Fa : Type := Tr × Nat
def fls (G : Ob) (t : Tr) : List Fa := (rls (tR G t) 3).map (fun e => (t, e))
def FL (G : Ob) (ns : List Tr) : List Fa := ns.flatMap (fls G)
theorem FL_app (G : Ob) (a b : List Tr) : FL G (a ++ b) = FL G a ++ FL G b := List.flatMap_append
theorem FL_one (G : Ob) (t : Tr) : FL G [t] = fls G t := by unfold FL; simp
theorem rls_len (rel : Nat → Nat) (e : Nat) : (rls rel e).length ≤ e := by
  induction e with
  | zero => exact Nat.le_refl _
  | succ e ih => rw [rls, List.length_append]; split <;> simp only [List.length_nil, List.length_singleton] <;> omega
theorem FL_len (G : Ob) (ns : List Tr) : (FL G ns).length ≤ 3 * ns.length := by
  induction ns with
  | nil => exact Nat.le_refl _
  | cons t ns ih =>
    have : FL G (t :: ns) = fls G t ++ FL G ns := rfl
    rw [this, List.length_append, List.length_cons]
    have h := rls_len (tR G t) 3
    have : (fls G t).length = (rls (tR G t) 3).length := List.length_map _
    omega
theorem take_s {l : List Tr} {k : Nat} (h : k < l.length) : l.take (k + 1) = l.take k ++ [l.getD k dum] := by
  rw [List.getD_eq_getElem?_getD, List.getElem?_eq_getElem h, Option.getD_some, List.take_succ_eq_append_getElem h]
/-- the row of edges a class's tree holds, with what is asked of it -/
def NW (G : Ob) (ns : List Tr) : Prop := ns.length ≤ 127 ∧ ∀ t, t ∈ ns → WT G t
theorem pre_W {G : Ob} (t : Tr) : WT G t → ∀ u, u ∈ pre t → WT G u := by
  induction t with
  | leaf a =>
    intro h u hu
    rw [pre_leaf h] at hu
    rw [List.mem_singleton.mp hu]; exact h
  | branch g l r ihl ihr =>
    intro h u hu
    rw [pre] at hu
    rcases List.mem_cons.mp hu with e | hu
    · rw [e]; exact h
    · rcases List.mem_append.mp hu with hu | hu
      · exact ihl h.2.1 u hu
      · by_cases hun : G 24 g = nM
        · rw [h.2.2.2.2.1 hun, pre_dum] at hu
          exact absurd hu List.not_mem_nil
        · exact ihr (h.2.2.2.2.2 hun).1 u hu
theorem wL_W {G : Ob} (hG : WGr G) {ch : Ch} (hW : WCh G ch) (n : Nat) : NW G (wL G ch n) := by
  refine ⟨by have := wL_len hG hW n; omega, ?_⟩
  intro t ht
  unfold wL at ht
  cases h : wI G ch n with
  | none => rw [h] at ht; exact absurd ht List.not_mem_nil
  | some i => rw [h] at ht; exact pre_W _ (wT_W hW h).1 t ht
theorem X9_count {x G y : Ob} {ns : List Tr} (hG : WGr G) (hN : NR x G y ns) (hW : NW G ns) : f_X9_countRelaxed y x = some (iN (FL G ns).length) := by
  have hl := hW.1
  refine wp_eq ?_
  rw [f_X9_countRelaxed]
  simp only [wp_some, wp_grd, wp_lb, wp_ite, wp_b1, wp_b2, wp_b3, wp_b4, wp_b5]
  refine lp_up (F := fun f (v : Int32) k => f_X9_countRelaxed_L4 f y x v k) (V := fun k v => v = iN (FL G (ns.take k)).length) (hi := ns.length) ?_ 200 0 (iN 0) (by omega) (by omega) rfl
  rintro f v k hk hv hkk
  by_cases he : k = ns.length
  · subst he
    rw [List.take_length] at hv
    simp (disch := omega) only [f_X9_countRelaxed_L4, hN.1, ↓nM_lit, iN_lit, iN_add, iN_mul, iN_lt, iN_le, iN_eq, iN_c, gd_iN, iN_nM, nM_iN, iN_ltM, nM_lt, nM_le, iN_leM, iN_0M, nM_p1, iN_0s1, decide_true, decide_eq_true_eq, Nat.not_lt_zero, if_true, if_false, wp_some, wp_grd, wp_lb, wp_ite, wp_b1, wp_b2, wp_b3, wp_b4, wp_b5, Nat.le_refl]
    exact hv
  · have hlt : k < ns.length := by omega
    obtain ⟨σ, hσ, e1, hr⟩ := hN.2 k hlt
    have hw := hW.2 _ (getD_mem hlt)
    simp (disch := omega) only [f_X9_countRelaxed_L4, hN.1, ↓nM_lit, iN_lit, iN_add, iN_mul, iN_lt, iN_le, iN_eq, iN_c, gd_iN, iN_nM, nM_iN, iN_ltM, nM_lt, nM_le, iN_leM, iN_0M, nM_p1, iN_0s1, decide_true, decide_eq_true_eq, Nat.not_lt_zero, if_true, if_false, wp_some, wp_grd, wp_lb, wp_ite, wp_b1, wp_b2, wp_b3, wp_b4, wp_b5, show ¬ (ns.length ≤ k) by omega]
    have inner : wp (f_X9_countRelaxed_L15 200 y x v (iN k) (iN 0)) (fun q => q.1 = iN ((FL G (ns.take k)).length + (rls (tR G (ns.getD k dum)) 3).length)) := by
      refine lp_up (F := fun f (v : Int32) e => f_X9_countRelaxed_L15 f y x v (iN k) e) (V := fun e v => v = iN ((FL G (ns.take k)).length + (rls (tR G (ns.getD k dum)) e).length)) (hi := 3) ?_ 200 0 v (by omega) (by omega) hv
      rintro f v e he2 hv hk2
      by_cases h3 : e = 3
      · subst h3
        simp (disch := omega) only [f_X9_countRelaxed_L15, ↓nM_lit, iN_lit, iN_add, iN_mul, iN_lt, iN_le, iN_eq, iN_c, gd_iN, iN_nM, nM_iN, iN_ltM, nM_lt, nM_le, iN_leM, iN_0M, nM_p1, iN_0s1, decide_true, decide_eq_true_eq, Nat.not_lt_zero, if_true, if_false, wp_some, wp_grd, wp_lb, wp_ite, wp_b1, wp_b2, wp_b3, wp_b4, wp_b5, Nat.le_refl]
        exact hv
      · obtain ⟨-, hi⟩ := X0_rel hG hw hr hσ (show e < 3 by omega)
        simp (disch := omega) only [f_X9_countRelaxed_L15, ↓nM_lit, iN_lit, iN_add, iN_mul, iN_lt, iN_le, iN_eq, iN_c, gd_iN, iN_nM, nM_iN, iN_ltM, nM_lt, nM_le, iN_leM, iN_0M, nM_p1, iN_0s1, decide_true, decide_eq_true_eq, Nat.not_lt_zero, if_true, if_false, wp_some, wp_grd, wp_lb, wp_ite, wp_b1, wp_b2, wp_b3, wp_b4, wp_b5, eq_grd, eq_lb, eq_b1, eq_b2, eq_b3, eq_b4, eq_b5, show ¬ (3 ≤ e) by omega, show k < 128 by omega, e1, hi, true_and]
        by_cases hz : tR G (ns.getD k dum) e = 0
        · simp (disch := omega) only [hz, if_true, ↓nM_lit, iN_lit, iN_add, iN_mul, iN_lt, iN_le, iN_eq, iN_c, gd_iN, iN_nM, nM_iN, iN_ltM, nM_lt, nM_le, iN_leM, iN_0M, nM_p1, iN_0s1, decide_true, decide_eq_true_eq, Nat.not_lt_zero, if_true, if_false, wp_some, wp_grd, wp_lb, wp_ite, wp_b1, wp_b2, wp_b3, wp_b4, wp_b5]
          refine hk2 _ (by omega) ?_
          rw [rls, if_pos hz, List.append_nil, hv, iN_add, Nat.add_zero]
        · simp (disch := omega) only [hz, if_false, ↓nM_lit, iN_lit, iN_add, iN_mul, iN_lt, iN_le, iN_eq, iN_c, gd_iN, iN_nM, nM_iN, iN_ltM, nM_lt, nM_le, iN_leM, iN_0M, nM_p1, iN_0s1, decide_true, decide_eq_true_eq, Nat.not_lt_zero, if_true, if_false, wp_some, wp_grd, wp_lb, wp_ite, wp_b1, wp_b2, wp_b3, wp_b4, wp_b5, show ¬ (1 = 0) by decide]
          refine hk2 _ (by omega) ?_
          rw [rls, if_neg hz, List.length_append, List.length_singleton, hv, iN_add, Nat.add_assoc]
    refine wp_mono inner ?_
    rintro ⟨q1, q2⟩ hq
    refine hkk q1 hlt ?_
    rw [take_s hlt, FL_app, FL_one, List.length_append]
    have : (fls G (ns.getD k dum)).length = (rls (tR G (ns.getD k dum)) 3).length := List.length_map _
    rw [this]; exact hq
