/-! Faults of style, by the class. -/
def SPr (M : Ob) (E : Ev) (L : Nat → Nat) (w p n : Nat) (k : Nat) : Bool := decide (M 63 k = nM) && stF M E L w p n n k
def SLk (M : Ob) (E : Ev) (L : Nat → Nat) (w p n : Nat) (k : Nat) : List Nat := (List.range k).filter (SPr M E L w p n)
def FLS (M : Ob) (E : Ev) (L : Nat → Nat) (wd : Nat → Nat) (n m : Nat) : List Nat := (List.range m).flatMap (fun p => (SLk M E L (wd p) p n n).map (fun k => 10 * k + p))
theorem SLk_s {M : Ob} {E : Ev} {L : Nat → Nat} {w p n k : Nat} : SLk M E L w p n (k + 1) = SLk M E L w p n k ++ (if SPr M E L w p n k = true then [k] else []) := by
  unfold SLk
  rw [List.range_succ, List.filter_append, List.filter_cons, List.filter_nil]
theorem FLS_s {M : Ob} {E : Ev} {L wd : Nat → Nat} {n m : Nat} : FLS M E L wd n (m + 1) = FLS M E L wd n m ++ (SLk M E L (wd m) m n n).map (fun k => 10 * k + m) := by
  unfold FLS
  rw [List.range_succ, List.flatMap_append]
  simp only [List.flatMap_cons, List.flatMap_nil, List.append_nil]
theorem SLk_len {M : Ob} {E : Ev} {L : Nat → Nat} {w p n : Nat} (k : Nat) : (SLk M E L w p n k).length ≤ k := by
  have := List.length_filter_le (SPr M E L w p n) (List.range k)
  rw [List.length_range] at this
  exact this
theorem FLS_len {M : Ob} {E : Ev} {L wd : Nat → Nat} {n : Nat} (m : Nat) : (FLS M E L wd n m).length ≤ n * m := by
  induction m with
  | zero => exact Nat.zero_le _
  | succ m ih =>
    rw [FLS_s, List.length_append, List.length_map, Nat.mul_succ]
    have := SLk_len (M := M) (E := E) (L := L) (w := wd m) (p := m) (n := n) n
    omega
theorem SLk_split {M : Ob} {E : Ev} {L : Nat → Nat} {w p n k : Nat} (h : SPr M E L w p n k = true) (d : Nat) : ∃ tl, SLk M E L w p n (k + 1 + d) = SLk M E L w p n k ++ k :: tl := by
  induction d with
  | zero => exact ⟨[], by rw [Nat.add_zero, SLk_s, if_pos h]⟩
  | succ d ih =>
    obtain ⟨tl, ih⟩ := ih
    exact ⟨tl ++ (if SPr M E L w p n (k + 1 + d) = true then [k + 1 + d] else []), by rw [← Nat.add_assoc, SLk_s, ih, List.append_assoc, List.cons_append]⟩
theorem FLS_split {M : Ob} {E : Ev} {L wd : Nat → Nat} {n p : Nat} (d : Nat) : ∃ tl, FLS M E L wd n (p + 1 + d) = FLS M E L wd n (p + 1) ++ tl := by
  induction d with
  | zero => exact ⟨[], by rw [List.append_nil]⟩
  | succ d ih =>
    obtain ⟨tl, ih⟩ := ih
    exact ⟨tl ++ _, by rw [← Nat.add_assoc, FLS_s, ih, List.append_assoc]⟩
theorem FLS_at {M : Ob} {E : Ev} {L wd : Nat → Nat} {n m p k : Nat} (hp : p < m) (hk : k < n) (h : SPr M E L (wd p) p n k = true) :
    (FLS M E L wd n p).length + (SLk M E L (wd p) p n k).length < (FLS M E L wd n m).length ∧ (FLS M E L wd n m).getD ((FLS M E L wd n p).length + (SLk M E L (wd p) p n k).length) 0 = 10 * k + p := by
  obtain ⟨t1, h1⟩ := FLS_split (M := M) (E := E) (L := L) (wd := wd) (n := n) (p := p) (m - (p + 1))
  rw [show p + 1 + (m - (p + 1)) = m by omega] at h1
  obtain ⟨t2, h2⟩ := SLk_split h (n - (k + 1))
  rw [show k + 1 + (n - (k + 1)) = n by omega] at h2
  have e2 : FLS M E L wd n m = (FLS M E L wd n p ++ (SLk M E L (wd p) p n k).map (fun k => 10 * k + p)) ++ (10 * k + p) :: (t2.map (fun k => 10 * k + p) ++ t1) := by
    rw [h1, FLS_s, h2, List.map_append, List.map_cons]
    simp only [List.append_assoc, List.cons_append]
  have e3 : (FLS M E L wd n p ++ (SLk M E L (wd p) p n k).map (fun k => 10 * k + p)).length = (FLS M E L wd n p).length + (SLk M E L (wd p) p n k).length := by
    rw [List.length_append, List.length_map]
  rw [← e3, e2]
  refine ⟨?_, getD_mid _ _ _ _⟩
  simp only [List.length_append, List.length_cons]
  omega
theorem filt_n {P : Nat → Bool} {n : Nat} (d : Nat) : (List.range (n + d)).filter (fun k => decide (k < n) && P k) = (List.range n).filter P := by
  induction d with
  | zero =>
    refine List.filter_congr ?_
    intro k hk
    have hk' : k < n := List.mem_range.mp hk
    rw [decide_eq_true hk', Bool.true_and]
  | succ d ih =>
    rw [← Nat.add_assoc, List.range_succ, List.filter_append, ih, List.filter_cons, List.filter_nil, decide_eq_false (show ¬ (n + d < n) by omega), Bool.false_and, if_neg (by decide), List.append_nil]
theorem bc_64 (F : Nat) (h : F < 4096) : f_J6_bitCount_0f7a4 (iN F) = some (iN ((List.range 12).filter (fun k => F.testBit k)).length) := by
  have := b64_s (P := fun a => b64 (fun b => decide (f_J6_bitCount_0f7a4 (iN (64 * a + b)) = some (iN ((List.range 12).filter (fun k => (64 * a + b).testBit k)).length)))) (by decide +kernel) (show F / 64 < 64 by omega)
  have := of_decide_eq_true (b64_s this (show F % 64 < 64 by omega))
  rw [show 64 * (F / 64) + F % 64 = F by omega] at this
  exact this
theorem X8_count {x8 M x : Ob} {E : Ev} {L : Nat → Nat} {n : Nat} {wd : Nat → Nat} (h8 : QX8 x8 M) (e59 : M 59 0 = iN n) (hn : n ≤ 12) (hx : RL6 x E L) (hE : EvB E) (hL : LB E L) (hw : ∀ p, p < eL E → x 1 p = iN (wd p) ∧ wd p < 40) :
    f_X8_countFaults x8 x = some (iN (FLS M E L wd n (eL E)).length) := by
  have h6 := hE.1
  refine wp_eq ?_
  rw [f_X8_countFaults]
  simp only [wp_some, wp_grd, wp_lb, wp_ite, wp_b1, wp_b2, wp_b3, wp_b4, wp_b5]
  refine lp_up (F := fun f (v : Int32) j => f_X8_countFaults_L4 f x8 x v j) (V := fun p v => v = iN (FLS M E L wd n p).length) (hi := eL E) ?_ 200 0 (iN 0) (by omega) (by omega) rfl
  rintro f v p hp hv hk
  subst hv
  by_cases he : p = eL E
  · subst he
    simp (disch := omega) only [f_X8_countFaults_L4, hx.1, ↓nM_lit, iN_lit, iN_add, iN_mul, iN_lt, iN_le, iN_eq, iN_c, gd_iN, iN_nM, nM_iN, iN_ltM, nM_lt, nM_le, iN_leM, iN_0M, nM_p1, iN_0s1, decide_true, decide_eq_true_eq, Nat.not_lt_zero, if_true, if_false, wp_some, wp_grd, wp_lb, wp_ite, wp_b1, wp_b2, wp_b3, wp_b4, wp_b5, Nat.le_refl]
  · have hp' : p < eL E := by omega
    obtain ⟨r, e, F, hF, er, hb⟩ := X8_stand h8 e59 hn hx hE hL hp' (hw p hp').1 (hw p hp').2
    subst er
    have hbits : (List.range 12).filter (fun k => F.testBit k) = SLk M E L (wd p) p n n := by
      have h1 : (List.range 12).filter (fun k => F.testBit k) = (List.range 12).filter (fun k => decide (k < n) && SPr M E L (wd p) p n k) := by
        refine List.filter_congr ?_
        intro k hk
        rw [hb k (List.mem_range.mp hk), SPr, Bool.and_assoc]
      have h2 := filt_n (P := SPr M E L (wd p) p n) (n := n) (12 - n)
      rw [show n + (12 - n) = 12 by omega] at h2
      rw [h1, h2]; rfl
    simp (disch := omega) only [f_X8_countFaults_L4, hx.1, ↓nM_lit, iN_lit, iN_add, iN_mul, iN_lt, iN_le, iN_eq, iN_c, gd_iN, iN_nM, nM_iN, iN_ltM, nM_lt, nM_le, iN_leM, iN_0M, nM_p1, iN_0s1, decide_true, decide_eq_true_eq, Nat.not_lt_zero, if_true, if_false, wp_some, wp_grd, wp_lb, wp_ite, wp_b1, wp_b2, wp_b3, wp_b4, wp_b5, eq_grd, eq_lb, eq_b1, eq_b2, eq_b3, eq_b4, eq_b5, show ¬ (eL E ≤ p) by omega, e, bc_64 F hF, hbits]
    refine hk _ hp' ?_
    rw [FLS_s, List.length_append, List.length_map]
theorem X8_number {x8 M x : Ob} {E : Ev} {L : Nat → Nat} {n : Nat} {wd : Nat → Nat} (h8 : QX8 x8 M) (e59 : M 59 0 = iN n) (hn : n ≤ 12) (hx : RL6 x E L) (hE : EvB E) (hL : LB E L) (hw : ∀ p, p < eL E → x 1 p = iN (wd p) ∧ wd p < 40) (v : Int32) :
    wp (f_X8_faultNumber x8 x v) (fun r => ((∀ i, i < (FLS M E L wd n (eL E)).length → v ≠ iN i) ∧ r = nM) ∨ ∃ i, i < (FLS M E L wd n (eL E)).length ∧ v = iN i ∧ r = iN ((FLS M E L wd n (eL E)).getD i 0)) := by
  have h6 := hE.1
  obtain ⟨-, q0, -⟩ := id h8
  have k59 : x8 0 0 = iN n := by rw [q0]; exact e59
  rw [f_X8_faultNumber]
  simp only [wp_some, wp_grd, wp_lb, wp_ite, wp_b1, wp_b2, wp_b3, wp_b4, wp_b5]
  have key : wp (f_X8_faultNumber_L5 200 x8 x v (iN 0) (iN 0)) (fun q => (q.1 = 1 ∧ ∀ i, i < (FLS M E L wd n (eL E)).length → v ≠ iN i) ∨ (q.1 = 2 ∧ ∃ p k, p < eL E ∧ k < n ∧ SPr M E L (wd p) p n k = true ∧ q.2.2.1 = iN p ∧ q.2.2.2 = iN k ∧ v = iN ((FLS M E L wd n p).length + (SLk M E L (wd p) p n k).length))) := by
    refine lp_up (F := fun f (c : Int32) p => f_X8_faultNumber_L5 f x8 x v c p) (V := fun p c => c = iN (FLS M E L wd n p).length ∧ ∀ i, i < (FLS M E L wd n p).length → v ≠ iN i) (hi := eL E) ?_ 200 0 (iN 0) (by omega) (by omega) ⟨rfl, fun i hi => absurd hi (Nat.not_lt_zero i)⟩
    rintro f c p hp ⟨hc, hno⟩ hk
    by_cases he : p = eL E
    · subst he
      simp (disch := omega) only [f_X8_faultNumber_L5, hx.1, ↓nM_lit, iN_lit, iN_add, iN_mul, iN_lt, iN_le, iN_eq, iN_c, gd_iN, iN_nM, nM_iN, iN_ltM, nM_lt, nM_le, iN_leM, iN_0M, nM_p1, iN_0s1, decide_true, decide_eq_true_eq, Nat.not_lt_zero, if_true, if_false, wp_some, wp_grd, wp_lb, wp_ite, wp_b1, wp_b2, wp_b3, wp_b4, wp_b5, Nat.le_refl]
      exact Or.inl ⟨trivial, hno⟩
    · have hp' : p < eL E := by omega
      obtain ⟨r, e, F, hF, er, hb⟩ := X8_stand h8 e59 hn hx hE hL hp' (hw p hp').1 (hw p hp').2
      subst er
      simp (disch := omega) only [f_X8_faultNumber_L5, hx.1, ↓nM_lit, iN_lit, iN_add, iN_mul, iN_lt, iN_le, iN_eq, iN_c, gd_iN, iN_nM, nM_iN, iN_ltM, nM_lt, nM_le, iN_leM, iN_0M, nM_p1, iN_0s1, decide_true, decide_eq_true_eq, Nat.not_lt_zero, if_true, if_false, wp_some, wp_grd, wp_lb, wp_ite, wp_b1, wp_b2, wp_b3, wp_b4, wp_b5, eq_grd, eq_lb, eq_b1, eq_b2, eq_b3, eq_b4, eq_b5, show ¬ (eL E ≤ p) by omega, e]
      have inner : wp (f_X8_faultNumber_L26 200 x8 x v c (iN p) (iN F) (iN 0)) (fun q => (q.1 = 1 ∧ q.2.1 = iN ((FLS M E L wd n p).length + (SLk M E L (wd p) p n n).length) ∧ ∀ i, i < (FLS M E L wd n p).length + (SLk M E L (wd p) p n n).length → v ≠ iN i) ∨ (q.1 = 2 ∧ ∃ k, k < n ∧ SPr M E L (wd p) p n k = true ∧ q.2.2 = iN k ∧ v = iN ((FLS M E L wd n p).length + (SLk M E L (wd p) p n k).length))) := by
        refine lp_up (F := fun f (c : Int32) k => f_X8_faultNumber_L26 f x8 x v c (iN p) (iN F) k) (V := fun k c => c = iN ((FLS M E L wd n p).length + (SLk M E L (wd p) p n k).length) ∧ ∀ i, i < (FLS M E L wd n p).length + (SLk M E L (wd p) p n k).length → v ≠ iN i) (hi := n) ?_ 200 0 c (by omega) (by omega) ⟨hc, hno⟩
        rintro f c k hkn ⟨hc, hno⟩ hk2
        by_cases hen : k = n
        · subst hen
          simp (disch := omega) only [f_X8_faultNumber_L26, k59, ↓nM_lit, iN_lit, iN_add, iN_mul, iN_lt, iN_le, iN_eq, iN_c, gd_iN, iN_nM, nM_iN, iN_ltM, nM_lt, nM_le, iN_leM, iN_0M, nM_p1, iN_0s1, decide_true, decide_eq_true_eq, Nat.not_lt_zero, if_true, if_false, wp_some, wp_grd, wp_lb, wp_ite, wp_b1, wp_b2, wp_b3, wp_b4, wp_b5, Nat.le_refl]
          exact Or.inl ⟨trivial, hc, hno⟩
        · have hk12 : k < 12 := by omega
          have hbk : F.testBit k = SPr M E L (wd p) p n k := by
            rw [hb k hk12, SPr, decide_eq_true (show k < n by omega), Bool.true_and]
          simp (disch := omega) only [f_X8_faultNumber_L26, k59, ↓nM_lit, iN_lit, iN_add, iN_mul, iN_lt, iN_le, iN_eq, iN_c, gd_iN, iN_nM, nM_iN, iN_ltM, nM_lt, nM_le, iN_leM, iN_0M, nM_p1, iN_0s1, decide_true, decide_eq_true_eq, Nat.not_lt_zero, if_true, if_false, wp_some, wp_grd, wp_lb, wp_ite, wp_b1, wp_b2, wp_b3, wp_b4, wp_b5, eq_grd, eq_lb, eq_b1, eq_b2, eq_b3, eq_b4, eq_b5, show ¬ (n ≤ k) by omega, bitN hF hk12, hbk]
          by_cases hs : SPr M E L (wd p) p n k = true
          · rw [if_neg (by rw [hs]; decide)]
            by_cases hm : c = v
            · rw [if_pos hm]
              exact Or.inr ⟨trivial, k, by omega, hs, rfl, by rw [← hm]; exact hc⟩
            · rw [if_neg hm]
              refine hk2 _ (by omega) ?_
              rw [SLk_s, if_pos hs, List.length_append, List.length_singleton, ← Nat.add_assoc]
              refine ⟨by rw [hc, iN_add], ?_⟩
              intro i hi
              by_cases hie : i = (FLS M E L wd n p).length + (SLk M E L (wd p) p n k).length
              · rw [hie, ← hc]; exact fun h => hm h.symm
              · exact hno i (by omega)
          · have hs' : SPr M E L (wd p) p n k = false := by cases h : SPr M E L (wd p) p n k; rfl; exact absurd h hs
            rw [if_pos hs']
            refine hk2 _ (by omega) ?_
            rw [SLk_s, if_neg hs, List.append_nil]
            exact ⟨hc, hno⟩
      refine wp_mono inner ?_
      rintro ⟨q1, q2, q3⟩ (⟨h1, h2, h3⟩ | ⟨h1, k, h2, h3, h4, h5⟩)
      · simp only at h1 h2 h3 ⊢
        rw [if_pos h1]
        refine hk q2 hp' ?_
        rw [FLS_s, List.length_append, List.length_map]; exact ⟨h2, h3⟩
      · simp only at h1 h4 ⊢
        rw [if_neg (by rw [h1]; decide)]
        exact Or.inr ⟨trivial, p, k, hp', h2, h3, rfl, h4, h5⟩
  refine wp_mono key ?_
  rintro ⟨q1, q2, q3, q4⟩ (⟨h1, h2⟩ | ⟨h1, p, k, hp, hk, hs, h3, h4, h5⟩)
  · simp only at h1 ⊢
    rw [if_pos h1]
    exact Or.inl ⟨h2, rfl⟩
  · simp only at h1 h3 h4 ⊢
    rw [if_neg (by rw [h1]; decide), h3, h4]
    obtain ⟨a1, a2⟩ := FLS_at (M := M) (E := E) (L := L) (wd := wd) (n := n) (m := eL E) hp hk hs
    refine Or.inr ⟨_, a1, h5, ?_⟩
    rw [a2]
    simp only [iN_lit, iN_mul, iN_add]
