/-! The law's faults. -/
theorem dv7 {a b c d : Nat} (h : 10000 * b + 1000 * c + d < 10000000) : (10000000 * a + 10000 * b + 1000 * c + d) / 10000000 = a := by omega
theorem LT_use {g q nr : Rw} {y : Cy} {G : Ob} (hX : LG g q nr G) (hG : WGr G) {rl : Nat} {l r : Tr} {d : Nat} (hw : WT G (.branch rl l r)) (h6 : tW (.branch rl l r) ≤ 6) (hd : d < 64) (hT : LT y G (.branch rl l r) d) :
    ∃ il ir D, ya y d = iN (10000 * ir + 100 * (il + 1) + rl + 1) ∧ il < d ∧ LT y G l il ∧ (G 24 rl = nM → ir = 0) ∧ (G 24 rl ≠ nM → ∃ k, k < d ∧ ir = k + 1 ∧ LT y G r k) ∧ f_L_use g q nr (ye y) (yj y) (iN rl) (iN il) (iN ir - iN 1) = some (iN D) ∧ D < 2147483648 ∧ D / 10000000 = rbN (tR G (.branch rl l r)) 3 ∧ ir < 65 := by
  obtain ⟨il, ir, -, -, t3, t4, t5, t6, t7⟩ := hT
  obtain ⟨w1, w2, w3, w4, w5, w6⟩ := id hw
  obtain ⟨l1, l2⟩ := LT_2 t5
  obtain ⟨lc, hlc, elc⟩ := tC_le hG l w2
  have nlc : nn (tC G l) = lc := by rw [elc, nn, iN_c (by omega)]
  obtain ⟨kl, bkl, ekl⟩ := tK_w hG l w2
  have fl := tF_lt hG l w2
  obtain ⟨⟨pc, hpc, epc⟩, -⟩ := hG.2 rl w1
  have npc : nn (G 22 rl) = pc := by rw [epc, nn, iN_c (by omega)]
  rw [tW] at h6
  have pl := tW_pos l w2
  obtain ⟨kr, bkr, ekr, hR⟩ : ∃ kr, kr ≤ 1000 ∧ tK G r = iN kr ∧ ((iN ir - iN 1 = nM ∧ tF G r = 0 ∧ kr = 0) ∨ ∃ r' rc, r' < 64 ∧ rc ≤ 9 ∧ iN ir - iN 1 = iN r' ∧ ye y r' = iN (1000 * rc + dec (tF G r)) ∧ yj y r' = iN kr) := by
    by_cases hun : G 24 rl = nM
    · have er := w5 hun
      subst er
      exact ⟨0, by omega, rfl, Or.inl ⟨by rw [t6 hun]; exact iN_0s1, rfl, rfl⟩⟩
    · obtain ⟨k, k1, k2, k3⟩ := t7 hun
      obtain ⟨wr, -⟩ := w6 hun
      obtain ⟨kr, bkr, ekr⟩ := tK_w hG r wr
      obtain ⟨rc, hrc, erc⟩ := tC_le hG r wr
      have nrc : nn (tC G r) = rc := by rw [erc, nn, iN_c (by omega)]
      obtain ⟨r1, r2⟩ := LT_2 k3
      rw [nrc] at r1
      exact ⟨kr, by omega, ekr, Or.inr ⟨k, rc, by omega, hrc, by rw [k2, iN_sub (by omega), Nat.add_sub_cancel], r1, by rw [r2, ekr]⟩⟩
  rw [nlc] at l1
  rw [ekl] at l2
  have huse := L_use hX hG w1 (show il < 64 by omega) hlc l1 l2 (by omega) bkr hR
  cases hun : uni G rl (tF G l) (tF G r) with
  | none => rw [hun] at w4; cases w4
  | some u =>
    rw [hun] at huse
    simp only at huse
    have hB := uni_UB hG w1 hun
    obtain ⟨-, -, -, n3, hn3, en3, -⟩ := hG.2 rl w1
    have hn : nn (G 26 rl) ≤ 3 := by rw [en3, nn, iN_c (by omega)]; exact hn3
    obtain ⟨-, -, -, c, hc, ec⟩ := id hB
    have nuc : nn u.2.1 = c := by rw [ec, nn, iN_c (by omega)]
    obtain ⟨kt, bkt, ekt⟩ := tK_w hG _ hw
    rw [tW] at bkt
    have ksum : kl + kr + c = kt := by
      have : tK G (.branch rl l r) = iN (kl + kr + c) := by
        rw [tK, hun, ekl, ekr]
        show iN kl + iN kr + u.2.1 = _
        rw [ec, iN_add, iN_add]
      rw [this, iN_eq (by omega) (by omega)] at ekt
      exact ekt
    have hd2 := dec_le (pf u)
    have hrb := rbN_lt (rel := u.2.2) 3
    have hmd : mdN G rl (kl + kr) u = 10000000 * rbN u.2.2 3 + 10000 * kt + 1000 * pc + dec (pf u) := by rw [mdN, nuc, npc, ksum]
    have eR : tR G (.branch rl l r) = u.2.2 := by rw [tR, hun]; rfl
    have hir : ir < 65 := by
      by_cases h24 : G 24 rl = nM
      · rw [t6 h24]; omega
      · obtain ⟨k, k1, k2, -⟩ := t7 h24
        omega
    refine ⟨il, ir, mdN G rl (kl + kr) u, t3, t4, t5, t6, t7, huse, by rw [hmd]; omega, ?_, hir⟩
    rw [eR, hmd]; exact dv7 (by clear huse; omega)
/-- the law's code of a fault; its row of them, of at most 64 -/
def fcd : Fa → Nat
  | (.branch g _ _, e) => 10 * g + e
  | (.leaf _, e) => e
def mn (fs : List Fa) : Nat := if fs.length < 64 then fs.length else 64
def ZF (z : Rw) (fs : List Fa) : Prop := ∀ i, i < fs.length → i < 64 → z i = iN (fcd (fs.getD i (dum, 0)))
theorem getD_app_l {α : Type} {a b : List α} {i : Nat} {d : α} (h : i < a.length) : (a ++ b).getD i d = a.getD i d := by
  rw [List.getD_eq_getElem?_getD, List.getD_eq_getElem?_getD, List.getElem?_append_left h]
theorem L_ffe {g q nr e j a nw : Rw} {N : Nat} {fs : List Fa} {z0 : Rw} {rl : Nat} {l r : Tr} {rel : Nat → Nat} (hrl : rl < 100) (hz : ZF z0 fs) (hl : fs.length < 1000) {R : Nat} (hR : R = rbN rel 3) (v9 v13 v14 : Int32) :
    wp (f_L_faults_L109 400 g q nr e j a z0 nw N v9 (iN (mn fs)) (iN rl) v13 v14 (iN R) (iN 0)) (fun t => t.1 = iN (mn (fs ++ (rls rel 3).map (fun e => ((.branch rl l r : Tr), e)))) ∧ ZF t.2.2 (fs ++ (rls rel 3).map (fun e => ((.branch rl l r : Tr), e)))) := by
  have hr8 : R < 8 := by rw [hR]; exact rbN_lt 3
  refine lp_up (F := fun f (Z : Int32 × Rw) i => f_L_faults_L109 f g q nr e j a Z.2 nw N v9 Z.1 (iN rl) v13 v14 (iN R) i) (V := fun i Z => Z.1 = iN (mn (fs ++ (rls rel i).map (fun e => ((.branch rl l r : Tr), e)))) ∧ ZF Z.2 (fs ++ (rls rel i).map (fun e => ((.branch rl l r : Tr), e)))) (hi := 3) ?_ 400 0 (iN (mn fs), z0) (by omega) (by omega) (by rw [rls, List.map_nil, List.append_nil]; exact ⟨rfl, hz⟩)
  rintro f ⟨c, z⟩ i hi ⟨hc, hV⟩ hk
  simp only at hc hV
  have hlen : (fs ++ (rls rel i).map (fun e => ((.branch rl l r : Tr), e))).length = fs.length + (rls rel i).length := by rw [List.length_append, List.length_map]
  have hle := rls_len rel i
  by_cases h3 : i = 3
  · subst h3
    simp (disch := omega) only [f_L_faults_L109, ↓nM_lit, iN_lit, iN_add, iN_mul, iN_lt, iN_le, iN_eq, iN_c, gd_iN, iN_nM, nM_iN, iN_ltM, nM_lt, nM_le, iN_leM, iN_0M, nM_p1, iN_0s1, decide_true, decide_eq_true_eq, Nat.not_lt_zero, if_true, if_false, wp_some, wp_grd, wp_lb, wp_ite, wp_b1, wp_b2, wp_b3, wp_b4, wp_b5, ↓reduceIte, wp_b6, wp_b7, wp_b8, wp_b9, Nat.le_refl]
    exact ⟨hc, hV⟩
  · have hb := rbN_bit rel (show i < 3 by omega)
    rw [← hR] at hb
    have hb1 : ((iN R >>> (iN i &&& iN 31)) &&& iN 1 = iN 1) ↔ rel i ≠ 0 := by rw [bit_1 (by omega) (by omega), hb, decide_eq_true_eq]
    by_cases hz0 : rel i = 0
    · simp (disch := omega) only [f_L_faults_L109, ↓nM_lit, iN_lit, iN_add, iN_mul, iN_lt, iN_le, iN_eq, iN_c, gd_iN, iN_nM, nM_iN, iN_ltM, nM_lt, nM_le, iN_leM, iN_0M, nM_p1, iN_0s1, decide_true, decide_eq_true_eq, Nat.not_lt_zero, if_true, if_false, wp_some, wp_grd, wp_lb, wp_ite, wp_b1, wp_b2, wp_b3, wp_b4, wp_b5, ↓reduceIte, wp_b6, wp_b7, wp_b8, wp_b9, show ¬ (3 ≤ i) by omega, hb1, hz0, ne_eq, not_true]
      refine hk (c, z) (by omega) ?_
      rw [rls, if_pos hz0, List.append_nil]
      exact ⟨hc, hV⟩
    · have hnew : fs ++ (rls rel (i + 1)).map (fun e => ((.branch rl l r : Tr), e)) = (fs ++ (rls rel i).map (fun e => ((.branch rl l r : Tr), e))) ++ [((.branch rl l r : Tr), i)] := by
        rw [rls, if_neg hz0, List.map_append, ← List.append_assoc]; rfl
      have hlen2 : (fs ++ (rls rel (i + 1)).map (fun e => ((.branch rl l r : Tr), e))).length = fs.length + (rls rel i).length + 1 := by rw [hnew, List.length_append, hlen]; rfl
      have last : (fs ++ (rls rel (i + 1)).map (fun e => ((.branch rl l r : Tr), e))).getD (fs.length + (rls rel i).length) (dum, 0) = ((.branch rl l r : Tr), i) := by
        rw [hnew, ← hlen]
        exact getD_mid _ [] _ _
      by_cases h64 : fs.length + (rls rel i).length < 64
      · have em : mn (fs ++ (rls rel i).map (fun e => ((.branch rl l r : Tr), e))) = fs.length + (rls rel i).length := by rw [mn, hlen, if_pos h64]
        rw [em] at hc
        subst hc
        simp (disch := omega) only [f_L_faults_L109, ↓nM_lit, iN_lit, iN_add, iN_mul, iN_lt, iN_le, iN_eq, iN_c, gd_iN, iN_nM, nM_iN, iN_ltM, nM_lt, nM_le, iN_leM, iN_0M, nM_p1, iN_0s1, decide_true, decide_eq_true_eq, Nat.not_lt_zero, if_true, if_false, wp_some, wp_grd, wp_lb, wp_ite, wp_b1, wp_b2, wp_b3, wp_b4, wp_b5, ↓reduceIte, wp_b6, wp_b7, wp_b8, wp_b9, show ¬ (3 ≤ i) by omega, hb1, hz0, ne_eq, not_false_eq_true, show ¬ (64 ≤ fs.length + (rls rel i).length) by omega, h64, true_and]
        refine hk (iN (fs.length + (rls rel i).length + 1), upd z (fs.length + (rls rel i).length) (iN (10 * rl + i))) (by omega) ⟨?_, ?_⟩
        · show iN _ = _
          rw [mn, hlen2]
          by_cases h65 : fs.length + (rls rel i).length + 1 < 64
          · rw [if_pos h65]
          · rw [if_neg h65, show fs.length + (rls rel i).length + 1 = 64 by omega]
        · intro k hk1 hk2
          show upd z (fs.length + (rls rel i).length) (iN (10 * rl + i)) k = _
          rw [hlen2] at hk1
          by_cases hkk : k = fs.length + (rls rel i).length
          · subst hkk
            rw [upd_eq, last]; rfl
          · rw [upd_ne hkk, hV k (by rw [hlen]; omega) hk2, hnew]
            exact congrArg (fun t => iN (fcd t)) (getD_app_l (by rw [hlen]; omega)).symm
      · have em : mn (fs ++ (rls rel i).map (fun e => ((.branch rl l r : Tr), e))) = 64 := by rw [mn, hlen, if_neg h64]
        rw [em] at hc
        subst hc
        simp (disch := omega) only [f_L_faults_L109, ↓nM_lit, iN_lit, iN_add, iN_mul, iN_lt, iN_le, iN_eq, iN_c, gd_iN, iN_nM, nM_iN, iN_ltM, nM_lt, nM_le, iN_leM, iN_0M, nM_p1, iN_0s1, decide_true, decide_eq_true_eq, Nat.not_lt_zero, if_true, if_false, wp_some, wp_grd, wp_lb, wp_ite, wp_b1, wp_b2, wp_b3, wp_b4, wp_b5, ↓reduceIte, wp_b6, wp_b7, wp_b8, wp_b9, show ¬ (3 ≤ i) by omega, hb1, hz0, ne_eq, not_false_eq_true, Nat.le_refl]
        refine hk (iN 64, z) (by omega) ⟨?_, ?_⟩
        · show iN 64 = _
          rw [mn, hlen2, if_neg (by omega)]
        · intro k hk1 hk2
          show z k = _
          rw [hV k (by rw [hlen]; omega) hk2, hnew]
          exact congrArg (fun t => iN (fcd t)) (getD_app_l (by rw [hlen]; omega)).symm
theorem L_ff_t {g q nr : Rw} {y : Cy} {G : Ob} (hX : LG g q nr G) (hG : WGr G) (t : Tr) : WT G t → ∀ (d n o N : Nat) (z nw : Rw) (fs : List Fa) (Q : Int32 × Int32 × Rw × Rw × Nat → Prop), d < 64 → LT y G t d → o + tW t ≤ 6 → fs.length + 3 * (pre t).length ≤ 500 → N + (pre t).length ≤ 500 → ZF z fs → nw o = iN d →
    (∀ z' nw' N', N' ≤ N + (pre t).length → ZF z' (fs ++ FL G (pre t)) → (∀ j, j < o → nw' j = nw j) → wp (f_L_faults_L26 n g q nr (ye y) (yj y) (ya y) z' nw' N' (iN o) (iN (mn (fs ++ FL G (pre t))))) Q) → wp (f_L_faults_L26 (n + (pre t).length) g q nr (ye y) (yj y) (ya y) z nw N (iN (o + 1)) (iN (mn fs))) Q := by
  have h5 := hX.1
  induction t with
  | leaf x =>
    intro hw d n o N z nw fs Q hd hm ho hl hN hF h46 hk
    have hp := tW_pos _ hw
    have e0 : FL G (pre (.leaf x)) = [] := by rw [pre_leaf hw, FL_one]; rfl
    rw [e0, List.append_nil] at hk
    rw [pre_leaf hw] at hN hk ⊢
    obtain ⟨-, -, ea⟩ := hm
    simp (disch := omega) only [List.length_singleton, f_L_faults_L26, ↓nM_lit, iN_lit, iN_add, iN_mul, iN_lt, iN_le, iN_eq, iN_c, gd_iN, iN_nM, nM_iN, iN_ltM, nM_lt, nM_le, iN_leM, iN_0M, nM_p1, iN_0s1, decide_true, decide_eq_true_eq, Nat.not_lt_zero, if_true, if_false, wp_some, wp_grd, wp_lb, wp_ite, wp_b1, wp_b2, wp_b3, wp_b4, wp_b5, ↓reduceIte, wp_b6, wp_b7, wp_b8, wp_b9, show ¬ (o + 1 ≤ 0) by omega, iN_pM, Nat.add_sub_cancel, show o < 16 by omega, h46, hd, ea, iN_div, iN_sub, show (0 : Nat) - 0 / 100 * 100 = 0 from rfl, show (nM < iN 0) ↔ True by exact ⟨fun _ => trivial, fun _ => by decide⟩, true_and]
    exact hk z nw N (by omega) hF (fun _ _ => rfl)
  | branch rl l r ihl ihr =>
    intro hw d n o N z nw fs Q hd hm ho hl hN hF h46 hk
    obtain ⟨w1, w2, w3, w4, w5, w6⟩ := id hw
    have hp := tW_pos _ hw
    have hpl := tW_pos _ w2
    obtain ⟨il, ir, D, ea, hil, hTl, hu0, hb0, huse, hD, hDr, hir⟩ := LT_use hX hG hw (by omega) hd hm
    have hfl : (fls G (.branch rl l r)).length ≤ 3 := by
      have := rls_len (tR G (.branch rl l r)) 3
      have h2 : (fls G (.branch rl l r)).length = (rls (tR G (.branch rl l r)) 3).length := List.length_map _
      omega
    simp only [pre, List.length_cons, List.length_append] at hl hN hk ⊢
    rw [tW] at ho
    have efu : n + ((pre l).length + (pre r).length + 1) = (n + (pre r).length) + (pre l).length + 1 := by omega
    rw [efu]
    have a1 : (10000 * ir + 100 * (il + 1) + rl + 1) - (10000 * ir + 100 * (il + 1) + rl + 1) / 100 * 100 - 1 = rl := by omega
    have a2 : (10000 * ir + 100 * (il + 1) + rl + 1) / 100 - (10000 * ir + 100 * (il + 1) + rl + 1) / 100 / 100 * 100 - 1 = il := by omega
    have a3 : (10000 * ir + 100 * (il + 1) + rl + 1) / 10000 = ir := by omega
    have hN5 : decide (N + 1 ≤ 500) = true := decide_eq_true (by omega)
    simp (disch := omega) only [f_L_faults_L26, ↓nM_lit, iN_lit, iN_add, iN_mul, iN_lt, iN_le, iN_eq, iN_c, gd_iN, iN_nM, nM_iN, iN_ltM, nM_lt, nM_le, iN_leM, iN_0M, nM_p1, iN_0s1, decide_true, decide_eq_true_eq, Nat.not_lt_zero, if_true, if_false, wp_some, wp_grd, wp_lb, wp_ite, wp_b1, wp_b2, wp_b3, wp_b4, wp_b5, ↓reduceIte, wp_b6, wp_b7, wp_b8, wp_b9, show ¬ (o + 1 ≤ 0) by omega, iN_pM, Nat.add_sub_cancel, show o < 16 by omega, h46, hd, ea, iN_div, iN_sub, a1, a2, a3, huse, eq_grd, eq_lb, eq_b1, eq_b2, eq_b3, eq_b4, eq_b5, eq_b6, eq_b7, eq_b8, eq_b9, hN5, hDr, true_and]
    refine wp_mono (L_ffe (rel := tR G (.branch rl l r)) (l := l) (r := r) (N := N + 1) (nw := nw) (g := g) (q := q) (nr := nr) (e := ye y) (j := yj y) (a := ya y) (by omega) hF (by omega) rfl (iN o) (iN il) (iN ir - iN 1)) ?_
    rintro ⟨v1, v2, v3⟩ ⟨c1, c2⟩
    simp only at c1 c2 ⊢
    rw [c1]
    by_cases hun : G 24 rl = nM
    · have er := w5 hun
      subst er
      have ei := hu0 hun
      subst ei
      rw [pre_dum] at hl hN hk ⊢
      simp only [List.length_nil, Nat.add_zero] at hl hN hk ⊢
      have e1 : FL G (.branch rl l dum :: (pre l ++ [])) = fls G (.branch rl l dum) ++ FL G (pre l) := by
        rw [List.append_nil]; rfl
      simp (disch := omega) only [↓nM_lit, iN_lit, iN_add, iN_mul, iN_lt, iN_le, iN_eq, iN_c, gd_iN, iN_nM, nM_iN, iN_ltM, nM_lt, nM_le, iN_leM, iN_0M, nM_p1, iN_0s1, decide_true, decide_eq_true_eq, Nat.not_lt_zero, if_true, if_false, wp_some, wp_grd, wp_lb, wp_ite, wp_b1, wp_b2, wp_b3, wp_b4, wp_b5, ↓reduceIte, wp_b6, wp_b7, wp_b8, wp_b9, show (nM < iN 0) ↔ True by exact ⟨fun _ => trivial, fun _ => by decide⟩, show o < 16 by omega, true_and]
      refine ihl w2 il n o (N + 1) _ _ (fs ++ fls G (.branch rl l dum)) Q (by omega) hTl (by omega) ?_ (by omega) c2 (upd_eq _ _ _) ?_
      · rw [List.length_append]; omega
      · intro z' nw' N' hN' hz' hj
        rw [e1, ← List.append_assoc] at hk
        refine hk z' nw' N' (by omega) hz' ?_
        intro j hjo
        rw [hj j hjo, upd_ne (by omega)]
    · obtain ⟨v1', v2', v3'⟩ := w6 hun
      have hpr := tW_pos _ v1'
      obtain ⟨k, k1, k2, k3⟩ := hb0 hun
      have e1 : FL G (.branch rl l r :: (pre l ++ pre r)) = fls G (.branch rl l r) ++ (FL G (pre l) ++ FL G (pre r)) := by
        rw [← FL_app]; rfl
      rw [k2]
      simp (disch := omega) only [iN_sub, Nat.add_sub_cancel, ↓nM_lit, iN_lit, iN_add, iN_mul, iN_lt, iN_le, iN_eq, iN_c, gd_iN, iN_nM, nM_iN, iN_ltM, nM_lt, nM_le, iN_leM, iN_0M, nM_p1, iN_0s1, decide_true, decide_eq_true_eq, Nat.not_lt_zero, if_true, if_false, wp_some, wp_grd, wp_lb, wp_ite, wp_b1, wp_b2, wp_b3, wp_b4, wp_b5, ↓reduceIte, wp_b6, wp_b7, wp_b8, wp_b9, show o < 16 by omega, show o + 1 < 16 by omega, true_and]
      refine ihl w2 il (n + (pre r).length) (o + 1) (N + 1) _ _ (fs ++ fls G (.branch rl l r)) Q (by omega) hTl (by omega) ?_ (by omega) c2 (upd_eq _ _ _) ?_
      · rw [List.length_append]; omega
      · intro z' nw' N' hN' hz' hj
        have hlp : (FL G (pre l)).length ≤ 3 * (pre l).length := FL_len G _
        refine ihr v1' k n o N' z' nw' _ Q (by omega) k3 (by omega) ?_ (by omega) hz' ?_ ?_
        · rw [List.length_append, List.length_append]; omega
        · rw [hj o (by omega), upd_ne (by omega), upd_eq]
        · intro z2 nw2 N2 hN2 hz2 hj2
          rw [e1, ← List.append_assoc, ← List.append_assoc] at hk
          refine hk z2 nw2 N2 (by omega) hz2 ?_
          intro j hjo
          rw [hj2 j hjo, hj j (by omega), upd_ne (by omega), upd_ne (by omega)]
theorem L_faults {g q nr z : Rw} {y : Cy} {G : Ob} {ch : Ch} {n0 n : Nat} (hX : LG g q nr G) (hG : WGr G) (hW : WCh G ch) (hn0 : n0 ≤ 64) {v : Int32} (hv : (wI G ch n = none ∧ v = nM) ∨ ∃ i d, wI G ch n = some i ∧ v = iN d ∧ d < n0 ∧ LT y G (wT ch n i) d) (hn : n ≤ 3) :
    wp (f_L_faults g q nr (ye y) (yj y) (ya y) z v) (fun t => t.1 = iN (mn (FL G (wL G ch n))) ∧ ZF t.2 (FL G (wL G ch n))) := by
  have z0 : ZF z [] := fun i hi => absurd hi (Nat.not_lt_zero i)
  rcases hv with ⟨h, rfl⟩ | ⟨i, d, h, rfl, hd, hT⟩
  · have e : wL G ch n = [] := by rw [wL, h]
    rw [e]
    simp (disch := omega) only [f_L_faults, f_L_faults_J26, f_L_faults_L26, ↓nM_lit, iN_lit, iN_add, iN_mul, iN_lt, iN_le, iN_eq, iN_c, gd_iN, iN_nM, nM_iN, iN_ltM, nM_lt, nM_le, iN_leM, iN_0M, nM_p1, iN_0s1, decide_true, decide_eq_true_eq, Nat.not_lt_zero, if_true, if_false, wp_some, wp_grd, wp_lb, wp_ite, wp_b1, wp_b2, wp_b3, wp_b4, wp_b5, ↓reduceIte, wp_b6, wp_b7, wp_b8, wp_b9, show (nM < iN 0) ↔ True by exact ⟨fun _ => trivial, fun _ => by decide⟩, Nat.le_refl]
    exact ⟨by omega, rfl, z0⟩
  · obtain ⟨w1, w2, w3⟩ := wT_W hW h
    have e : wL G ch n = pre (wT ch n i) := by rw [wL, h]
    rw [e]
    have hl := (pre_len hG _ w1).2
    obtain ⟨cc, hcc, ecc⟩ := tC_le hG _ w1
    have ncc : nn (tC G (wT ch n i)) = cc := by rw [ecc, nn, iN_c (by omega)]
    have key := L_ff_t (y := y) hX hG (wT ch n i) w1 d (400 - (pre (wT ch n i)).length) 0 1 z (upd (fun _ => 0) 0 (iN d)) [] (fun t => t.2.1 = iN (mn (FL G (pre (wT ch n i)))) ∧ ZF t.2.2.1 (FL G (pre (wT ch n i))) ∧ t.2.2.2.2 ≤ 500) (by omega) hT (by omega) (by rw [List.length_nil]; omega) (by omega) z0 (upd_eq _ _ _) (by
      intro z' nw' N' hN' hz' _
      obtain ⟨k, hk⟩ : ∃ k, 400 - (pre (wT ch n i)).length = k + 1 := ⟨399 - (pre (wT ch n i)).length, by omega⟩
      rw [hk]
      simp (disch := omega) only [f_L_faults_L26, ↓nM_lit, iN_lit, iN_add, iN_mul, iN_lt, iN_le, iN_eq, iN_c, gd_iN, iN_nM, nM_iN, iN_ltM, nM_lt, nM_le, iN_leM, iN_0M, nM_p1, iN_0s1, decide_true, decide_eq_true_eq, Nat.not_lt_zero, if_true, if_false, wp_some, wp_grd, wp_lb, wp_ite, wp_b1, wp_b2, wp_b3, wp_b4, wp_b5, ↓reduceIte, wp_b6, wp_b7, wp_b8, wp_b9, Nat.le_refl]
      exact ⟨rfl, hz', by omega⟩)
    rw [show 400 - (pre (wT ch n i)).length + (pre (wT ch n i)).length = 400 by omega] at key
    obtain ⟨t, et, k1, k2, k3⟩ := key
    have et' : f_L_faults_L26 400 g q nr (ye y) (yj y) (ya y) z (upd (fun _ => 0) 0 (iN d)) 1 (iN 1) (iN 0) = some t := et
    simp (disch := omega) only [f_L_faults, f_L_faults_J26, ↓nM_lit, iN_lit, iN_add, iN_mul, iN_lt, iN_le, iN_eq, iN_c, gd_iN, iN_nM, nM_iN, iN_ltM, nM_lt, nM_le, iN_leM, iN_0M, nM_p1, iN_0s1, decide_true, decide_eq_true_eq, Nat.not_lt_zero, if_true, if_false, wp_some, wp_grd, wp_lb, wp_ite, wp_b1, wp_b2, wp_b3, wp_b4, wp_b5, ↓reduceIte, wp_b6, wp_b7, wp_b8, wp_b9, show ¬ (d < 0) by omega]
    exact ⟨t, et', k3, k1, k2⟩
