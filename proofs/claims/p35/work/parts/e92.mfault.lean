/-! The reference finds the faults. -/
theorem rbN_out {rel : Nat → Nat} {n : Nat} (hn : n ≤ 3) (h : ∀ k, n ≤ k → rel k = 0) : rbN rel n = rbN rel 3 := by
  have : ∀ d, rbN rel (n + d) = rbN rel n := by
    intro d
    induction d with
    | zero => rfl
    | succ d ih => rw [← Nat.add_assoc, rbN, ih, if_pos (h (n + d) (by omega)), Nat.add_zero]
  rw [← this (3 - n)]; congr 1; omega
theorem rbN_bit (rel : Nat → Nat) {e : Nat} (he : e < 3) : (rbN rel 3).testBit e = decide (rel e ≠ 0) := by
  have e3 : rbN rel 3 = (if rel 0 = 0 then 0 else 1) + (if rel 1 = 0 then 0 else 2) + (if rel 2 = 0 then 0 else 4) := by
    simp only [rbN, Nat.zero_add, Nat.pow_zero, Nat.pow_one, show 2 ^ 2 = 4 from rfl]
  rw [e3]
  by_cases h0 : rel 0 = 0 <;> by_cases h1 : rel 1 = 0 <;> by_cases h2 : rel 2 = 0 <;> simp only [h0, h1, h2, if_true, if_false] <;>
    (match e, he with
      | 0, _ => simp [h0]; try decide
      | 1, _ => simp [h1]; try decide
      | 2, _ => simp [h2]; try decide)
def MF (M G y : Ob) (fs : List Fa) : Prop := y 43 0 = iN fs.length ∧ ∀ i, i < fs.length → ∃ d, d < 40000 ∧ y 44 i = iN d ∧ MC M G (fs.getD i (dum, 0)).1 d ∧ WT G (fs.getD i (dum, 0)).1 ∧ (fs.getD i (dum, 0)).2 < 3 ∧ tR G (fs.getD i (dum, 0)).1 (fs.getD i (dum, 0)).2 ≠ 0 ∧ y 45 i = iN (fs.getD i (dum, 0)).2
theorem MF_cg {M G y y' : Ob} {fs : List Fa} (h : ∀ k, 43 ≤ k → k ≤ 45 → y' k = y k) (hm : MF M G y fs) : MF M G y' fs := by
  unfold MF
  rw [h 43 (by decide) (by decide), h 44 (by decide) (by decide), h 45 (by decide) (by decide)]
  exact hm
theorem MF_add {M G y : Ob} {fs : List Fa} (h : MF M G y fs) {t : Tr} {d e : Nat} (hd : d < 40000) (hm : MC M G t d) (hw : WT G t) (he : e < 3) (hz : tR G t e ≠ 0) :
    MF M G (upo (upo (upo y 44 fs.length (iN d)) 45 fs.length (iN e)) 43 0 (iN (fs.length + 1))) (fs ++ [(t, e)]) := by
  refine ⟨?_, ?_⟩
  · rw [upo_ap, if_pos ⟨rfl, rfl⟩, List.length_append, List.length_singleton]
  · intro i hi
    rw [List.length_append, List.length_singleton] at hi
    have e44 : upo (upo (upo y 44 fs.length (iN d)) 45 fs.length (iN e)) 43 0 (iN (fs.length + 1)) 44 i = if i = fs.length then iN d else y 44 i := by
      rw [upo_ne (by decide), upo_ne (by decide), upo_ap]; simp only [true_and]
    have e45 : upo (upo (upo y 44 fs.length (iN d)) 45 fs.length (iN e)) 43 0 (iN (fs.length + 1)) 45 i = if i = fs.length then iN e else y 45 i := by
      rw [upo_ne (by decide), upo_ap, upo_ne (by decide)]; simp only [true_and]
    rw [e44, e45]
    by_cases hi2 : i = fs.length
    · subst hi2
      rw [if_pos rfl, if_pos rfl, getD_last]
      exact ⟨d, hd, rfl, hm, hw, he, hz, rfl⟩
    · rw [if_neg hi2, if_neg hi2, getD_init (by omega)]
      exact h.2 i (by omega)
theorem X11_ffe {M G y0 : Ob} {fs : List Fa} {t : Tr} {d : Nat} (hG : WGr G) (hd : d < 40000) (hm : MC M G t d) (hw : WT G t) (hl : fs.length + 3 ≤ 400) (hF : MF M G y0 fs) {r : Nat} (hr : r = rbN (tR G t) 3) (v2 v4 : Int32) :
    wp (f_X11_findFaults_L87 200 y0 v2 (iN d) v4 (iN r) (iN 0)) (fun q => (∀ k, (k < 43 ∨ 45 < k) → q.2 k = y0 k) ∧ MF M G q.2 (fs ++ fls G t)) := by
  have hr8 : r < 8 := by rw [hr]; exact rbN_lt 3
  refine lp_up (F := fun f (y : Ob) e => f_X11_findFaults_L87 f y v2 (iN d) v4 (iN r) e) (V := fun e y => (∀ k, (k < 43 ∨ 45 < k) → y k = y0 k) ∧ MF M G y (fs ++ (rls (tR G t) e).map (fun e => (t, e)))) (hi := 3) ?_ 200 0 y0 (by omega) (by omega) ⟨fun _ _ => rfl, by rw [rls, List.map_nil, List.append_nil]; exact hF⟩
  rintro f y e he ⟨hf, hv⟩ hk
  have hlen : (fs ++ (rls (tR G t) e).map (fun e => (t, e))).length = fs.length + (rls (tR G t) e).length := by rw [List.length_append, List.length_map]
  have hle := rls_len (tR G t) e
  by_cases h3 : e = 3
  · subst h3
    simp (disch := omega) only [f_X11_findFaults_L87, ↓nM_lit, iN_lit, iN_add, iN_mul, iN_lt, iN_le, iN_eq, iN_c, gd_iN, iN_nM, nM_iN, iN_ltM, nM_lt, nM_le, iN_leM, iN_0M, nM_p1, iN_0s1, decide_true, decide_eq_true_eq, Nat.not_lt_zero, if_true, if_false, wp_some, wp_grd, wp_lb, wp_ite, wp_b1, wp_b2, wp_b3, wp_b4, wp_b5, Nat.le_refl]
    exact ⟨hf, hv⟩
  · have hb := rbN_bit (tR G t) (show e < 3 by omega)
    rw [← hr] at hb
    simp (disch := omega) only [f_X11_findFaults_L87, ↓nM_lit, iN_lit, iN_add, iN_mul, iN_lt, iN_le, iN_eq, iN_c, gd_iN, iN_nM, nM_iN, iN_ltM, nM_lt, nM_le, iN_leM, iN_0M, nM_p1, iN_0s1, decide_true, decide_eq_true_eq, Nat.not_lt_zero, if_true, if_false, wp_some, wp_grd, wp_lb, wp_ite, wp_b1, wp_b2, wp_b3, wp_b4, wp_b5, show ¬ (3 ≤ e) by omega, bit_1 (show r < 16 by omega) (show e < 4 by omega), hb, decide_eq_true_eq]
    by_cases hz : tR G t e = 0
    · rw [if_neg (fun h => h hz)]
      refine hk y (by omega) ⟨hf, ?_⟩
      rw [rls, if_pos hz, List.append_nil]; exact hv
    · rw [if_pos hz]
      have e43 := hv.1
      rw [hlen] at e43
      have q43 : ∀ (k : Nat) (z : Ob) (v : Int32) (i : Nat), k ≠ 43 → upo z k i v 43 0 = z 43 0 := fun k z v i h => by rw [upo_ne (Ne.symm h)]
      simp (disch := omega) only [q43, e43, ↓nM_lit, iN_lit, iN_add, iN_mul, iN_lt, iN_le, iN_eq, iN_c, gd_iN, iN_nM, nM_iN, iN_ltM, nM_lt, nM_le, iN_leM, iN_0M, nM_p1, iN_0s1, decide_true, decide_eq_true_eq, Nat.not_lt_zero, if_true, if_false, show fs.length + (rls (tR G t) e).length < 400 by omega, true_and]
      refine hk _ (by omega) ⟨?_, ?_⟩
      · intro k hk2
        rw [upo_ne (by omega), upo_ne (by omega), upo_ne (by omega)]; exact hf k hk2
      · have := MF_add hv hd hm hw (show e < 3 by omega) hz
        rw [hlen] at this
        rw [rls, if_neg hz, List.map_append, ← List.append_assoc]
        exact this
def fr6 (M y : Ob) : Prop := ∀ k, (k < 41 ∨ 46 < k) → y k = M k
theorem MC_cg {M M' G : Ob} {t : Tr} {d : Nat} (h : ∀ k, 32 ≤ k → k ≤ 38 → M' k = M k) (hm : MC M G t d) : MC M' G t d := MC_mono (n := d + 1) (fun i _ k h1 h2 => by rw [h k h1 h2]) t d (Nat.lt_succ_self d) hm
theorem X11_ff_t {M G : Ob} (hG : WGr G) (hM : ∀ k, 21 ≤ k → k ≤ 30 → M k = G k) (t : Tr) : WT G t → ∀ (d n o : Nat) (y : Ob) (fs : List Fa) (Q : Int32 × Ob → Prop), d < 40000 → MC M G t d → o + tW t ≤ 6 → fs.length + 3 * (pre t).length ≤ 400 → fr6 M y → MF M G y fs → y 46 o = iN d →
    (∀ y', fr6 M y' → MF M G y' (fs ++ FL G (pre t)) → (∀ j, j < o → y' 46 j = y 46 j) → wp (f_X11_findFaults_L29 n y' (iN o)) Q) → wp (f_X11_findFaults_L29 (n + (pre t).length) y (iN (o + 1))) Q := by
  have h16 := ng_le hG
  induction t with
  | leaf a =>
    intro hw d n o y fs Q hd hm ho hl hf hF h46 hk
    have hp := tW_pos _ hw
    have e0 : FL G (pre (.leaf a)) = [] := by rw [pre_leaf hw, FL_one]; rfl
    rw [e0, List.append_nil] at hk
    rw [pre_leaf hw]
    have e35 : y 35 d = nM := by rw [hf 35 (by omega)]; exact hm.2.2.2.1
    simp (disch := omega) only [List.length_singleton, f_X11_findFaults_L29, ↓nM_lit, iN_lit, iN_add, iN_mul, iN_lt, iN_le, iN_eq, iN_c, gd_iN, iN_nM, nM_iN, iN_ltM, nM_lt, nM_le, iN_leM, iN_0M, nM_p1, iN_0s1, decide_true, decide_eq_true_eq, Nat.not_lt_zero, if_true, if_false, wp_some, wp_grd, wp_lb, wp_ite, wp_b1, wp_b2, wp_b3, wp_b4, wp_b5, eq_grd, eq_lb, eq_b1, eq_b2, eq_b3, eq_b4, eq_b5, show ¬ (o + 1 ≤ 0) by omega, iN_pM, Nat.add_sub_cancel, show o < 64 by omega, h46, hd, e35, true_and]
    exact hk y hf hF (fun _ _ => rfl)
  | branch g l r ihl ihr =>
    intro hw d n o y fs Q hd hm ho hl hf hF h46 hk
    obtain ⟨w1, w2, w3, w4, w5, w6⟩ := id hw
    have hp := tW_pos _ hw
    have hpl := tW_pos _ w2
    obtain ⟨il, ir, ⟨m1, m2, m3, m4, m5, m6, m7⟩, q1, q2, q3, q4⟩ := id hm
    have hMy : ∀ k, 21 ≤ k → k ≤ 30 → y k = G k := fun k h1 h2 => by rw [hf k (by omega)]; exact hM k h1 h2
    have hmono : ∀ {u i}, MC M G u i → MC y G u i := fun h => MC_cg (fun k h1 h2 => hf k (by omega)) h
    obtain ⟨-, -, -, n3, hn3, en3, -⟩ := hG.2 g w1
    have e26 : y 26 g = iN (nn (G 26 g)) := by rw [hMy 26 (by decide) (by decide), en3, nn, iN_c (by omega)]
    have e35 : y 35 d = iN g := by rw [hf 35 (by omega)]; exact m4
    have e36 : y 36 d = iN il := by rw [hf 36 (by omega)]; exact m5
    have e37 : y 37 d = ir := by rw [hf 37 (by omega)]; exact m6
    have hrr : G 24 g ≠ nM → ∃ r', r' < 40000 ∧ ir = iN r' ∧ y 33 r' = iN (dec (tF G r)) ∧ tF G r < 64 := by
      intro h
      obtain ⟨q, a1, a2, a3⟩ := q4 h
      exact ⟨q, by omega, a2, (MC_2 (hmono a3)).2.1, tF_lt hG r (w6 h).1⟩
    have hu := X11_use hMy hG w1 (Nat.le_refl _) (show il < 40000 by omega) (MC_2 (hmono q2)).2.1 (tF_lt hG l w2) hrr
    have hRz := (tR_B hG _ hw).2 g l r rfl
    have hrb : rbN (tR G (.branch g l r)) (nn (G 26 g)) = rbN (tR G (.branch g l r)) 3 := rbN_out (by rw [en3, nn, iN_c (by omega)]; exact hn3) hRz
    simp only [pre, List.length_cons, List.length_append] at hl ⊢
    rw [tW] at ho
    have efu : n + ((pre l).length + (pre r).length + 1) = (n + (pre r).length) + (pre l).length + 1 := by omega
    rw [efu]
    simp (disch := omega) only [f_X11_findFaults_L29, ↓nM_lit, iN_lit, iN_add, iN_mul, iN_lt, iN_le, iN_eq, iN_c, gd_iN, iN_nM, nM_iN, iN_ltM, nM_lt, nM_le, iN_leM, iN_0M, nM_p1, iN_0s1, decide_true, decide_eq_true_eq, Nat.not_lt_zero, if_true, if_false, wp_some, wp_grd, wp_lb, wp_ite, wp_b1, wp_b2, wp_b3, wp_b4, wp_b5, eq_grd, eq_lb, eq_b1, eq_b2, eq_b3, eq_b4, eq_b5, show ¬ (o + 1 ≤ 0) by omega, iN_pM, Nat.add_sub_cancel, show o < 64 by omega, h46, hd, e35, e36, e37, e26, show g < 16 by omega, true_and]
    refine wp_mono hu ?_
    rintro ⟨z1, z2⟩ ⟨b1, b2⟩
    simp only at b1 b2 ⊢
    have ez : z1 = iN (rbN (tR G (.branch g l r)) 3) := by
      rw [← hrb]
      cases hun : uni G g (tF G l) (tF G r) with
      | none => rw [hun] at w4; cases w4
      | some u =>
        have hun2 : uNn G g (nn (G 26 g)) (u0 (tF G l) (tF G r)) = some u := hun
        rw [hun2] at b2
        rw [b2.1, tR, hun]; rfl
    rw [ez]
    have hFz : MF M G z2 fs := MF_cg (fun k h1 h2 => b1 k (by omega) (by omega)) hF
    refine wp_mono (X11_ffe hG hd hm hw (by omega) hFz rfl (iN o) (iN g)) ?_
    rintro ⟨v1, v2⟩ ⟨c1, c2⟩
    simp only at c1 c2 ⊢
    have hfv : fr6 M v2 := fun k hk2 => by rw [c1 k (by omega), b1 k (by omega) (by omega)]; exact hf k hk2
    have e24 : v2 24 g = G 24 g := by rw [hfv 24 (by omega)]; exact hM 24 (by decide) (by decide) ▸ rfl
    have f36 : v2 36 d = iN il := by rw [hfv 36 (by omega)]; exact m5
    have f37 : v2 37 d = ir := by rw [hfv 37 (by omega)]; exact m6
    have h46v : ∀ j, v2 46 j = y 46 j := fun j => by rw [c1 46 (by omega), b1 46 (by decide) (by decide)]
    have hfl : (fls G (.branch g l r)).length ≤ 3 := by
      have := rls_len (tR G (.branch g l r)) 3
      have h2 : (fls G (.branch g l r)).length = (rls (tR G (.branch g l r)) 3).length := List.length_map _
      omega
    by_cases hun : G 24 g = nM
    · have er := w5 hun
      subst er
      rw [pre_dum] at hl ⊢
      simp only [List.length_nil, Nat.add_zero] at hl ⊢
      simp (disch := omega) only [e24, hun, ↓nM_lit, iN_lit, iN_add, iN_mul, iN_lt, iN_le, iN_eq, iN_c, gd_iN, iN_nM, nM_iN, iN_ltM, nM_lt, nM_le, iN_leM, iN_0M, nM_p1, iN_0s1, decide_true, decide_eq_true_eq, Nat.not_lt_zero, if_true, if_false, wp_some, wp_grd, wp_lb, wp_ite, wp_b1, wp_b2, wp_b3, wp_b4, wp_b5, eq_grd, eq_lb, eq_b1, eq_b2, eq_b3, eq_b4, eq_b5, hd, show o < 64 by omega, f36, true_and]
      refine ihl w2 il n o _ (fs ++ fls G (.branch g l dum)) Q (by omega) q2 (by omega) ?_ (fun k hk2 => by rw [upo_ne (by omega)]; exact hfv k hk2) (MF_cg (fun k h1 h2 => upo_ne (by omega)) c2) (by rw [upo_ap, if_pos ⟨rfl, rfl⟩]) ?_
      · rw [List.length_append]; omega
      · intro y' hy1 hy2 hj
        refine hk y' hy1 ?_ ?_
        · have e1 : FL G (pre (.branch g l dum)) = fls G (.branch g l dum) ++ FL G (pre l) := by
            rw [pre, pre_dum, List.append_nil]; rfl
          rw [e1, ← List.append_assoc]; exact hy2
        · intro j hjo
          rw [hj j hjo, upo_ap, if_neg (by omega), h46v]
    · obtain ⟨v1', v2', v3'⟩ := w6 hun
      have hpr := tW_pos _ v1'
      obtain ⟨q, a1, a2, a3⟩ := q4 hun
      rw [a2] at f37
      have f36' : upo v2 46 o (iN q) 36 d = iN il := by rw [upo_ne (by decide)]; exact f36
      simp (disch := omega) only [e24, hun, if_false, ↓nM_lit, iN_lit, iN_add, iN_mul, iN_lt, iN_le, iN_eq, iN_c, gd_iN, iN_nM, nM_iN, iN_ltM, nM_lt, nM_le, iN_leM, iN_0M, nM_p1, iN_0s1, decide_true, decide_eq_true_eq, Nat.not_lt_zero, if_true, if_false, wp_some, wp_grd, wp_lb, wp_ite, wp_b1, wp_b2, wp_b3, wp_b4, wp_b5, eq_grd, eq_lb, eq_b1, eq_b2, eq_b3, eq_b4, eq_b5, hd, show o < 64 by omega, show o + 1 < 64 by omega, f37, f36', true_and]
      refine ihl w2 il (n + (pre r).length) (o + 1) _ (fs ++ fls G (.branch g l r)) Q (by omega) q2 (by omega) ?_ (fun k hk2 => by rw [upo_ne (by omega), upo_ne (by omega)]; exact hfv k hk2) (MF_cg (fun k h1 h2 => by rw [upo_ne (by omega), upo_ne (by omega)]) c2) (by rw [upo_ap, if_pos ⟨rfl, rfl⟩]) ?_
      · rw [List.length_append]; omega
      · intro y' hy1 hy2 hj
        have hlp : (FL G (pre l)).length ≤ 3 * (pre l).length := FL_len G _
        refine ihr v1' q n o y' _ Q (by omega) a3 (by omega) ?_ hy1 hy2 ?_ ?_
        · rw [List.length_append, List.length_append]; omega
        · rw [hj o (by omega), upo_ap, if_neg (by omega), upo_ap, if_pos ⟨rfl, rfl⟩]
        · intro y2 hz1 hz2 hj2
          refine hk y2 hz1 ?_ ?_
          · have e1 : FL G (pre (.branch g l r)) = fls G (.branch g l r) ++ (FL G (pre l) ++ FL G (pre r)) := by
              rw [pre, ← FL_app]; rfl
            rw [e1, ← List.append_assoc, ← List.append_assoc]; exact hz2
          · intro j hjo
            rw [hj2 j hjo, hj j (by omega), upo_ap, if_neg (by omega), upo_ap, if_neg (by omega), h46v]
theorem X11_faults {M G : Ob} {ch : Ch} {n0 n s : Nat} (hG : WGr G) (hM : ∀ k, 21 ≤ k → k ≤ 30 → M k = G k) (hx : MCh M G ch n0) (hn0 : n0 ≤ 40000) (hW : WCh G ch) (hs : s < 4) (h9 : M 9 s = iN n) (hn : n ≤ 6) :
    wp (f_X11_findFaults M (iN s)) (fun z => fr6 M z ∧ MF M G z (FL G (wL G ch n))) := by
  have hx1 : MCh (upo M 43 0 (iN 0)) G ch n0 := MCh_cg (fun k h1 h2 => upo_ne (by omega)) hx
  obtain ⟨h1, -⟩ := X11_whole (M := upo M 43 0 (iN 0)) hx1 hn0 hW hs (by rw [upo_ne (by decide)]; exact h9) hn
  have hlen := wL_len hG hW n
  rw [f_X11_findFaults]
  simp only [wp_some, wp_grd, wp_lb, wp_ite, wp_b1, wp_b2, wp_b3, wp_b4, wp_b5]
  rw [show (0 : Int32) = iN 0 from rfl, h1]
  have hf0 : fr6 M (upo M 43 0 (iN 0)) := fun k hk => upo_ne (by omega)
  have hF0 : MF M G (upo M 43 0 (iN 0)) [] := ⟨by rw [upo_ap, if_pos ⟨rfl, rfl⟩]; rfl, fun i hi => absurd hi (Nat.not_lt_zero i)⟩
  unfold wL at hlen ⊢
  cases hw : wI G ch n with
  | none =>
    simp (disch := omega) only [oM, ↓nM_lit, iN_lit, iN_add, iN_mul, iN_lt, iN_le, iN_eq, iN_c, gd_iN, iN_nM, nM_iN, iN_ltM, nM_lt, nM_le, iN_leM, iN_0M, nM_p1, iN_0s1, decide_true, decide_eq_true_eq, Nat.not_lt_zero, if_true, if_false, f_X11_findFaults_J29, wp_some, wp_grd, wp_lb, wp_ite, wp_b1, wp_b2, wp_b3, wp_b4, wp_b5]
    rw [show (200 : Nat) = 199 + 1 from rfl, f_X11_findFaults_L29]
    simp (disch := omega) only [↓nM_lit, iN_lit, iN_add, iN_mul, iN_lt, iN_le, iN_eq, iN_c, gd_iN, iN_nM, nM_iN, iN_ltM, nM_lt, nM_le, iN_leM, iN_0M, nM_p1, iN_0s1, decide_true, decide_eq_true_eq, Nat.not_lt_zero, if_true, if_false, wp_some, wp_grd, wp_lb, wp_ite, wp_b1, wp_b2, wp_b3, wp_b4, wp_b5, Nat.le_refl]
    exact ⟨hf0, hF0⟩
  | some i =>
    rw [hw] at hlen
    simp only at hlen
    obtain ⟨a, b, -⟩ := wI_lt hw
    obtain ⟨t1, t2, t3⟩ := wT_W hW hw
    obtain ⟨d, hd, ed, hmd⟩ := (hx1.2 (n - 1) (by omega)).2 i b
    have hmd' : MC M G (wT ch n i) d := MC_cg (fun k h1 h2 => (upo_ne (by omega)).symm) hmd
    have := X11_ff_t hG hM (wT ch n i) t1 d (200 - (pre (wT ch n i)).length) 0 (upo (upo M 43 0 (iN 0)) 46 0 (iN d)) [] (fun r => fr6 M r.2 ∧ MF M G r.2 (FL G (pre (wT ch n i)))) (by omega) hmd' (by omega) (by simp only [List.length_nil]; omega) (fun k hk => by rw [upo_ne (by omega)]; exact hf0 k hk) (MF_cg (fun k h1 h2 => upo_ne (by omega)) hF0) (by rw [upo_ap, if_pos ⟨rfl, rfl⟩]) (by
      intro y' hy1 hy2 _
      obtain ⟨m, hm⟩ : ∃ m, 200 - (pre (wT ch n i)).length = m + 1 := ⟨199 - (pre (wT ch n i)).length, by omega⟩
      rw [hm]
      simp (disch := omega) only [f_X11_findFaults_L29, ↓nM_lit, iN_lit, iN_add, iN_mul, iN_lt, iN_le, iN_eq, iN_c, gd_iN, iN_nM, nM_iN, iN_ltM, nM_lt, nM_le, iN_leM, iN_0M, nM_p1, iN_0s1, decide_true, decide_eq_true_eq, Nat.not_lt_zero, if_true, if_false, wp_some, wp_grd, wp_lb, wp_ite, wp_b1, wp_b2, wp_b3, wp_b4, wp_b5, Nat.le_refl]
      exact ⟨hy1, hy2⟩)
    rw [show 200 - (pre (wT ch n i)).length + (pre (wT ch n i)).length = 200 by omega] at this
    have ed2 : oM (upo M 43 0 (iN 0)) (n - 1) (some i) = iN d := ed
    simp (disch := omega) only [ed2, ↓nM_lit, iN_lit, iN_add, iN_mul, iN_lt, iN_le, iN_eq, iN_c, gd_iN, iN_nM, nM_iN, iN_ltM, nM_lt, nM_le, iN_leM, iN_0M, nM_p1, iN_0s1, decide_true, decide_eq_true_eq, Nat.not_lt_zero, if_true, if_false, f_X11_findFaults_J29, wp_some, wp_grd, wp_lb, wp_ite, wp_b1, wp_b2, wp_b3, wp_b4, wp_b5]
    exact this
