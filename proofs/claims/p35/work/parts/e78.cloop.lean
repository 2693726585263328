theorem tryE_ne {G : Ob} {ch : Ch} {s g : Nat} {l r : Tr} {s' : Nat} (h : s' ≠ s) : tryE G ch s g l r s' = ch s' := by
  unfold tryE
  split
  · exact addE_ne h
  · rfl
theorem usR_ne {G : Ob} {s g : Nat} {l : Tr} {s' : Nat} (h : s' ≠ s) (rs : List Tr) : ∀ ch : Ch, usR G s g l rs ch s' = ch s' := by
  unfold usR
  induction rs with
  | nil => intro ch; rfl
  | cons r rs ih =>
    intro ch
    rw [List.foldl_cons, ih]
    split
    · exact tryE_ne h
    · rfl
theorem uls_ne {G : Ob} {s g : Nat} {rs : List Tr} {s' : Nat} (h : s' ≠ s) (ls : List Tr) : ∀ ch : Ch, uls G s g rs ls ch s' = ch s' := by
  unfold uls
  induction ls with
  | nil => intro ch; rfl
  | cons l ls ih =>
    intro ch
    rw [List.foldl_cons, ih]
    split
    · exact usR_ne h rs ch
    · rfl
theorem drop_getD {l : List Tr} {i : Nat} (h : i < l.length) : l.drop i = l.getD i dum :: l.drop (i + 1) := by
  rw [List.drop_eq_getElem_cons h, List.getD_eq_getElem?_getD, List.getElem?_eq_getElem h, Option.getD_some]
/-- the edges of the right span -/
theorem X4_rights {x2 G : Ob} {n0 : Int32} {ch : Ch} {b m a : Nat} {y2 y0 : Ob} (hG : WGr G) (hx : QX2 x2 G) (hS : SX x2 n0 G ch b m 0 y2 y0) {g : Nat} (hg : g < nn (G 21 0)) (hun : G 24 g ≠ nM) {l : Tr} {i : Nat} (ha : 1 ≤ a) (ham : a < m) (hi : i < (ch (6 * b + a - 1)).length) (el : (ch (6 * b + a - 1)).getD i dum = l) (cl : tC G l = G 23 g) (v4 v6 v8 : Int32) :
    wp (f_X4_use_L63 200 y2 y0 (iN g) (iN (6 * b + m - 1)) v4 (iN (6 * (b + a) + (m - a) - 1)) v6 (iN (ch (6 * (b + a) + (m - a) - 1)).length) v8 (iN (8 * (6 * b + a - 1) + i)) (iN 0)) (fun q => SX x2 n0 G (usR G (6 * b + m - 1) g l (ch (6 * (b + a) + (m - a) - 1)) ch) b m 0 q.2.1 q.2.2) := by
  obtain ⟨-, -, sI, -⟩ := id hS
  obtain ⟨i1, i2, i3, i4, i5, i6⟩ := sI
  have h8 := i5 (6 * (b + a) + (m - a) - 1)
  have hla := i5 (6 * b + a - 1)
  have hmem : l ∈ ch (6 * b + a - 1) := by rw [← el]; exact getD_mem hi
  obtain ⟨wl, sl, bl⟩ := i3 _ l hmem
  have pl := tW_pos _ wl
  have spl := sp_mod pl bl
  rw [sp] at sl
  rw [sl] at spl
  have spa := sp_mod ha (show b + a ≤ 6 by omega)
  refine lp_up (F := fun n (y : Ob × Ob) j => f_X4_use_L63 n y.1 y.2 (iN g) (iN (6 * b + m - 1)) v4 (iN (6 * (b + a) + (m - a) - 1)) v6 (iN (ch (6 * (b + a) + (m - a) - 1)).length) v8 (iN (8 * (6 * b + a - 1) + i)) j) (V := fun j y => ∃ ch', SX x2 n0 G ch' b m 0 y.1 y.2 ∧ (∀ s, s ≠ 6 * b + m - 1 → ch' s = ch s) ∧ usR G (6 * b + m - 1) g l ((ch (6 * (b + a) + (m - a) - 1)).drop j) ch' = usR G (6 * b + m - 1) g l (ch (6 * (b + a) + (m - a) - 1)) ch) (hi := (ch (6 * (b + a) + (m - a) - 1)).length) ?_ 200 0 (y2, y0) (by omega) (by omega) ⟨ch, hS, fun _ _ => rfl, rfl⟩
  rintro n ⟨z2, z0⟩ j hj ⟨ch', hS', hne, hfo⟩ hk
  simp only at hS' hk ⊢
  by_cases he : j = (ch (6 * (b + a) + (m - a) - 1)).length
  · rw [he, List.drop_length] at hfo
    rw [he]
    simp (disch := omega) only [f_X4_use_L63, ↓nM_lit, iN_lit, iN_add, iN_mul, iN_lt, iN_le, iN_eq, iN_c, gd_iN, iN_nM, nM_iN, iN_ltM, nM_lt, nM_le, iN_leM, iN_0M, nM_p1, iN_0s1, decide_true, decide_eq_true_eq, Nat.not_lt_zero, if_true, if_false, wp_some, wp_grd, wp_lb, wp_ite, wp_b1, wp_b2, wp_b3, wp_b4, wp_b5, Nat.le_refl]
    rw [← hfo]
    exact hS'
  · have hj' : j < (ch (6 * (b + a) + (m - a) - 1)).length := by omega
    have hne1 : ch' (6 * (b + a) + (m - a) - 1) = ch (6 * (b + a) + (m - a) - 1) := hne _ (by omega)
    have hne2 : ch' (6 * b + a - 1) = ch (6 * b + a - 1) := hne _ (by omega)
    obtain ⟨wr, sr, br⟩ := i3 _ _ (getD_mem hj')
    have pr := tW_pos _ wr
    have spr := sp_mod pr br
    rw [sp] at sr
    rw [sr] at spr
    have spc := sp_mod (show 1 ≤ m - a by omega) (show b + a + (m - a) ≤ 6 by omega)
    have hrl := (hS'.2.1 (6 * b + a - 1) (by omega)).2 i (by rw [hne2]; exact hi)
    rw [hne2, el] at hrl
    have hrr := (hS'.2.1 (6 * (b + a) + (m - a) - 1) (by omega)).2 j (by rw [hne1]; exact hj')
    rw [hne1] at hrr
    have hisR : isR G b m 0 ch' z0 g l ((ch (6 * (b + a) + (m - a) - 1)).getD j dum) (8 * (6 * b + a - 1) + i) (iN (8 * (6 * (b + a) + (m - a) - 1) + j)) :=
      Or.inr ⟨hun, ⟨_, by omega, rfl, hrr⟩, wr, by omega, by omega, by omega, rfl⟩
    rw [drop_getD hj', usR, List.foldl_cons, ← usR] at hfo
    simp (disch := omega) only [f_X4_use_L63, ↓nM_lit, iN_lit, iN_add, iN_mul, iN_lt, iN_le, iN_eq, iN_c, gd_iN, iN_nM, nM_iN, iN_ltM, nM_lt, nM_le, iN_leM, iN_0M, nM_p1, iN_0s1, decide_true, decide_eq_true_eq, Nat.not_lt_zero, if_true, if_false, wp_some, wp_grd, wp_lb, wp_ite, wp_b1, wp_b2, wp_b3, wp_b4, wp_b5, show ¬ ((ch (6 * (b + a) + (m - a) - 1)).length ≤ j) by omega, show (6 * (b + a) + (m - a) - 1) * 8 + j = 8 * (6 * (b + a) + (m - a) - 1) + j by omega]
    refine wp_mono (X4_try hG hx hS' hg (by omega) hrl wl cl hisR v4 (iN (6 * (b + a) + (m - a) - 1)) v6 (iN (ch (6 * (b + a) + (m - a) - 1)).length) v8 j) ?_
    rintro ⟨q1, q2, q3, q4⟩ ⟨e1, e2, e3⟩
    simp only at e1 e2 e3 ⊢
    simp only [e1, e2, if_true]
    refine hk (q3, q4) hj' ⟨_, e3, ?_, hfo⟩
    intro s hs
    split
    · rw [tryE_ne hs]; exact hne s hs
    · exact hne s hs
/-- the edges of the left span, for a rule with a right part -/
theorem X4_bin {x2 G : Ob} {n0 : Int32} {ch : Ch} {b m a : Nat} {y2 y0 : Ob} (hG : WGr G) (hx : QX2 x2 G) (hS : SX x2 n0 G ch b m 0 y2 y0) {g : Nat} (hg : g < nn (G 21 0)) (hun : G 24 g ≠ nM) (ha : 1 ≤ a) (ham : a < m) :
    wp (f_X4_use y2 y0 (iN g) (iN (6 * b + m - 1)) (iN (6 * b + a - 1)) (iN (6 * (b + a) + (m - a) - 1))) (fun q => SX x2 n0 G (uls G (6 * b + m - 1) g (ch (6 * (b + a) + (m - a) - 1)) (ch (6 * b + a - 1)) ch) b m 0 q.1 q.2) := by
  obtain ⟨-, sR, sI, -⟩ := id hS
  obtain ⟨i1, i2, i3, i4, i5, i6⟩ := sI
  have h8 := i5 (6 * (b + a) + (m - a) - 1)
  have hla := i5 (6 * b + a - 1)
  have e1 : f_X0_edgesOf y0 (iN (6 * b + a - 1)) = some (iN (ch (6 * b + a - 1)).length) := by
    simp (disch := omega) only [f_X0_edgesOf, ↓nM_lit, iN_lit, iN_add, iN_mul, iN_lt, iN_le, iN_eq, iN_c, gd_iN, iN_nM, nM_iN, iN_ltM, nM_lt, nM_le, iN_leM, iN_0M, nM_p1, iN_0s1, decide_true, decide_eq_true_eq, Nat.not_lt_zero, if_true, if_false, eq_grd, eq_lb, eq_b1, eq_b2, eq_b3, eq_b4, eq_b5, show ¬ (36 ≤ 6 * b + a - 1) by omega, show 6 * b + a - 1 < 36 by omega, (sR (6 * b + a - 1) (by omega)).1]
  have e2 : f_X0_edgesOf y0 (iN (6 * (b + a) + (m - a) - 1)) = some (iN (ch (6 * (b + a) + (m - a) - 1)).length) := by
    simp (disch := omega) only [f_X0_edgesOf, ↓nM_lit, iN_lit, iN_add, iN_mul, iN_lt, iN_le, iN_eq, iN_c, gd_iN, iN_nM, nM_iN, iN_ltM, nM_lt, nM_le, iN_leM, iN_0M, nM_p1, iN_0s1, decide_true, decide_eq_true_eq, Nat.not_lt_zero, if_true, if_false, eq_grd, eq_lb, eq_b1, eq_b2, eq_b3, eq_b4, eq_b5, show ¬ (36 ≤ 6 * (b + a) + (m - a) - 1) by omega, show 6 * (b + a) + (m - a) - 1 < 36 by omega, (sR (6 * (b + a) + (m - a) - 1) (by omega)).1]
  simp (disch := omega) only [f_X4_use, f_X4_use_J24, e1, e2, ↓nM_lit, iN_lit, iN_add, iN_mul, iN_lt, iN_le, iN_eq, iN_c, gd_iN, iN_nM, nM_iN, iN_ltM, nM_lt, nM_le, iN_leM, iN_0M, nM_p1, iN_0s1, decide_true, decide_eq_true_eq, Nat.not_lt_zero, if_true, if_false, wp_some, wp_grd, wp_lb, wp_ite, wp_b1, wp_b2, wp_b3, wp_b4, wp_b5, eq_grd, eq_lb, eq_b1, eq_b2, eq_b3, eq_b4, eq_b5]
  refine lp_up (F := fun n (y : Ob × Ob) j => f_X4_use_L29 n y.1 y.2 (iN g) (iN (6 * b + m - 1)) (iN (6 * b + a - 1)) (iN (6 * (b + a) + (m - a) - 1)) (iN (ch (6 * b + a - 1)).length) (iN (ch (6 * (b + a) + (m - a) - 1)).length) j) (V := fun j y => ∃ ch', SX x2 n0 G ch' b m 0 y.1 y.2 ∧ (∀ s, s ≠ 6 * b + m - 1 → ch' s = ch s) ∧ uls G (6 * b + m - 1) g (ch (6 * (b + a) + (m - a) - 1)) ((ch (6 * b + a - 1)).drop j) ch' = uls G (6 * b + m - 1) g (ch (6 * (b + a) + (m - a) - 1)) (ch (6 * b + a - 1)) ch) (hi := (ch (6 * b + a - 1)).length) ?_ 200 0 (y2, y0) (by omega) (by omega) ⟨ch, hS, fun _ _ => rfl, rfl⟩
  rintro n ⟨z2, z0⟩ j hj ⟨ch', hS', hne, hfo⟩ hk
  simp only at hS' hk ⊢
  by_cases he : j = (ch (6 * b + a - 1)).length
  · rw [he, List.drop_length] at hfo
    rw [he]
    simp (disch := omega) only [f_X4_use_L29, ↓nM_lit, iN_lit, iN_add, iN_mul, iN_lt, iN_le, iN_eq, iN_c, gd_iN, iN_nM, nM_iN, iN_ltM, nM_lt, nM_le, iN_leM, iN_0M, nM_p1, iN_0s1, decide_true, decide_eq_true_eq, Nat.not_lt_zero, if_true, if_false, wp_some, wp_grd, wp_lb, wp_ite, wp_b1, wp_b2, wp_b3, wp_b4, wp_b5, Nat.le_refl]
    rw [← hfo]
    exact hS'
  · have hj' : j < (ch (6 * b + a - 1)).length := by omega
    have hne1 : ch' (6 * (b + a) + (m - a) - 1) = ch (6 * (b + a) + (m - a) - 1) := hne _ (by omega)
    have hne2 : ch' (6 * b + a - 1) = ch (6 * b + a - 1) := hne _ (by omega)
    have hrl := (hS'.2.1 (6 * b + a - 1) (by omega)).2 j (by rw [hne2]; exact hj')
    rw [hne2] at hrl
    obtain ⟨c1, -, -⟩ := X0_get hrl (by omega)
    obtain ⟨-, c2, -, -⟩ := X2_get (RX2_cg hS'.1 hx) hG hg
    rw [drop_getD hj', uls, List.foldl_cons, ← uls] at hfo
    simp (disch := omega) only [f_X4_use_L29, ↓nM_lit, iN_lit, iN_add, iN_mul, iN_lt, iN_le, iN_eq, iN_c, gd_iN, iN_nM, nM_iN, iN_ltM, nM_lt, nM_le, iN_leM, iN_0M, nM_p1, iN_0s1, decide_true, decide_eq_true_eq, Nat.not_lt_zero, if_true, if_false, wp_some, wp_grd, wp_lb, wp_ite, wp_b1, wp_b2, wp_b3, wp_b4, wp_b5, eq_grd, eq_lb, eq_b1, eq_b2, eq_b3, eq_b4, eq_b5, show ¬ ((ch (6 * b + a - 1)).length ≤ j) by omega, show (6 * b + a - 1) * 8 + j = 8 * (6 * b + a - 1) + j by omega, c1, c2]
    by_cases hc : tC G ((ch (6 * b + a - 1)).getD j dum) = G 23 g
    · rw [if_pos hc] at hfo ⊢
      have hr := X4_rights (l := (ch (6 * b + a - 1)).getD j dum) hG hx hS' hg hun ha ham (i := j) (by rw [hne2]; exact hj') (by rw [hne2]) hc (iN (6 * b + a - 1)) (iN (ch (6 * b + a - 1)).length) (iN j)
      rw [hne1] at hr
      refine wp_mono hr ?_
      rintro ⟨q1, q2, q3⟩ hq
      refine hk (q2, q3) hj' ⟨_, hq, ?_, hfo⟩
      intro s hs
      rw [usR_ne hs]; exact hne s hs
    · rw [if_neg hc] at hfo ⊢
      exact hk (z2, z0) hj' ⟨ch', hS', hne, hfo⟩
