/-! The reference's loops over the edges of two spans. -/
theorem X11_rights {M0 G : Ob} {ch : Ch} {b m a n : Nat} {y0 : Ob} (hG : WGr G) (hM : ∀ k, 21 ≤ k → k ≤ 30 → M0 k = G k) (hS : SMx M0 G ch b m 0 n y0) (hn : n + 8 < 40000) {g : Nat} (hg : g < nn (G 21 0)) (hun : G 24 g ≠ nM) {l : Tr} {il : Nat} (ha : 1 ≤ a) (ham : a < m) (hl : l ∈ ch (6 * b + a - 1)) (hil : il < n) (hml : MC y0 G l il) (cl : tC G l = G 23 g) (v1 v2 v4 v5 v8 : Int32) :
    wp (f_X11_readLonger_L101 200 y0 v1 v2 (iN (6 * b + m - 1)) v4 v5 (iN (6 * (b + a) + (m - a) - 1)) (iN g) v8 (iN il) (iN 0)) (fun q => ∃ n', n ≤ n' ∧ n' ≤ n + 8 ∧ SMx M0 G (usR G (6 * b + m - 1) g l (ch (6 * (b + a) + (m - a) - 1)) ch) b m 0 n' q.2) := by
  obtain ⟨-, -, sI⟩ := id hS
  obtain ⟨i1, i2, i3, i4, i5, i6⟩ := sI
  have h16 := ng_le hG
  have h8 := i5 (6 * (b + a) + (m - a) - 1)
  obtain ⟨wl, sl, bl⟩ := i3 _ l hl
  have pl := tW_pos _ wl
  have spl := sp_mod pl bl
  rw [sp] at sl
  rw [sl] at spl
  have spa := sp_mod ha (show b + a ≤ 6 by omega)
  refine lp_up (F := fun f (y : Ob) j => f_X11_readLonger_L101 f y v1 v2 (iN (6 * b + m - 1)) v4 v5 (iN (6 * (b + a) + (m - a) - 1)) (iN g) v8 (iN il) j) (V := fun j y => ∃ ch' n', n ≤ n' ∧ n' ≤ n + j ∧ SMx M0 G ch' b m 0 n' y ∧ old n y0 y ∧ (∀ s, s ≠ 6 * b + m - 1 → ch' s = ch s) ∧ usR G (6 * b + m - 1) g l ((ch (6 * (b + a) + (m - a) - 1)).drop j) ch' = usR G (6 * b + m - 1) g l (ch (6 * (b + a) + (m - a) - 1)) ch) (hi := (ch (6 * (b + a) + (m - a) - 1)).length) ?_ 200 0 y0 (by omega) (by omega) ⟨ch, n, Nat.le_refl _, Nat.le_refl _, hS, old_r, fun _ _ => rfl, rfl⟩
  rintro f y j hj ⟨ch', n', hn1, hn2, hS', ho, hne, hfo⟩ hk
  have hne1 : ch' (6 * (b + a) + (m - a) - 1) = ch (6 * (b + a) + (m - a) - 1) := hne _ (by omega)
  have hrow := hS'.2.1.2 (6 * (b + a) + (m - a) - 1) (by omega)
  rw [hne1] at hrow
  have e23 : y 23 g = G 23 g := by rw [hS'.1 23 (by omega)]; exact hM 23 (by decide) (by decide) ▸ rfl
  have e24 : y 24 g = G 24 g := by rw [hS'.1 24 (by omega)]; exact hM 24 (by decide) (by decide) ▸ rfl
  by_cases he : j = (ch (6 * (b + a) + (m - a) - 1)).length
  · rw [he, List.drop_length] at hfo
    rw [he]
    simp (disch := omega) only [f_X11_readLonger_L101, ↓nM_lit, iN_lit, iN_add, iN_mul, iN_lt, iN_le, iN_eq, iN_c, gd_iN, iN_nM, nM_iN, iN_ltM, nM_lt, nM_le, iN_leM, iN_0M, nM_p1, iN_0s1, decide_true, decide_eq_true_eq, Nat.not_lt_zero, if_true, if_false, wp_some, wp_grd, wp_lb, wp_ite, wp_b1, wp_b2, wp_b3, wp_b4, wp_b5, show 6 * (b + a) + (m - a) - 1 < 36 by omega, hrow.1, Nat.le_refl, true_and]
    rw [← hfo]
    exact ⟨n', hn1, by omega, hS'⟩
  · have hj' : j < (ch (6 * (b + a) + (m - a) - 1)).length := by omega
    obtain ⟨wr, sr, br⟩ := i3 _ _ (getD_mem hj')
    have pr := tW_pos _ wr
    have spr := sp_mod pr br
    rw [sp] at sr
    rw [sr] at spr
    have spc := sp_mod (show 1 ≤ m - a by omega) (show b + a + (m - a) ≤ 6 by omega)
    obtain ⟨d, hd, ed, hmd⟩ := hrow.2 j hj'
    obtain ⟨d2, -, -⟩ := MC_2 hmd
    have hml' := old_M ho hil hml
    obtain ⟨l2, -, -⟩ := MC_2 hml'
    rw [drop_getD hj', usR, List.foldl_cons, ← usR] at hfo
    simp (disch := omega) only [f_X11_readLonger_L101, ↓nM_lit, iN_lit, iN_add, iN_mul, iN_lt, iN_le, iN_eq, iN_c, gd_iN, iN_nM, nM_iN, iN_ltM, nM_lt, nM_le, iN_leM, iN_0M, nM_p1, iN_0s1, decide_true, decide_eq_true_eq, Nat.not_lt_zero, if_true, if_false, wp_some, wp_grd, wp_lb, wp_ite, wp_b1, wp_b2, wp_b3, wp_b4, wp_b5, eq_grd, eq_lb, eq_b1, eq_b2, eq_b3, eq_b4, eq_b5, show 6 * (b + a) + (m - a) - 1 < 36 by omega, hrow.1, show ¬ ((ch (6 * (b + a) + (m - a) - 1)).length ≤ j) by omega, show il < 40000 by omega, show g < 16 by omega, l2, cl, e23, e24, show 8 * (6 * (b + a) + (m - a) - 1) + j < 288 by omega, ed, show d < 40000 by omega, d2, true_and]
    by_cases hc : tC G ((ch (6 * (b + a) + (m - a) - 1)).getD j dum) = G 24 g
    · rw [if_pos hc] at hfo ⊢
      have hisM : isM G b m 0 n' y g l ((ch (6 * (b + a) + (m - a) - 1)).getD j dum) (iN d) :=
        Or.inr ⟨hun, ⟨d, hd, rfl, hmd⟩, wr, hc, by omega, by omega, by omega, rfl⟩
      refine wp_mono (X11_try hG hM hS' (by omega) hg (show il < n' by omega) hml' wl cl hisM) ?_
      rintro z ⟨n2, h1, h2, h3, h4⟩
      refine hk z hj' ⟨_, n2, by omega, by omega, h3, old_t hn1 ho h4, ?_, hfo⟩
      intro s hs
      rw [tryE_ne hs]; exact hne s hs
    · rw [if_neg hc] at hfo ⊢
      exact hk y hj' ⟨ch', n', hn1, by omega, hS', ho, hne, hfo⟩
theorem X11_bin {M0 G : Ob} {ch : Ch} {b m a n : Nat} {y0 : Ob} (hG : WGr G) (hM : ∀ k, 21 ≤ k → k ≤ 30 → M0 k = G k) (hS : SMx M0 G ch b m 0 n y0) (hn : n + 64 < 40000) {g : Nat} (hg : g < nn (G 21 0)) (hun : G 24 g ≠ nM) (ha : 1 ≤ a) (ham : a < m) (v1 v2 v4 : Int32) :
    wp (f_X11_readLonger_L60 200 y0 v1 v2 (iN (6 * b + m - 1)) v4 (iN (6 * b + a - 1)) (iN (6 * (b + a) + (m - a) - 1)) (iN g) (iN 0)) (fun q => ∃ n', n ≤ n' ∧ n' ≤ n + 64 ∧ SMx M0 G (uls G (6 * b + m - 1) g (ch (6 * (b + a) + (m - a) - 1)) (ch (6 * b + a - 1)) ch) b m 0 n' q.2) := by
  obtain ⟨-, -, sI⟩ := id hS
  obtain ⟨i1, i2, i3, i4, i5, i6⟩ := sI
  have h16 := ng_le hG
  have h8 := i5 (6 * (b + a) + (m - a) - 1)
  have hla := i5 (6 * b + a - 1)
  refine lp_up (F := fun f (y : Ob) j => f_X11_readLonger_L60 f y v1 v2 (iN (6 * b + m - 1)) v4 (iN (6 * b + a - 1)) (iN (6 * (b + a) + (m - a) - 1)) (iN g) j) (V := fun j y => ∃ ch' n', n ≤ n' ∧ n' ≤ n + 8 * j ∧ SMx M0 G ch' b m 0 n' y ∧ (∀ s, s ≠ 6 * b + m - 1 → ch' s = ch s) ∧ uls G (6 * b + m - 1) g (ch (6 * (b + a) + (m - a) - 1)) ((ch (6 * b + a - 1)).drop j) ch' = uls G (6 * b + m - 1) g (ch (6 * (b + a) + (m - a) - 1)) (ch (6 * b + a - 1)) ch) (hi := (ch (6 * b + a - 1)).length) ?_ 200 0 y0 (by omega) (by omega) ⟨ch, n, Nat.le_refl _, Nat.le_refl _, hS, fun _ _ => rfl, rfl⟩
  rintro f y j hj ⟨ch', n', hn1, hn2, hS', hne, hfo⟩ hk
  have hne1 : ch' (6 * (b + a) + (m - a) - 1) = ch (6 * (b + a) + (m - a) - 1) := hne _ (by omega)
  have hne2 : ch' (6 * b + a - 1) = ch (6 * b + a - 1) := hne _ (by omega)
  have hrow := hS'.2.1.2 (6 * b + a - 1) (by omega)
  rw [hne2] at hrow
  have hrow1 := hS'.2.1.2 (6 * (b + a) + (m - a) - 1) (by omega)
  rw [hne1] at hrow1
  have e23 : y 23 g = G 23 g := by rw [hS'.1 23 (by omega)]; exact hM 23 (by decide) (by decide) ▸ rfl
  have e24 : y 24 g = G 24 g := by rw [hS'.1 24 (by omega)]; exact hM 24 (by decide) (by decide) ▸ rfl
  by_cases he : j = (ch (6 * b + a - 1)).length
  · rw [he, List.drop_length] at hfo
    rw [he]
    simp (disch := omega) only [f_X11_readLonger_L60, ↓nM_lit, iN_lit, iN_add, iN_mul, iN_lt, iN_le, iN_eq, iN_c, gd_iN, iN_nM, nM_iN, iN_ltM, nM_lt, nM_le, iN_leM, iN_0M, nM_p1, iN_0s1, decide_true, decide_eq_true_eq, Nat.not_lt_zero, if_true, if_false, wp_some, wp_grd, wp_lb, wp_ite, wp_b1, wp_b2, wp_b3, wp_b4, wp_b5, show 6 * b + a - 1 < 36 by omega, hrow.1, Nat.le_refl, true_and]
    rw [← hfo]
    exact ⟨n', hn1, by omega, hS'⟩
  · have hj' : j < (ch (6 * b + a - 1)).length := by omega
    obtain ⟨d, hd, ed, hmd⟩ := hrow.2 j hj'
    obtain ⟨d2, -, -⟩ := MC_2 hmd
    rw [drop_getD hj', uls, List.foldl_cons, ← uls] at hfo
    simp (disch := omega) only [f_X11_readLonger_L60, ↓nM_lit, iN_lit, iN_add, iN_mul, iN_lt, iN_le, iN_eq, iN_c, gd_iN, iN_nM, nM_iN, iN_ltM, nM_lt, nM_le, iN_leM, iN_0M, nM_p1, iN_0s1, decide_true, decide_eq_true_eq, Nat.not_lt_zero, if_true, if_false, wp_some, wp_grd, wp_lb, wp_ite, wp_b1, wp_b2, wp_b3, wp_b4, wp_b5, eq_grd, eq_lb, eq_b1, eq_b2, eq_b3, eq_b4, eq_b5, show 6 * b + a - 1 < 36 by omega, hrow.1, show ¬ ((ch (6 * b + a - 1)).length ≤ j) by omega, show g < 16 by omega, e24, hun, if_false, show 8 * (6 * b + a - 1) + j < 288 by omega, ed, true_and]
    by_cases hc : tC G ((ch (6 * b + a - 1)).getD j dum) = G 23 g
    · rw [if_pos hc] at hfo
      have hr := X11_rights (a := a) (l := (ch (6 * b + a - 1)).getD j dum) hG hM hS' (by omega) hg hun ha ham (by rw [hne2]; exact getD_mem hj') hd hmd hc v1 v2 v4 (iN (6 * b + a - 1)) (iN j)
      rw [hne1] at hr
      refine wp_mono hr ?_
      rintro ⟨q1, q2⟩ ⟨n2, h1, h2, h3⟩
      refine hk q2 hj' ⟨_, n2, by omega, by omega, h3, ?_, hfo⟩
      intro s hs
      rw [usR_ne hs]; exact hne s hs
    · rw [if_neg hc] at hfo
      have hstay : f_X11_readLonger_L101 200 y v1 v2 (iN (6 * b + m - 1)) v4 (iN (6 * b + a - 1)) (iN (6 * (b + a) + (m - a) - 1)) (iN g) (iN j) (iN d) (iN 0) = some (iN 0, y) := by
        rw [show (200 : Nat) = 199 + 1 from rfl, f_X11_readLonger_L101]
        by_cases h0 : (ch (6 * (b + a) + (m - a) - 1)).length = 0
        · simp (disch := omega) only [↓nM_lit, iN_lit, iN_add, iN_mul, iN_lt, iN_le, iN_eq, iN_c, gd_iN, iN_nM, nM_iN, iN_ltM, nM_lt, nM_le, iN_leM, iN_0M, nM_p1, iN_0s1, decide_true, decide_eq_true_eq, Nat.not_lt_zero, if_true, if_false, eq_grd, eq_lb, eq_b1, eq_b2, eq_b3, eq_b4, eq_b5, show 6 * (b + a) + (m - a) - 1 < 36 by omega, hrow1.1, h0, Nat.le_refl]
        · simp (disch := omega) only [↓nM_lit, iN_lit, iN_add, iN_mul, iN_lt, iN_le, iN_eq, iN_c, gd_iN, iN_nM, nM_iN, iN_ltM, nM_lt, nM_le, iN_leM, iN_0M, nM_p1, iN_0s1, decide_true, decide_eq_true_eq, Nat.not_lt_zero, if_true, if_false, eq_grd, eq_lb, eq_b1, eq_b2, eq_b3, eq_b4, eq_b5, show 6 * (b + a) + (m - a) - 1 < 36 by omega, hrow1.1, show ¬ ((ch (6 * (b + a) + (m - a) - 1)).length ≤ 0) by omega, show d < 40000 by omega, show g < 16 by omega, d2, e23, hc]
      rw [hstay]
      simp only [wp_some, wp_grd, wp_lb, wp_ite, wp_b1, wp_b2, wp_b3, wp_b4, wp_b5]
      exact hk y hj' ⟨ch', n', hn1, by omega, hS', hne, hfo⟩
theorem X11_mrules {M0 G : Ob} {ch : Ch} {b m a n : Nat} {y0 : Ob} (hG : WGr G) (hM : ∀ k, 21 ≤ k → k ≤ 30 → M0 k = G k) (hS : SMx M0 G ch b m 0 n y0) (hn : n + 1024 < 40000) (ha : 1 ≤ a) (ham : a < m) (v1 v2 v4 : Int32) :
    wp (f_X11_readLonger_L48 200 y0 v1 v2 (iN (6 * b + m - 1)) v4 (iN (6 * b + a - 1)) (iN (6 * (b + a) + (m - a) - 1)) (iN 0)) (fun q => ∃ n', n ≤ n' ∧ n' ≤ n + 1024 ∧ SMx M0 G (rlF G (6 * b + m - 1) (6 * b + a - 1) (6 * (b + a) + (m - a) - 1) (nn (G 21 0)) ch) b m 0 n' q.2) := by
  have h16 := ng_le hG
  have hbm := hS.2.2.2.1
  refine lp_up (F := fun f (y : Ob) j => f_X11_readLonger_L48 f y v1 v2 (iN (6 * b + m - 1)) v4 (iN (6 * b + a - 1)) (iN (6 * (b + a) + (m - a) - 1)) j) (V := fun g y => ∃ n', n ≤ n' ∧ n' ≤ n + 64 * g ∧ SMx M0 G (rlF G (6 * b + m - 1) (6 * b + a - 1) (6 * (b + a) + (m - a) - 1) g ch) b m 0 n' y) (hi := nn (G 21 0)) ?_ 200 0 y0 (by omega) (by omega) ⟨n, Nat.le_refl _, Nat.le_refl _, hS⟩
  rintro f y g hg ⟨n', hn1, hn2, hv⟩ hk
  have e0 : y 21 0 = iN (nn (G 21 0)) := by rw [hv.1 21 (by omega), hM 21 (by decide) (by decide)]; exact ng_e hG
  by_cases he : g = nn (G 21 0)
  · rw [he] at hv ⊢
    simp (disch := omega) only [f_X11_readLonger_L48, e0, ↓nM_lit, iN_lit, iN_add, iN_mul, iN_lt, iN_le, iN_eq, iN_c, gd_iN, iN_nM, nM_iN, iN_ltM, nM_lt, nM_le, iN_leM, iN_0M, nM_p1, iN_0s1, decide_true, decide_eq_true_eq, Nat.not_lt_zero, if_true, if_false, wp_some, wp_grd, wp_lb, wp_ite, wp_b1, wp_b2, wp_b3, wp_b4, wp_b5, Nat.le_refl]
    exact ⟨n', hn1, by omega, hv⟩
  · have hg' : g < nn (G 21 0) := by omega
    simp (disch := omega) only [f_X11_readLonger_L48, e0, ↓nM_lit, iN_lit, iN_add, iN_mul, iN_lt, iN_le, iN_eq, iN_c, gd_iN, iN_nM, nM_iN, iN_ltM, nM_lt, nM_le, iN_leM, iN_0M, nM_p1, iN_0s1, decide_true, decide_eq_true_eq, Nat.not_lt_zero, if_true, if_false, wp_some, wp_grd, wp_lb, wp_ite, wp_b1, wp_b2, wp_b3, wp_b4, wp_b5, show ¬ (nn (G 21 0) ≤ g) by omega]
    by_cases hun : G 24 g = nM
    · have e24 : y 24 g = nM := by rw [hv.1 24 (by omega), hM 24 (by decide) (by decide)]; exact hun
      have hrow := hv.2.1.2 (6 * b + a - 1) (by omega)
      have hstay : f_X11_readLonger_L60 200 y v1 v2 (iN (6 * b + m - 1)) v4 (iN (6 * b + a - 1)) (iN (6 * (b + a) + (m - a) - 1)) (iN g) (iN 0) = some (iN 0, y) := by
        have hl8 := hv.2.2.2.2.2.2.1 (6 * b + a - 1)
        rw [show (200 : Nat) = 199 + 1 from rfl, f_X11_readLonger_L60]
        by_cases h0 : (rlF G (6 * b + m - 1) (6 * b + a - 1) (6 * (b + a) + (m - a) - 1) g ch (6 * b + a - 1)).length = 0
        · simp (disch := omega) only [↓nM_lit, iN_lit, iN_add, iN_mul, iN_lt, iN_le, iN_eq, iN_c, gd_iN, iN_nM, nM_iN, iN_ltM, nM_lt, nM_le, iN_leM, iN_0M, nM_p1, iN_0s1, decide_true, decide_eq_true_eq, Nat.not_lt_zero, if_true, if_false, eq_grd, eq_lb, eq_b1, eq_b2, eq_b3, eq_b4, eq_b5, show 6 * b + a - 1 < 36 by omega, hrow.1, h0, Nat.le_refl]
        · simp (disch := omega) only [↓nM_lit, iN_lit, iN_add, iN_mul, iN_lt, iN_le, iN_eq, iN_c, gd_iN, iN_nM, nM_iN, iN_ltM, nM_lt, nM_le, iN_leM, iN_0M, nM_p1, iN_0s1, decide_true, decide_eq_true_eq, Nat.not_lt_zero, if_true, if_false, eq_grd, eq_lb, eq_b1, eq_b2, eq_b3, eq_b4, eq_b5, show 6 * b + a - 1 < 36 by omega, hrow.1, show ¬ ((rlF G (6 * b + m - 1) (6 * b + a - 1) (6 * (b + a) + (m - a) - 1) g ch (6 * b + a - 1)).length ≤ 0) by omega, show g < 16 by omega, e24]
      rw [hstay]
      simp only [wp_some, wp_grd, wp_lb, wp_ite, wp_b1, wp_b2, wp_b3, wp_b4, wp_b5]
      refine hk y hg' ⟨n', hn1, by omega, ?_⟩
      rw [rlF, if_pos hun]; exact hv
    · refine wp_mono (X11_bin hG hM hv (by omega) hg' hun ha ham v1 v2 v4) ?_
      rintro ⟨q1, q2⟩ ⟨n2, h1, h2, h3⟩
      refine hk q2 hg' ⟨n2, by omega, by omega, ?_⟩
      rw [rlF, if_neg hun]; exact h3
theorem X11_longer {M0 G : Ob} {ch : Ch} {b m n : Nat} {y0 : Ob} (hG : WGr G) (hM : ∀ k, 21 ≤ k → k ≤ 30 → M0 k = G k) (hS : SMx M0 G ch b m 0 n y0) (hn : n + 1024 * (m - 1) < 40000) :
    wp (f_X11_readLonger y0 (iN b) (iN m)) (fun z => ∃ n', n ≤ n' ∧ n' ≤ n + 1024 * (m - 1) ∧ SMx M0 G (cutF G b m (m - 1) ch) b m 0 n' z) := by
  have hbm := hS.2.2.2.1
  have hm1 := hS.2.2.1
  simp (disch := omega) only [f_X11_readLonger, ↓nM_lit, iN_lit, iN_add, iN_mul, iN_lt, iN_le, iN_eq, iN_c, gd_iN, iN_nM, nM_iN, iN_ltM, nM_lt, nM_le, iN_leM, iN_0M, nM_p1, iN_0s1, decide_true, decide_eq_true_eq, Nat.not_lt_zero, if_true, if_false, wp_some, wp_grd, wp_lb, wp_ite, wp_b1, wp_b2, wp_b3, wp_b4, wp_b5, iN_s1 (show 0 < 6 * b + m by omega)]
  refine lp_up (F := fun f (y : Ob) j => f_X11_readLonger_L12 f y (iN b) (iN m) (iN (6 * b + m - 1)) j) (V := fun a y => 1 ≤ a ∧ ∃ n', n ≤ n' ∧ n' ≤ n + 1024 * (a - 1) ∧ SMx M0 G (cutF G b m (a - 1) ch) b m 0 n' y) (hi := m) ?_ 200 1 y0 (by omega) (by omega) ⟨Nat.le_refl _, n, Nat.le_refl _, Nat.le_refl _, hS⟩
  rintro f y a ha ⟨ha1, n', hn1, hn2, hv⟩ hk
  by_cases he : a = m
  · subst he
    simp (disch := omega) only [f_X11_readLonger_L12, ↓nM_lit, iN_lit, iN_add, iN_mul, iN_lt, iN_le, iN_eq, iN_c, gd_iN, iN_nM, nM_iN, iN_ltM, nM_lt, nM_le, iN_leM, iN_0M, nM_p1, iN_0s1, decide_true, decide_eq_true_eq, Nat.not_lt_zero, if_true, if_false, wp_some, wp_grd, wp_lb, wp_ite, wp_b1, wp_b2, wp_b3, wp_b4, wp_b5, Nat.le_refl]
    exact ⟨n', hn1, hn2, hv⟩
  · simp (disch := omega) only [f_X11_readLonger_L12, ↓nM_lit, iN_lit, iN_add, iN_mul, iN_lt, iN_le, iN_eq, iN_c, gd_iN, iN_nM, nM_iN, iN_ltM, nM_lt, nM_le, iN_leM, iN_0M, nM_p1, iN_0s1, decide_true, decide_eq_true_eq, Nat.not_lt_zero, if_true, if_false, wp_some, wp_grd, wp_lb, wp_ite, wp_b1, wp_b2, wp_b3, wp_b4, wp_b5, show ¬ (m ≤ a) by omega, iN_s1 (show 0 < 6 * b + a by omega), iN_sub (show a ≤ 6 * (b + a) + m by omega), iN_s1 (show 0 < 6 * (b + a) + m - a by omega), show 6 * (b + a) + m - a - 1 = 6 * (b + a) + (m - a) - 1 by omega]
    refine wp_mono (X11_mrules hG hM hv (by omega) ha1 (by omega) (iN b) (iN m) (iN a)) ?_
    rintro ⟨q0, q1⟩ ⟨n2, h1, h2, h3⟩
    refine hk q1 (by omega) ⟨by omega, n2, by omega, by omega, ?_⟩
    obtain ⟨a', rfl⟩ : ∃ a', a = a' + 1 := ⟨a - 1, by omega⟩
    rw [show a' + 1 + 1 - 1 = a' + 1 by omega, cutF]
    exact h3
