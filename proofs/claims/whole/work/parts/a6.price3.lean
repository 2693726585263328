/-! Prices of mends, by the reference. -/
def ixo (s : Nat) (o : Mo) : Nat := match o with
  | none => 0
  | some a => 6 * s + a.1
def voM (M : Ob) (o : Mo) : Int32 := match o with
  | none => M 10 0
  | some a => iN a.2
theorem puM_upo (M : Ob) (s : Nat) (o : Mo) : upo M 10 (ixo s o) (voM M o) = puM M s o := by
  cases o with
  | none => exact upo_id M 10 0
  | some a => rfl
theorem ixo_lt {M : Ob} {s : Nat} {o : Mo} (hM : WM M) (hs : s < 4) (ho : okm M s o) : ixo s o < 24 := by
  cases o with
  | none => exact (by decide : 0 < 24)
  | some a =>
    have h6 := (WTxt_at hM.2.1 hs).1
    have := (ho a.1 a.2 rfl).1
    show 6 * s + a.1 < 24
    omega
theorem moI_d {M : Ob} {s : Nat} {o : Mo} (hM : WM M) (hs : s < 4) (ho : okm M s o) : (o = none ∧ moI o = -1) ∨ ∃ p w, o = some (p, w) ∧ p < evn M s ∧ w < 40 ∧ ¬ (moI o = -1) ∧ (moI o) / 100 = iN p ∧ (moI o) - (moI o) / 100 * 100 = iN w := by
  cases o with
  | none => exact Or.inl ⟨rfl, rfl⟩
  | some a =>
    obtain ⟨p, w⟩ := a
    obtain ⟨hp, hw⟩ := ho p w rfl
    have hn40 := WLex_nw hM.1
    have hw40 : w < 40 := by omega
    have hb := (WTxt_at hM.2.1 hs).1
    have e1 : iN (100 * p + w) / iN 100 = iN p := by rw [iN_div (by omega) (by decide)]; congr 1; omega
    have e2 : iN (100 * p + w) - iN p * iN 100 = iN w := by rw [iN_mul, iN_sub (by omega)]; congr 1; omega
    have hne : ¬ (iN (100 * p + w) = nM) := by rw [iN_nM (by omega)]; exact id
    exact Or.inr ⟨p, w, rfl, hp, hw40, hne, e1, by
      show iN (100 * p + w) - iN (100 * p + w) / iN 100 * iN 100 = iN w
      rw [e1, e2]⟩
def bkv (y M : Ob) (s : Nat) (o : Mo) : Int32 := match o with
  | none => y 10 0
  | some a => M 10 (6 * s + a.1)
theorem bk12 {M y : Ob} {i1 : Nat} {x1 : Int32} (h : y 10 = upo M 10 i1 x1 10) : upo y 10 i1 (M 10 i1) 10 = M 10 := by
  funext i
  rw [upo_ap]
  by_cases e1 : i = i1
  · rw [if_pos ⟨rfl, e1⟩, e1]
  · rw [if_neg (fun h => e1 h.2), h, upo_ap, if_neg (fun h => e1 h.2)]
theorem bk22 {M y : Ob} {i1 i2 : Nat} {x1 x2 : Int32} (h : y 10 = upo (upo M 10 i1 x1) 10 i2 x2 10) : upo (upo y 10 i2 (M 10 i2)) 10 i1 (M 10 i1) 10 = M 10 := by
  funext i
  rw [upo_ap]
  by_cases e1 : i = i1
  · rw [if_pos ⟨rfl, e1⟩, e1]
  · rw [if_neg (fun h => e1 h.2), upo_ap]
    by_cases e2 : i = i2
    · rw [if_pos ⟨rfl, e2⟩, e2]
    · rw [if_neg (fun h => e2 h.2), h, upo_ap, if_neg (fun h => e2 h.2), upo_ap, if_neg (fun h => e1 h.2)]
theorem back_10 {M y : Ob} {s : Nat} (o1 o2 : Mo) (h : y 10 = pu2 M s o1 o2 10) : upo (upo y 10 (ixo s o2) (bkv y M s o2)) 10 (ixo s o1) (bkv (upo y 10 (ixo s o2) (bkv y M s o2)) M s o1) 10 = M 10 := by
  cases o1 with
  | none =>
    cases o2 with
    | none =>
      show upo (upo y 10 0 (y 10 0)) 10 0 (upo y 10 0 (y 10 0) 10 0) 10 = M 10
      rw [upo_id, upo_id]; exact h
    | some a =>
      show upo (upo y 10 (6 * s + a.1) (M 10 (6 * s + a.1))) 10 0 (upo y 10 (6 * s + a.1) (M 10 (6 * s + a.1)) 10 0) 10 = M 10
      rw [upo_id]; exact bk12 h
  | some b =>
    cases o2 with
    | none =>
      show upo (upo y 10 0 (y 10 0)) 10 (6 * s + b.1) (M 10 (6 * s + b.1)) 10 = M 10
      rw [upo_id]; exact bk12 h
    | some a => exact bk22 h
theorem X11_cw1 {M : Ob} {s : Nat} {o1 o2 : Mo} (hM : WM M) (hs : s < 4) (h1 : okm M s o1) (h2 : okm M s o2) :
    f_X11_costWith M (iN s) (moI o1) (moI o2) = f_X11_costWith_J83 M (iN s) (moI o1) (moI o2) (iN (ixo s o1)) (iN (ixo s o2)) (M 10 (ixo s o1)) (M 10 (ixo s o2)) (iN (ixo s o1)) (voM M o1) := by
  have i1 := ixo_lt hM hs h1
  have i2 := ixo_lt hM hs h2
  have g1 : gd (iN (ixo s o1)) 24 = true := by rw [gd_iN (by omega)]; exact decide_eq_true i1
  have g2 : gd (iN (ixo s o2)) 24 = true := by rw [gd_iN (by omega)]; exact decide_eq_true i2
  have c1 : (iN (ixo s o1)).toNatClampNeg = ixo s o1 := iN_c (by omega)
  have c2 : (iN (ixo s o2)).toNatClampNeg = ixo s o2 := iN_c (by omega)
  have a1 : f_X11_costWith M (iN s) (moI o1) (moI o2) = f_X11_costWith_J18 M (iN s) (moI o1) (moI o2) (iN (ixo s o1)) := by
    rw [f_X11_costWith]
    rcases moI_d hM hs h1 with ⟨e, h⟩ | ⟨p, w, e, -, -, h, hd, -⟩
    · rw [if_pos h, e]; rfl
    · rw [if_neg h, hd, e, iN_lit, iN_mul, iN_add]; rfl
  have a2 : f_X11_costWith_J18 M (iN s) (moI o1) (moI o2) (iN (ixo s o1)) = f_X11_costWith_J38 M (iN s) (moI o1) (moI o2) (iN (ixo s o1)) (iN (ixo s o2)) := by
    rw [f_X11_costWith_J18]
    rcases moI_d hM hs h2 with ⟨e, h⟩ | ⟨p, w, e, -, -, h, hd, -⟩
    · rw [if_pos h, e]; rfl
    · rw [if_neg h, hd, e, iN_lit, iN_mul, iN_add]; rfl
  rw [a1, a2, f_X11_costWith_J38, g1, eq_grd, eq_lb, g2, eq_grd, eq_lb, c1, c2]
  rcases moI_d hM hs h1 with ⟨e, h⟩ | ⟨p, w, e, -, -, h, hd, hm⟩
  · rw [if_pos h, eq_grd, e]; rfl
  · rw [if_neg h, hm, e]; rfl
theorem X11_cw2 {M : Ob} {s : Nat} {o1 o2 : Mo} (hM : WM M) (hs : s < 4) (h1 : okm M s o1) (h2 : okm M s o2) (a b : Int32) :
    f_X11_costWith_J83 M (iN s) (moI o1) (moI o2) (iN (ixo s o1)) (iN (ixo s o2)) a b (iN (ixo s o1)) (voM M o1) = f_X11_costWith_J109 (puM M s o1) (iN s) (moI o1) (moI o2) (iN (ixo s o1)) (iN (ixo s o2)) a b (iN (ixo s o2)) (voM (puM M s o1) o2) := by
  have i1 := ixo_lt hM hs h1
  have i2 := ixo_lt hM hs h2
  have g1 : gd (iN (ixo s o1)) 24 = true := by rw [gd_iN (by omega)]; exact decide_eq_true i1
  have g2 : gd (iN (ixo s o2)) 24 = true := by rw [gd_iN (by omega)]; exact decide_eq_true i2
  have c1 : (iN (ixo s o1)).toNatClampNeg = ixo s o1 := iN_c (by omega)
  have c2 : (iN (ixo s o2)).toNatClampNeg = ixo s o2 := iN_c (by omega)
  rw [f_X11_costWith_J83, g1, eq_grd, eq_lb, c1, puM_upo, g2, eq_grd, c2]
  rcases moI_d hM hs h2 with ⟨e, h⟩ | ⟨p, w, e, -, -, h, hd, hm⟩
  · rw [if_pos h, e]; rfl
  · rw [if_neg h, hm, e]; rfl
theorem X11_cost {M : Ob} {s : Nat} {o1 o2 : Mo} (hM : WM M) (hs : s < 4) (h1 : okm M s o1) (h2 : okm M s o2) :
    wp (f_X11_costWith M (iN s) (moI o1) (moI o2)) (fun q => q.1 = prc M s o1 o2 ∧ ∀ k, (k < 11 ∨ (15 ≤ k ∧ k ≤ 30) ∨ 42 < k) → q.2 k = M k) := by
  have i1 := ixo_lt hM hs h1
  have i2 := ixo_lt hM hs h2
  have g1 : gd (iN (ixo s o1)) 24 = true := by rw [gd_iN (by omega)]; exact decide_eq_true i1
  have g2 : gd (iN (ixo s o2)) 24 = true := by rw [gd_iN (by omega)]; exact decide_eq_true i2
  have c1 : (iN (ixo s o1)).toNatClampNeg = ixo s o1 := iN_c (by omega)
  have c2 : (iN (ixo s o2)).toNatClampNeg = ixo s o2 := iN_c (by omega)
  obtain ⟨n1, n2, n3, n4, n5, n6, n7⟩ := pu2_all hM hs h1 h2
  rw [X11_cw1 hM hs h1 h2, X11_cw2 hM hs h1 h2, f_X11_costWith_J109, g2, eq_grd, eq_lb, c2, puM_upo]
  show wp (bnd1 (f_X11_chart (pu2 M s o1 o2) (iN s)) _) _
  simp only [wp_b1]
  refine wp_mono (X11_chart n1.1 n1.2.1 n1.2.2.1 n1.2.2.2 (fun k k1 k2 => gr_e k1 k2) hs) ?_
  rintro y ⟨y1, ⟨n, hn, hC⟩, hW⟩
  have h9 := WTxt_at n1.2.1 hs
  have hc := (X11_whole hC (by omega) hW hs (by rw [y1 9 (by omega)]; exact h9.2.1) h9.1).2
  rw [hc]
  have hp : wK (gr (pu2 M s o1 o2)) (chM (gr (pu2 M s o1 o2)) (sr (pu2 M s o1 o2)) (pu2 M s o1 o2) s) (evn (pu2 M s o1 o2) s) = prc M s o1 o2 := by
    unfold prc; rw [← n3, ← n2]
  rw [hp]
  simp only [wp_some]
  have y10 : y 10 = puM (puM M s o1) s o2 10 := y1 10 (by omega)
  have fr : ∀ k, k ≠ 10 → (k < 11 ∨ (15 ≤ k ∧ k ≤ 30) ∨ 42 < k) → y k = M k := fun k hk h => by rw [y1 k (by omega)]; exact n6 k hk
  have back : ∀ v2 : Int32, v2 = bkv y M s o2 → wp (f_X11_costWith_J145 y (moI o1) (iN (ixo s o1)) (M 10 (ixo s o1)) (prc M s o1 o2) (iN (ixo s o2)) v2) (fun q => q.1 = prc M s o1 o2 ∧ ∀ k, (k < 11 ∨ (15 ≤ k ∧ k ≤ 30) ∨ 42 < k) → q.2 k = M k) := by
    intro v2 hv
    subst hv
    rw [f_X11_costWith_J145, g2, eq_grd, eq_lb, c2]
    have fin : ∀ v1 : Int32, v1 = bkv (upo y 10 (ixo s o2) (bkv y M s o2)) M s o1 → ∀ k, (k < 11 ∨ (15 ≤ k ∧ k ≤ 30) ∨ 42 < k) → upo (upo y 10 (ixo s o2) (bkv y M s o2)) 10 (ixo s o1) v1 k = M k := by
      intro v1 hv1 k hk
      subst hv1
      by_cases e : k = 10
      · subst e; exact back_10 o1 o2 y10
      · rw [upo_ne e, upo_ne e]; exact fr k e hk
    rcases moI_d hM hs h1 with ⟨e, h⟩ | ⟨p, w, e, -, -, h, -, -⟩
    · rw [if_pos h, g1, eq_grd, eq_grd, eq_lb, c1]
      exact wp_some.mpr ⟨rfl, fin _ (by rw [e]; rfl)⟩
    · rw [if_neg h, g1, eq_grd, eq_lb, c1]
      exact wp_some.mpr ⟨rfl, fin _ (by rw [e]; rfl)⟩
  rcases moI_d hM hs h2 with ⟨e, h⟩ | ⟨p, w, e, -, -, h, -, -⟩
  · rw [if_pos h]
    exact back _ (by rw [e]; rfl)
  · rw [if_neg h]
    exact back _ (by rw [e]; rfl)
