/-! The mend of a fault: by the reference. -/
def Yq (M x : Ob) : Prop := ∀ k, (k < 11 ∨ (15 ≤ k ∧ k ≤ 30) ∨ 46 < k) → x k = M k
theorem Yq_c {M x : Ob} (h : Yq M x) : cor M x := fun k hk => h k (by omega)
theorem Yq_t {M x y : Ob} (h1 : Yq M x) (h2 : Yq x y) : Yq M y := fun k hk => by rw [h2 k hk]; exact h1 k hk
theorem hitR_cg {M z : Ob} (h : cor M z) : hitR z = hitR M := by
  funext lem cat P w r
  unfold hitR
  rw [h 3 (by omega), h 4 (by omega), h 5 (by omega)]
theorem hitL_cg {M z : Ob} (h : cor M z) (lem cat : Int32) (P w r : Nat) : hitL z lem cat P w r = hitL M lem cat P w r := by
  induction r with
  | zero => rfl
  | succ r ih => rw [hitL, hitL, ih, hitR_cg h]
theorem hitW_cg {M z : Ob} (h : cor M z) (lem cat : Int32) (P : Nat) : hitW z lem cat P = hitW M lem cat P := by
  funext w
  unfold hitW
  rw [hitL_cg h, h 2 (by omega)]
theorem cdW_cg {M z : Ob} (h : cor M z) (s φ v : Nat) (a : Lf) : cdW z s φ v a = cdW M s φ v a := by
  unfold cdW lmM
  rw [evw_cg h, evS_cg h, hitW_cg h, h 2 (by omega), h 3 (by omega), h 0 (by omega)]
theorem cdo_cg {M z : Ob} (h : cor M z) (s : Nat) (t : Tr) (e side : Nat) : cdo (gr z) z s t e side = cdo (gr M) M s t e side := by
  rw [gr_cg h]
  unfold cdo
  cases t with
  | leaf a => rfl
  | branch g l r =>
    simp only
    unfold cdUo cdAo
    simp only [cdW_cg h]
theorem okm_cg {M z : Ob} (h : cor M z) (s : Nat) : okm z s = okm M s := by
  funext o
  unfold okm
  rw [evn_cg h, h 0 (by omega)]
theorem puM_cor {M z : Ob} (h : cor M z) (s : Nat) (o : Mo) : cor (puM M s o) (puM z s o) := by
  intro k hk
  cases o with
  | none => exact h k hk
  | some a =>
    show upo z 10 _ _ k = upo M 10 _ _ k
    funext i
    rw [upo_ap, upo_ap, h k hk]
theorem prc_cg {M z : Ob} (h : cor M z) (s : Nat) (o1 o2 : Mo) : prc z s o1 o2 = prc M s o1 o2 := by
  have h2 : cor (pu2 M s o1 o2) (pu2 z s o1 o2) := puM_cor (puM_cor h s o1) s o2
  unfold prc
  have ec : cM (pu2 z s o1 o2) s = cM (pu2 M s o1 o2) s := cM_cg h2 s
  rw [ec, gr_cg h, evn_cg h]
theorem bef_cg {M z : Ob} (h : cor M z) (s : Nat) : bef z s = bef M s := by
  have ec : cM z s = cM M s := cM_cg h s
  unfold bef
  rw [ec, gr_cg h, evn_cg h]
theorem bet_cg {M z : Ob} (h : cor M z) (s : Nat) (o : Mo) : bet z s o = bet M s o := by
  unfold bet
  rw [prc_cg h, bef_cg h]
theorem OKt_cg {M z : Ob} (h : cor M z) {s : Nat} {t : Tr} (hok : OKt M s t) : OKt z s t := by
  unfold OKt
  rw [gr_cg h, evS_cg h]; exact hok
theorem LV_pre {E : Ev} (t : Tr) : LV E t → ∀ u, u ∈ pre t → LV E u := by
  induction t with
  | leaf a =>
    intro h u hu
    rw [pre] at hu
    split at hu
    · exact absurd hu List.not_mem_nil
    · rw [List.mem_singleton.mp hu]; exact h
  | branch g l r ihl ihr =>
    intro h u hu
    rw [pre] at hu
    rcases List.mem_cons.mp hu with e | hu
    · rw [e]; exact h
    · rcases List.mem_append.mp hu with hu | hu
      · exact ihl h.1 u hu
      · exact ihr h.2 u hu
theorem pre_sub (t : Tr) : ∀ u, u ∈ pre t → (pre u).length ≤ (pre t).length := by
  induction t with
  | leaf a =>
    intro u hu
    have hu' := hu
    rw [pre] at hu'
    split at hu'
    · exact absurd hu' List.not_mem_nil
    · rw [List.mem_singleton.mp hu']; exact Nat.le_refl _
  | branch g l r ihl ihr =>
    intro u hu
    rw [pre] at hu
    rw [pre_b]
    rcases List.mem_cons.mp hu with e | hu
    · rw [e, pre_b]; exact Nat.le_refl _
    · rcases List.mem_append.mp hu with hu | hu
      · have := ihl u hu; omega
      · have := ihr u hu; omega
theorem fM_ok {M : Ob} {s i : Nat} (hM : WM M) (hs : s < 4) (hW : WCh (gr M) (cM M s)) (hi : i < (fM M s).length) : OKt M s ((fM M s).getD i (dum, 0)).1 := by
  have hm : (fM M s).getD i (dum, 0) ∈ fM M s := by
    rw [List.getD_eq_getElem?_getD, List.getElem?_eq_getElem hi]
    exact List.getElem_mem hi
  generalize (fM M s).getD i (dum, 0) = x at hm ⊢
  have hm' : x ∈ (wL (gr M) (cM M s) (evn M s)).flatMap (fls (gr M)) := hm
  rw [List.mem_flatMap] at hm'
  obtain ⟨t, ht, hx⟩ := hm'
  unfold fls at hx
  rw [List.mem_map] at hx
  obtain ⟨e, -, rfl⟩ := hx
  have hlen := wL_len hM.2.2.2 hW (evn M s)
  have hwt := (wL_W hM.2.2.2 hW (evn M s)).2 t ht
  have hl := cht_LV (G := gr M) (E := evS M s) (L := Lk (sr M) M s) (gv := gvM (sr M) M s) (WM_E hM hs).2
  unfold wL at ht hlen
  cases hw : wI (gr M) (cM M s) (evn M s) with
  | none => rw [hw] at ht; exact absurd ht List.not_mem_nil
  | some k =>
    rw [hw] at ht hlen
    obtain ⟨w1, w2, -⟩ := wI_lt hw
    have hT : LV (evS M s) (wT (cM M s) (evn M s) k) := hl (evn M s - 1) _ (getD_mem w2)
    exact ⟨hwt, LV_pre _ hT t ht, Nat.le_trans (pre_sub _ t ht) hlen⟩
def mdl (M : Ob) (s i : Nat) : Mo := if i < (fM M s).length then mdo M s ((fM M s).getD i (dum, 0)).1 ((fM M s).getD i (dum, 0)).2 else none
theorem X11_J65 {M x : Ob} {s : Nat} {o : Mo} (hM : WM M) (hx : Yq M x) (hs : s < 4) (ho : okm M s o) : wp (f_X11_mendOf_J65 x (iN s) (bef M s) (moI o)) (fun q => q.1 = moI (if bet M s o = true then o else none) ∧ Yq M q.2) := by
  rw [f_X11_mendOf_J65]
  rcases moI_nz hM hs ho with ⟨e0, e1⟩ | ⟨e0, e1⟩
  · rw [if_pos (show moI o = -1 from e1), if_neg (fun h => (bet_e h).1 e0)]
    exact wp_some.mpr ⟨rfl, hx⟩
  · rw [if_neg (show ¬ (moI o = -1) from e1)]
    have hc := Yq_c hx
    obtain ⟨⟨r, y⟩, ec, c1, c2⟩ := X11_cost (M := x) (o1 := o) (o2 := none) (WM_cg hc hM) hs (by rw [okm_cg hc]; exact ho) (fun _ _ h => by cases h)
    simp only at c1 c2
    rw [prc_cg hc] at c1
    subst c1
    have ec' : f_X11_costWith x (iN s) (moI o) (-1) = some (prc M s o none, y) := ec
    have hy : Yq M y := Yq_t hx (fun k hk => c2 k (by omega))
    rw [ec', eq_b2]
    show wp (if bef M s ≤ prc M s o none then some ((-1), y) else some (moI o, y)) _
    by_cases hle : bef M s ≤ prc M s o none
    · rw [if_pos hle, if_neg (fun h => absurd (bet_e h).2 (i32_nlt.mpr hle))]
      exact wp_some.mpr ⟨rfl, hy⟩
    · rw [if_neg hle, if_pos (bet_y e0 (i32_nle.mp hle))]
      exact wp_some.mpr ⟨rfl, hy⟩
