theorem pf18 {X0 X1 X2 X3 X4 X5 X6 X7 X8 X9 X10 X11 X12 X13 X14 X15 X16 X17 X18 Z : va_W} : (X0 ++ (X1 ++ (X2 ++ (X3 ++ (X4 ++ (X5 ++ (X6 ++ (X7 ++ (X8 ++ (X9 ++ (X10 ++ (X11 ++ (X12 ++ (X13 ++ (X14 ++ (X15 ++ (X16 ++ (X17 ++ (X18 ++ Z))))))))))))))))))).Perm (X18 ++ (X0 ++ (X1 ++ (X2 ++ (X3 ++ (X4 ++ (X5 ++ (X6 ++ (X7 ++ (X8 ++ (X9 ++ (X10 ++ (X11 ++ (X12 ++ (X13 ++ (X14 ++ (X15 ++ (X16 ++ (X17 ++ Z))))))))))))))))))) := (List.Perm.append_left X0 (pf17)).trans pf1
theorem pf19 {X0 X1 X2 X3 X4 X5 X6 X7 X8 X9 X10 X11 X12 X13 X14 X15 X16 X17 X18 X19 Z : va_W} : (X0 ++ (X1 ++ (X2 ++ (X3 ++ (X4 ++ (X5 ++ (X6 ++ (X7 ++ (X8 ++ (X9 ++ (X10 ++ (X11 ++ (X12 ++ (X13 ++ (X14 ++ (X15 ++ (X16 ++ (X17 ++ (X18 ++ (X19 ++ Z)))))))))))))))))))).Perm (X19 ++ (X0 ++ (X1 ++ (X2 ++ (X3 ++ (X4 ++ (X5 ++ (X6 ++ (X7 ++ (X8 ++ (X9 ++ (X10 ++ (X11 ++ (X12 ++ (X13 ++ (X14 ++ (X15 ++ (X16 ++ (X17 ++ (X18 ++ Z)))))))))))))))))))) := (List.Perm.append_left X0 (pf18)).trans pf1
theorem pf20 {X0 X1 X2 X3 X4 X5 X6 X7 X8 X9 X10 X11 X12 X13 X14 X15 X16 X17 X18 X19 X20 Z : va_W} : (X0 ++ (X1 ++ (X2 ++ (X3 ++ (X4 ++ (X5 ++ (X6 ++ (X7 ++ (X8 ++ (X9 ++ (X10 ++ (X11 ++ (X12 ++ (X13 ++ (X14 ++ (X15 ++ (X16 ++ (X17 ++ (X18 ++ (X19 ++ (X20 ++ Z))))))))))))))))))))).Perm (X20 ++ (X0 ++ (X1 ++ (X2 ++ (X3 ++ (X4 ++ (X5 ++ (X6 ++ (X7 ++ (X8 ++ (X9 ++ (X10 ++ (X11 ++ (X12 ++ (X13 ++ (X14 ++ (X15 ++ (X16 ++ (X17 ++ (X18 ++ (X19 ++ Z))))))))))))))))))))) := (List.Perm.append_left X0 (pf19)).trans pf1
theorem pf21 {X0 X1 X2 X3 X4 X5 X6 X7 X8 X9 X10 X11 X12 X13 X14 X15 X16 X17 X18 X19 X20 X21 Z : va_W} : (X0 ++ (X1 ++ (X2 ++ (X3 ++ (X4 ++ (X5 ++ (X6 ++ (X7 ++ (X8 ++ (X9 ++ (X10 ++ (X11 ++ (X12 ++ (X13 ++ (X14 ++ (X15 ++ (X16 ++ (X17 ++ (X18 ++ (X19 ++ (X20 ++ (X21 ++ Z)))))))))))))))))))))).Perm (X21 ++ (X0 ++ (X1 ++ (X2 ++ (X3 ++ (X4 ++ (X5 ++ (X6 ++ (X7 ++ (X8 ++ (X9 ++ (X10 ++ (X11 ++ (X12 ++ (X13 ++ (X14 ++ (X15 ++ (X16 ++ (X17 ++ (X18 ++ (X19 ++ (X20 ++ Z)))))))))))))))))))))) := (List.Perm.append_left X0 (pf20)).trans pf1
theorem arrV_eq {cA : ClassId} {n : Nat} {f g : Nat → Value} (h : ∀ j, j < n → f j = g j) : arrV cA n f = arrV cA n g := by
  unfold arrV
  have e : (Array.ofFn (n := n) fun j => f j.val) = Array.ofFn (n := n) fun j => g j.val := congrArg Array.ofFn (funext fun j => h j.val j.isLt)
  rw [e]
theorem wd_q {D : va_G} {A : Nat → Prop} {H0 H : Heap} {locs : List Loc} {q n : Nat} {cA : ClassId} {f g : Nat → Option Nat} {Y : va_W} (h : Wd D A H0 ([(q, .inl (cA, n, .inr (.inr (.inr (.inr f)))))] ++ Y) H locs) (hfg : ∀ j, j < n → f j = g j) : Wd D A H0 ([(q, .inl (cA, n, .inr (.inr (.inr (.inr g)))))] ++ Y) H locs := by
  have e : vp_cell cA (n, .inr (.inr (.inr (.inr f)))) = vp_cell cA (n, .inr (.inr (.inr (.inr g)))) := by
    show arrV cA n (fun j => va_rf (f j)) = arrV cA n (fun j => va_rf (g j))
    exact arrV_eq (fun j hj => by rw [hfg j hj])
  refine ⟨?_, ?_, h.2.2⟩
  · rw [va_P_mem]
    intro p hp
    rcases List.mem_append.mp hp with hp | hp
    · rw [List.mem_singleton.mp hp]
      have h1 := (va_P_mem.mp h.1) _ (List.mem_append_left _ (List.mem_singleton.mpr rfl))
      show H[q]? = some _
      rw [← e]
      exact h1
    · exact (va_P_mem.mp h.1) p (List.mem_append_right _ hp)
  · have h2 := h.2.1
    rw [va_D_iff] at h2 ⊢
    refine ⟨h2.1, fun p hp => ?_⟩
    rcases List.mem_append.mp hp with hp | hp
    · rw [List.mem_singleton.mp hp]
      exact h2.2 (q, .inl (cA, n, .inr (.inr (.inr (.inr f))))) (List.mem_append_left _ (List.mem_singleton.mpr rfl))
    · exact h2.2 p (List.mem_append_right _ hp)
theorem wk_ex {T : Nat → ClassId} {ad : Nat → Nat → Nat} {K : Nat → Ob} {Z : va_W} : wkL T ad K L18 ++ Z = oc_X3 T (ad 1) (K 1) ++ (oc_X7 T (ad 2) (K 2) ++ (oc_X2 T (ad 3) (K 3) ++ (oc_X5 T (ad 4) (K 4) ++ (oc_X9 T (ad 5) (K 5) ++ (oc_X1 T (ad 6) (K 6) ++ (oc_X8 T (ad 7) (K 7) ++ (oc_X4 T (ad 8) (K 8) ++ (oc_X6 T (ad 9) (K 9) ++ (oc_X6 T (ad 10) (K 10) ++ (oc_X6 T (ad 11) (K 11) ++ (oc_X6 T (ad 12) (K 12) ++ (oc_X6 T (ad 13) (K 13) ++ (oc_X0 T (ad 14) (K 14) ++ (oc_X0 T (ad 15) (K 15) ++ (oc_X0 T (ad 16) (K 16) ++ (oc_X0 T (ad 17) (K 17) ++ (oc_X0 T (ad 18) (K 18) ++ Z))))))))))))))))) := by
  simp only [wkL, L18, List.flatMap_cons, List.flatMap_nil, List.append_nil, List.append_assoc]
  rfl
def adM (l1 l2 : List Nat) : Nat → Nat := fun k => if k < 100 then l1.getD k 0 else l2.getD (k - 100) 0
def adA (l : List (Nat → Nat)) : Nat → Nat → Nat := fun k => l.getD k (fun _ => 0)
def K0 : Nat → Ob := fun k => if k = 4 then zX5 else if 9 ≤ k ∧ k ≤ 13 then zX6 else z0
section NEWQ
variable {p : Program} {l : Launch} {e : Env} {R : Room} {s : State} {m : MethodId} {args : Array Value} {below : List Frame} {meth : Method} {c : Code} {H : Heap} {locs : List Loc} {cells slots : Nat} {Q : State → Prop} {cc : ByteArray} {pc nL : Nat} {ls : Array Slot} {rest st : List Value} {D : va_G} {T : Nat → ClassId} {A : Nat → Prop} {ws ws9 Z : va_W} {a b : Nat}
theorem n_newq (hx : p.tables.exec = Jvm.exec) (hb : c.code = cc) (hown : s.vm.findClass RX10 = some m.cls) (hts : ∀ w ∈ wsL_law, w.before args s = true) (hO : va_AO RX6 s) (hK : va_K D vwCl (tys T) s) (hA : ∀ q, s.heap.size ≤ q → A q) (hW : Wd D A s.heap ws H locs) (hc : cells + 1 ≤ R.cells) (hs : slots + 4 ≤ R.slots) (d : decode cc pc = .ok (.anewarray 65, 3))
    (kk : ∀ (q : Nat) (H1 : Heap), Wd D A s.heap ((q, .inl (T 2, 4, .inr (.inr (.inr (.inr (fun _ => none)))))) :: ws) H1 locs → W p l e R s m args below meth c H1 locs (cells + 1) (slots + 4) Q (F0 m (pc + 3) ls (.ref q :: rest))) : W p l e R s m args below meth c H locs cells slots Q (F0 m pc ls (.int 4 :: rest)) := by
  refine va_newq (C := RX6) hx hb hown (hts _ wm2_19) hO hK hW.1 hW.2.1 hW.2.2 hA (by decide) (by decide) (by decide) hc hs d (fun q cA H1 hK1 hP hD hS => ?_)
  obtain ⟨_, _, _, _, _, e1⟩ := (hK1.2 4 (cA, .object RX6) rfl).2
  obtain ⟨_, _, _, _, _, e2⟩ := (hK.2 2 (T 2, .object "ReadingChart$Sentence") rfl).2
  have e : cA = T 2 := Option.some.inj (e1.symm.trans e2)
  subst e
  exact kk q H1 ⟨hP.perm (List.perm_append_singleton _ _), hD.perm (List.perm_append_singleton _ _), hS⟩
end NEWQ
def Pi10 (D : va_G) (T : Nat → ClassId) (A : Nat → Prop) (ws : va_W) (av : List Value) : Array Value → State → Prop := va_Pc av (fun U => va_P D vwCl ws U.heap ∧ va_K D vwCl (tys T) U ∧ va_D A ws ∧ NN U ∧ (∀ q, U.heap.size ≤ q → A q) ∧ va_AO RX6 U)
theorem Pi10_bl {D : va_G} {T : Nat → ClassId} {A : Nat → Prop} {ws : va_W} {av : List Value} : FrameBlind (Pi10 D T A ws av) := fun a U g mk q => by
  obtain ⟨q0, qP, qK, qD, qN, qA, qO⟩ := q
  exact ⟨q0, qP, va_K.moved (u := U) (U := U.calling g mk a) (Vm.Alike.refl U.vm) qK, qD, NN.same (u := U) (U := U.calling g mk a) rfl qN, qA, va_AO.moved (u := U) (U := U.calling g mk a) (Vm.Alike.refl U.vm) qO⟩
set_option maxHeartbeats 4000000 in
set_option maxRecDepth 100000 in
theorem i_X10 (l : Launch) (D : va_G) (T : Nat → ClassId) (A : Nat → Prop) (h0 : Nat) (Z : va_W) : Met l yX10_init (Cond.code yX10_init cX10_init 2 none :: wsL_law) (rmi 3 118 12830) (Pi10 D T A ((h0, .inr (10, [.null, .null, .null, .null, .null, .null, .null, .null, .null, .null, .null, .null, .int 0])) :: Z) [.ref h0]) (Qi D A (fun ad : Nat → Nat → Nat => okad ad ∧ ad 0 0 = h0) (fun ad => oc_X10 T (ad 0) (bb ad) (K0 0) ++ (wkL T ad K0 L18 ++ Z))) 118 12830 A := by
  refine Met.ofW (cc := cX10_init) (maxL := 2) (ret := none) (by decide +kernel) rfl ?_
  intro p e s m args below meth c s₁ B hml hv
  obtain ⟨ha, hP, hK, hD, hN, hA, hO⟩ := hv
  have hx := B.exec
  have hb := B.bytes
  have hr := B.returns
  have hlk := B.notSynchronized
  have hin : meth.name = "<init>" := (name_of_methodNamed B.named B.method).1
  have hts : ∀ w ∈ wsL_law, w.before args s = true := fun w hw => atoms_spec B.pre w (List.mem_cons_of_mem _ hw)
  have hown : s.vm.findClass RX10 = some m.cls := findClass_of_methodNamed B.named
  have hW : Wd D A s.heap ((h0, .inr (10, [.null, .null, .null, .null, .null, .null, .null, .null, .null, .null, .null, .null, .int 0])) :: Z) s.heap [] := ⟨hP, hD, va_S.rf⟩
  have hl := lv_entry [.ref h0] (n := 2) (Nat.le_of_ble_eq_true rfl)
  refine W.eq (en_eq ha) ?_
  generalize (lg_sl [.ref h0] ++ List.replicate (2 - (lg_sl [.ref h0]).length) Slot.unset).toArray = ls at hl ⊢
  have hl : lv_has ls 2 [(0, .ref h0)] := hl
  clear hP hD B ha
  refine (show ∀ (H : Heap) (locs : List Loc), Wd D A s.heap ((h0, .inr (10, [.null, .null, .null, .null, .null, .null, .null, .null, .null, .null, .null, .null, .int 0])) :: Z) H locs → W p l e (rmi 3 118 12830) s m args below meth c H locs 0 0 _ (F0 m 0 ls []) from ?_) s.heap [] hW
  intro H locs hW
  refine lv_aload_n hx hb dX10_init_0 rfl (lv_at hl 0 rfl) ?_
  refine W.objInit hx hb hown (hts _ wm1_8) (hts _ wm1_9) (hts _ wm1_10) rfl (by rw [hml]; exact hl.1) rfl dX10_init_1 (Nat.le_of_ble_eq_true rfl) (Nat.le_of_ble_eq_true rfl) ?_
  refine W.eq (g2 := F0 m 4 ls []) rfl ?_
  refine lv_aload_n hx hb dX10_init_4 rfl (lv_at hl 0 rfl) ?_
  refine va_new (ci := 3) (fs := [.int 0, .null, .null, .null, .null, .null]) (C := RX3) (T := TX3) (N := 6) hx hb hts inlX3 tyX3 tyX3_ok hown (hts _ wm1_11) (hts _ wm1_12) (hts _ wm1_13) hK hW.1 hW.2.1 hW.2.2 hA rfl (fun j hj => by rcases (show j = 0 ∨ j = 1 ∨ j = 2 ∨ j = 3 ∨ j = 4 ∨ j = 5 by omega) with rfl | rfl | rfl | rfl | rfl | rfl <;> rfl) (Nat.le_of_ble_eq_true rfl) (Nat.le_of_ble_eq_true rfl) dX10_init_5 (fun qn1 H hP hD hS => ?_)
  have hW : Wd D A s.heap ((qn1, .inr (3, [.int 0, .null, .null, .null, .null, .null])) :: ((h0, .inr (10, [.null, .null, .null, .null, .null, .null, .null, .null, .null, .null, .null, .null, .int 0])) :: Z)) H locs := ⟨hP.perm (List.perm_append_singleton _ _), hD.perm (List.perm_append_singleton _ _), hS⟩
  refine lv_dup hx hb dX10_init_8 rfl ?_
  refine n_init (host := "ReadingChart") hx hb hml hown hts hK hN hA hW (i_X3 l D T A qn1 ((h0, .inr (10, [.null, .null, .null, .null, .null, .null, .null, .null, .null, .null, .null, .null, .int 0])) :: Z)) (hN.2 _ (List.mem_of_getElem? (i := 0) rfl)) wm3_3 wm1_13 wm3_4 rfl ⟨by decide +kernel, by decide +kernel, by decide +kernel⟩ ⟨Nat.le_of_ble_eq_true rfl, Nat.le_of_ble_eq_true rfl⟩ hl.1 (Nat.le_of_ble_eq_true rfl) dX10_init_9 ⟨Nat.le_of_ble_eq_true rfl, Nat.le_of_ble_eq_true rfl⟩ (fun a_1 H locs ha_1 hW => ?_)
  have ea_1 : a_1 0 = qn1 := ha_1
  have hW : Wd D A s.heap (oc_X3 T a_1 z0 ++ ((h0, .inr (10, [.null, .null, .null, .null, .null, .null, .null, .null, .null, .null, .null, .null, .int 0])) :: Z)) H locs := hW
  rw [← ea_1]
  refine va_putF (D := D) (ci := 10) (v := .ref (a_1 0)) (ty := .object "ReadingChart$Lexicon") (C := RX10) (T := TX10) (N := 13) hx hb hts inlX10 tyX10 tyX10_ok nmX10 hown hK hW.1 hW.2.1 hW.2.2 6 rfl rfl 0 (by decide) (hts _ wm1_14) (fun _ h9 => h9) rfl hin (by decide +kernel) (by decide +kernel) rfl rfl (Nat.le_of_ble_eq_true rfl) dX10_init_12 (fun H locs hP hD hS => ?_)
  have hW : Wd D A s.heap (oc_X3 T a_1 z0 ++ ((h0, .inr (10, [.ref (a_1 0), .null, .null, .null, .null, .null, .null, .null, .null, .null, .null, .null, .int 0])) :: Z)) H locs := ⟨hP, hD, hS⟩
  refine lv_aload_n hx hb dX10_init_15 rfl (lv_at hl 0 rfl) ?_
  refine va_new (ci := 7) (fs := [.int 0, .null, .null, .null, .null, .null]) (C := RX7) (T := TX7) (N := 6) hx hb hts inlX7 tyX7 tyX7_ok hown (hts _ wm1_15) (hts _ wm1_16) (hts _ wm1_17) hK hW.1 hW.2.1 hW.2.2 hA rfl (fun j hj => by rcases (show j = 0 ∨ j = 1 ∨ j = 2 ∨ j = 3 ∨ j = 4 ∨ j = 5 by omega) with rfl | rfl | rfl | rfl | rfl | rfl <;> rfl) (Nat.le_of_ble_eq_true rfl) (Nat.le_of_ble_eq_true rfl) dX10_init_16 (fun qn2 H hP hD hS => ?_)
  have hW : Wd D A s.heap ((qn2, .inr (7, [.int 0, .null, .null, .null, .null, .null])) :: (oc_X3 T a_1 z0 ++ ((h0, .inr (10, [.ref (a_1 0), .null, .null, .null, .null, .null, .null, .null, .null, .null, .null, .null, .int 0])) :: Z))) H locs := ⟨hP.perm (List.perm_append_singleton _ _), hD.perm (List.perm_append_singleton _ _), hS⟩
  refine lv_dup hx hb dX10_init_19 rfl ?_
  refine n_init (host := "ReadingChart") hx hb hml hown hts hK hN hA hW (i_X7 l D T A qn2 (oc_X3 T a_1 z0 ++ ((h0, .inr (10, [.ref (a_1 0), .null, .null, .null, .null, .null, .null, .null, .null, .null, .null, .null, .int 0])) :: Z))) (hN.2 _ (List.mem_of_getElem? (i := 1) rfl)) wm3_12 wm1_17 wm3_13 rfl ⟨by decide +kernel, by decide +kernel, by decide +kernel⟩ ⟨Nat.le_of_ble_eq_true rfl, Nat.le_of_ble_eq_true rfl⟩ hl.1 (Nat.le_of_ble_eq_true rfl) dX10_init_20 ⟨Nat.le_of_ble_eq_true rfl, Nat.le_of_ble_eq_true rfl⟩ (fun a_2 H locs ha_2 hW => ?_)
  have ea_2 : a_2 0 = qn2 := ha_2
  have hW : Wd D A s.heap (oc_X7 T a_2 z0 ++ (oc_X3 T a_1 z0 ++ ((h0, .inr (10, [.ref (a_1 0), .null, .null, .null, .null, .null, .null, .null, .null, .null, .null, .null, .int 0])) :: Z))) H locs := hW
  rw [← ea_2]
  refine va_putF (D := D) (ci := 10) (v := .ref (a_2 0)) (ty := .object "ReadingChart$Striking") (C := RX10) (T := TX10) (N := 13) hx hb hts inlX10 tyX10 tyX10_ok nmX10 hown hK hW.1 hW.2.1 hW.2.2 12 rfl rfl 1 (by decide) (hts _ wm1_18) (fun _ h9 => h9) rfl hin (by decide +kernel) (by decide +kernel) rfl rfl (Nat.le_of_ble_eq_true rfl) dX10_init_23 (fun H locs hP hD hS => ?_)
  have hW : Wd D A s.heap (oc_X7 T a_2 z0 ++ (oc_X3 T a_1 z0 ++ ((h0, .inr (10, [.ref (a_1 0), .ref (a_2 0), .null, .null, .null, .null, .null, .null, .null, .null, .null, .null, .int 0])) :: Z))) H locs := ⟨hP, hD, hS⟩
  refine lv_aload_n hx hb dX10_init_26 rfl (lv_at hl 0 rfl) ?_
  refine va_new (ci := 2) (fs := [.int 0, .null, .null, .null, .null, .int 0, .null, .null, .null, .null, .null, .null, .null, .int 0, .int 0]) (C := RX2) (T := TX2) (N := 15) hx hb hts inlX2 tyX2 tyX2_ok hown (hts _ wm1_19) (hts _ wm1_20) (hts _ wm1_21) hK hW.1 hW.2.1 hW.2.2 hA rfl (fun j hj => by rcases (show j = 0 ∨ j = 1 ∨ j = 2 ∨ j = 3 ∨ j = 4 ∨ j = 5 ∨ j = 6 ∨ j = 7 ∨ j = 8 ∨ j = 9 ∨ j = 10 ∨ j = 11 ∨ j = 12 ∨ j = 13 ∨ j = 14 by omega) with rfl | rfl | rfl | rfl | rfl | rfl | rfl | rfl | rfl | rfl | rfl | rfl | rfl | rfl | rfl <;> rfl) (Nat.le_of_ble_eq_true rfl) (Nat.le_of_ble_eq_true rfl) dX10_init_27 (fun qn3 H hP hD hS => ?_)
  have hW : Wd D A s.heap ((qn3, .inr (2, [.int 0, .null, .null, .null, .null, .int 0, .null, .null, .null, .null, .null, .null, .null, .int 0, .int 0])) :: (oc_X7 T a_2 z0 ++ (oc_X3 T a_1 z0 ++ ((h0, .inr (10, [.ref (a_1 0), .ref (a_2 0), .null, .null, .null, .null, .null, .null, .null, .null, .null, .null, .int 0])) :: Z)))) H locs := ⟨hP.perm (List.perm_append_singleton _ _), hD.perm (List.perm_append_singleton _ _), hS⟩
  refine lv_dup hx hb dX10_init_30 rfl ?_
  refine n_init (host := "ReadingChart") hx hb hml hown hts hK hN hA hW (i_X2 l D T A qn3 (oc_X7 T a_2 z0 ++ (oc_X3 T a_1 z0 ++ ((h0, .inr (10, [.ref (a_1 0), .ref (a_2 0), .null, .null, .null, .null, .null, .null, .null, .null, .null, .null, .int 0])) :: Z)))) (hN.2 _ (List.mem_of_getElem? (i := 2) rfl)) wm3_22 wm1_21 wm3_23 rfl ⟨by decide +kernel, by decide +kernel, by decide +kernel⟩ ⟨Nat.le_of_ble_eq_true rfl, Nat.le_of_ble_eq_true rfl⟩ hl.1 (Nat.le_of_ble_eq_true rfl) dX10_init_31 ⟨Nat.le_of_ble_eq_true rfl, Nat.le_of_ble_eq_true rfl⟩ (fun a_3 H locs ha_3 hW => ?_)
  have ea_3 : a_3 0 = qn3 := ha_3
  have hW : Wd D A s.heap (oc_X2 T a_3 z0 ++ (oc_X7 T a_2 z0 ++ (oc_X3 T a_1 z0 ++ ((h0, .inr (10, [.ref (a_1 0), .ref (a_2 0), .null, .null, .null, .null, .null, .null, .null, .null, .null, .null, .int 0])) :: Z)))) H locs := hW
  rw [← ea_3]
  refine va_putF (D := D) (ci := 10) (v := .ref (a_3 0)) (ty := .object "ReadingChart$Grammar") (C := RX10) (T := TX10) (N := 13) hx hb hts inlX10 tyX10 tyX10_ok nmX10 hown hK hW.1 hW.2.1 hW.2.2 24 rfl rfl 2 (by decide) (hts _ wm1_22) (fun _ h9 => h9) rfl hin (by decide +kernel) (by decide +kernel) rfl rfl (Nat.le_of_ble_eq_true rfl) dX10_init_34 (fun H locs hP hD hS => ?_)
  have hW : Wd D A s.heap (oc_X2 T a_3 z0 ++ (oc_X7 T a_2 z0 ++ (oc_X3 T a_1 z0 ++ ((h0, .inr (10, [.ref (a_1 0), .ref (a_2 0), .ref (a_3 0), .null, .null, .null, .null, .null, .null, .null, .null, .null, .int 0])) :: Z)))) H locs := ⟨hP, hD, hS⟩
  refine lv_aload_n hx hb dX10_init_37 rfl (lv_at hl 0 rfl) ?_
  refine va_new (ci := 5) (fs := [.int 0, .int 0, .int 0]) (C := RX5) (T := TX5) (N := 3) hx hb hts inlX5 tyX5 tyX5_ok hown (hts _ wm1_23) (hts _ wm2_0) (hts _ wm2_1) hK hW.1 hW.2.1 hW.2.2 hA rfl (fun j hj => by rcases (show j = 0 ∨ j = 1 ∨ j = 2 by omega) with rfl | rfl | rfl <;> rfl) (Nat.le_of_ble_eq_true rfl) (Nat.le_of_ble_eq_true rfl) dX10_init_38 (fun qn4 H hP hD hS => ?_)
  have hW : Wd D A s.heap ((qn4, .inr (5, [.int 0, .int 0, .int 0])) :: (oc_X2 T a_3 z0 ++ (oc_X7 T a_2 z0 ++ (oc_X3 T a_1 z0 ++ ((h0, .inr (10, [.ref (a_1 0), .ref (a_2 0), .ref (a_3 0), .null, .null, .null, .null, .null, .null, .null, .null, .null, .int 0])) :: Z))))) H locs := ⟨hP.perm (List.perm_append_singleton _ _), hD.perm (List.perm_append_singleton _ _), hS⟩
  refine lv_dup hx hb dX10_init_41 rfl ?_
  refine n_init (host := "ReadingChart") hx hb hml hown hts hK hN hA hW (i_X5 l D T A qn4 (oc_X2 T a_3 z0 ++ (oc_X7 T a_2 z0 ++ (oc_X3 T a_1 z0 ++ ((h0, .inr (10, [.ref (a_1 0), .ref (a_2 0), .ref (a_3 0), .null, .null, .null, .null, .null, .null, .null, .null, .null, .int 0])) :: Z))))) (hN.2 _ (List.mem_of_getElem? (i := 3) rfl)) wm4_16 wm2_1 wm4_17 rfl ⟨by decide +kernel, by decide +kernel, by decide +kernel⟩ ⟨Nat.le_of_ble_eq_true rfl, Nat.le_of_ble_eq_true rfl⟩ hl.1 (Nat.le_of_ble_eq_true rfl) dX10_init_42 ⟨Nat.le_of_ble_eq_true rfl, Nat.le_of_ble_eq_true rfl⟩ (fun a_4 H locs ha_4 hW => ?_)
  have ea_4 : a_4 0 = qn4 := ha_4
  have hW : Wd D A s.heap (oc_X5 T a_4 zX5 ++ (oc_X2 T a_3 z0 ++ (oc_X7 T a_2 z0 ++ (oc_X3 T a_1 z0 ++ ((h0, .inr (10, [.ref (a_1 0), .ref (a_2 0), .ref (a_3 0), .null, .null, .null, .null, .null, .null, .null, .null, .null, .int 0])) :: Z))))) H locs := hW
  rw [← ea_4]
  refine va_putF (D := D) (ci := 10) (v := .ref (a_4 0)) (ty := .object "ReadingChart$Referring") (C := RX10) (T := TX10) (N := 13) hx hb hts inlX10 tyX10 tyX10_ok nmX10 hown hK hW.1 hW.2.1 hW.2.2 25 rfl rfl 3 (by decide) (hts _ wm2_2) (fun _ h9 => h9) rfl hin (by decide +kernel) (by decide +kernel) rfl rfl (Nat.le_of_ble_eq_true rfl) dX10_init_45 (fun H locs hP hD hS => ?_)
  have hW : Wd D A s.heap (oc_X5 T a_4 zX5 ++ (oc_X2 T a_3 z0 ++ (oc_X7 T a_2 z0 ++ (oc_X3 T a_1 z0 ++ ((h0, .inr (10, [.ref (a_1 0), .ref (a_2 0), .ref (a_3 0), .ref (a_4 0), .null, .null, .null, .null, .null, .null, .null, .null, .int 0])) :: Z))))) H locs := ⟨hP, hD, hS⟩
  refine lv_aload_n hx hb dX10_init_48 rfl (lv_at hl 0 rfl) ?_
  refine va_new (ci := 4) (fs := []) (C := RX4) (T := TX4) (N := 0) hx hb hts inlX4 tyX4 tyX4_ok hown (hts _ wm2_3) (hts _ wm2_4) (hts _ wm2_5) hK hW.1 hW.2.1 hW.2.2 hA rfl (fun j hj => by omega) (Nat.le_of_ble_eq_true rfl) (Nat.le_of_ble_eq_true rfl) dX10_init_49 (fun qn5 H hP hD hS => ?_)
  have hW : Wd D A s.heap ((qn5, .inr (4, [])) :: (oc_X5 T a_4 zX5 ++ (oc_X2 T a_3 z0 ++ (oc_X7 T a_2 z0 ++ (oc_X3 T a_1 z0 ++ ((h0, .inr (10, [.ref (a_1 0), .ref (a_2 0), .ref (a_3 0), .ref (a_4 0), .null, .null, .null, .null, .null, .null, .null, .null, .int 0])) :: Z)))))) H locs := ⟨hP.perm (List.perm_append_singleton _ _), hD.perm (List.perm_append_singleton _ _), hS⟩
  refine lv_dup hx hb dX10_init_52 rfl ?_
  refine n_init (host := "ReadingChart") hx hb hml hown hts hK hN hA hW (i_X4 l D T A qn5 (oc_X5 T a_4 zX5 ++ (oc_X2 T a_3 z0 ++ (oc_X7 T a_2 z0 ++ (oc_X3 T a_1 z0 ++ ((h0, .inr (10, [.ref (a_1 0), .ref (a_2 0), .ref (a_3 0), .ref (a_4 0), .null, .null, .null, .null, .null, .null, .null, .null, .int 0])) :: Z)))))) (hN.2 _ (List.mem_of_getElem? (i := 4) rfl)) wm4_22 wm2_5 wm4_23 rfl ⟨by decide +kernel, by decide +kernel, by decide +kernel⟩ ⟨Nat.le_of_ble_eq_true rfl, Nat.le_of_ble_eq_true rfl⟩ hl.1 (Nat.le_of_ble_eq_true rfl) dX10_init_53 ⟨Nat.le_of_ble_eq_true rfl, Nat.le_of_ble_eq_true rfl⟩ (fun a_5 H locs ha_5 hW => ?_)
  have ea_5 : a_5 0 = qn5 := ha_5
  have hW : Wd D A s.heap (oc_X4 T a_5 z0 ++ (oc_X5 T a_4 zX5 ++ (oc_X2 T a_3 z0 ++ (oc_X7 T a_2 z0 ++ (oc_X3 T a_1 z0 ++ ((h0, .inr (10, [.ref (a_1 0), .ref (a_2 0), .ref (a_3 0), .ref (a_4 0), .null, .null, .null, .null, .null, .null, .null, .null, .int 0])) :: Z)))))) H locs := hW
  rw [← ea_5]
  refine va_putF (D := D) (ci := 10) (v := .ref (a_5 0)) (ty := .object "ReadingChart$Reader") (C := RX10) (T := TX10) (N := 13) hx hb hts inlX10 tyX10 tyX10_ok nmX10 hown hK hW.1 hW.2.1 hW.2.2 26 rfl rfl 4 (by decide) (hts _ wm2_6) (fun _ h9 => h9) rfl hin (by decide +kernel) (by decide +kernel) rfl rfl (Nat.le_of_ble_eq_true rfl) dX10_init_56 (fun H locs hP hD hS => ?_)
  have hW : Wd D A s.heap (oc_X4 T a_5 z0 ++ (oc_X5 T a_4 zX5 ++ (oc_X2 T a_3 z0 ++ (oc_X7 T a_2 z0 ++ (oc_X3 T a_1 z0 ++ ((h0, .inr (10, [.ref (a_1 0), .ref (a_2 0), .ref (a_3 0), .ref (a_4 0), .ref (a_5 0), .null, .null, .null, .null, .null, .null, .null, .int 0])) :: Z)))))) H locs := ⟨hP, hD, hS⟩
  refine lv_aload_n hx hb dX10_init_59 rfl (lv_at hl 0 rfl) ?_
  refine va_new (ci := 9) (fs := [.int 0, .null, .null, .null, .null]) (C := RX9) (T := TX9) (N := 5) hx hb hts inlX9 tyX9 tyX9_ok hown (hts _ wm2_7) (hts _ wm2_8) (hts _ wm2_9) hK hW.1 hW.2.1 hW.2.2 hA rfl (fun j hj => by rcases (show j = 0 ∨ j = 1 ∨ j = 2 ∨ j = 3 ∨ j = 4 by omega) with rfl | rfl | rfl | rfl | rfl <;> rfl) (Nat.le_of_ble_eq_true rfl) (Nat.le_of_ble_eq_true rfl) dX10_init_60 (fun qn6 H hP hD hS => ?_)
  have hW : Wd D A s.heap ((qn6, .inr (9, [.int 0, .null, .null, .null, .null])) :: (oc_X4 T a_5 z0 ++ (oc_X5 T a_4 zX5 ++ (oc_X2 T a_3 z0 ++ (oc_X7 T a_2 z0 ++ (oc_X3 T a_1 z0 ++ ((h0, .inr (10, [.ref (a_1 0), .ref (a_2 0), .ref (a_3 0), .ref (a_4 0), .ref (a_5 0), .null, .null, .null, .null, .null, .null, .null, .int 0])) :: Z))))))) H locs := ⟨hP.perm (List.perm_append_singleton _ _), hD.perm (List.perm_append_singleton _ _), hS⟩
  refine lv_dup hx hb dX10_init_63 rfl ?_
  refine n_init (host := "ReadingChart") hx hb hml hown hts hK hN hA hW (i_X9 l D T A qn6 (oc_X4 T a_5 z0 ++ (oc_X5 T a_4 zX5 ++ (oc_X2 T a_3 z0 ++ (oc_X7 T a_2 z0 ++ (oc_X3 T a_1 z0 ++ ((h0, .inr (10, [.ref (a_1 0), .ref (a_2 0), .ref (a_3 0), .ref (a_4 0), .ref (a_5 0), .null, .null, .null, .null, .null, .null, .null, .int 0])) :: Z))))))) (hN.2 _ (List.mem_of_getElem? (i := 5) rfl)) wm5_1 wm2_9 wm5_2 rfl ⟨by decide +kernel, by decide +kernel, by decide +kernel⟩ ⟨Nat.le_of_ble_eq_true rfl, Nat.le_of_ble_eq_true rfl⟩ hl.1 (Nat.le_of_ble_eq_true rfl) dX10_init_64 ⟨Nat.le_of_ble_eq_true rfl, Nat.le_of_ble_eq_true rfl⟩ (fun a_6 H locs ha_6 hW => ?_)
  have ea_6 : a_6 0 = qn6 := ha_6
  have hW : Wd D A s.heap (oc_X9 T a_6 z0 ++ (oc_X4 T a_5 z0 ++ (oc_X5 T a_4 zX5 ++ (oc_X2 T a_3 z0 ++ (oc_X7 T a_2 z0 ++ (oc_X3 T a_1 z0 ++ ((h0, .inr (10, [.ref (a_1 0), .ref (a_2 0), .ref (a_3 0), .ref (a_4 0), .ref (a_5 0), .null, .null, .null, .null, .null, .null, .null, .int 0])) :: Z))))))) H locs := hW
  rw [← ea_6]
  refine va_putF (D := D) (ci := 10) (v := .ref (a_6 0)) (ty := .object "ReadingChart$Tree") (C := RX10) (T := TX10) (N := 13) hx hb hts inlX10 tyX10 tyX10_ok nmX10 hown hK hW.1 hW.2.1 hW.2.2 31 rfl rfl 5 (by decide) (hts _ wm2_10) (fun _ h9 => h9) rfl hin (by decide +kernel) (by decide +kernel) rfl rfl (Nat.le_of_ble_eq_true rfl) dX10_init_67 (fun H locs hP hD hS => ?_)
  have hW : Wd D A s.heap (oc_X9 T a_6 z0 ++ (oc_X4 T a_5 z0 ++ (oc_X5 T a_4 zX5 ++ (oc_X2 T a_3 z0 ++ (oc_X7 T a_2 z0 ++ (oc_X3 T a_1 z0 ++ ((h0, .inr (10, [.ref (a_1 0), .ref (a_2 0), .ref (a_3 0), .ref (a_4 0), .ref (a_5 0), .ref (a_6 0), .null, .null, .null, .null, .null, .null, .int 0])) :: Z))))))) H locs := ⟨hP, hD, hS⟩
  refine lv_aload_n hx hb dX10_init_70 rfl (lv_at hl 0 rfl) ?_
  refine va_new (ci := 1) (fs := [.int 0, .null, .null, .null]) (C := RX1) (T := TX1) (N := 4) hx hb hts inlX1 tyX1 tyX1_ok hown (hts _ wm2_11) (hts _ wm2_12) (hts _ wm2_13) hK hW.1 hW.2.1 hW.2.2 hA rfl (fun j hj => by rcases (show j = 0 ∨ j = 1 ∨ j = 2 ∨ j = 3 by omega) with rfl | rfl | rfl | rfl <;> rfl) (Nat.le_of_ble_eq_true rfl) (Nat.le_of_ble_eq_true rfl) dX10_init_71 (fun qn7 H hP hD hS => ?_)
  have hW : Wd D A s.heap ((qn7, .inr (1, [.int 0, .null, .null, .null])) :: (oc_X9 T a_6 z0 ++ (oc_X4 T a_5 z0 ++ (oc_X5 T a_4 zX5 ++ (oc_X2 T a_3 z0 ++ (oc_X7 T a_2 z0 ++ (oc_X3 T a_1 z0 ++ ((h0, .inr (10, [.ref (a_1 0), .ref (a_2 0), .ref (a_3 0), .ref (a_4 0), .ref (a_5 0), .ref (a_6 0), .null, .null, .null, .null, .null, .null, .int 0])) :: Z)))))))) H locs := ⟨hP.perm (List.perm_append_singleton _ _), hD.perm (List.perm_append_singleton _ _), hS⟩
  refine lv_dup hx hb dX10_init_74 rfl ?_
  refine n_init (host := "ReadingChart") hx hb hml hown hts hK hN hA hW (i_X1 l D T A qn7 (oc_X9 T a_6 z0 ++ (oc_X4 T a_5 z0 ++ (oc_X5 T a_4 zX5 ++ (oc_X2 T a_3 z0 ++ (oc_X7 T a_2 z0 ++ (oc_X3 T a_1 z0 ++ ((h0, .inr (10, [.ref (a_1 0), .ref (a_2 0), .ref (a_3 0), .ref (a_4 0), .ref (a_5 0), .ref (a_6 0), .null, .null, .null, .null, .null, .null, .int 0])) :: Z)))))))) (hN.2 _ (List.mem_of_getElem? (i := 6) rfl)) wm5_9 wm2_13 wm5_10 rfl ⟨by decide +kernel, by decide +kernel, by decide +kernel⟩ ⟨Nat.le_of_ble_eq_true rfl, Nat.le_of_ble_eq_true rfl⟩ hl.1 (Nat.le_of_ble_eq_true rfl) dX10_init_75 ⟨Nat.le_of_ble_eq_true rfl, Nat.le_of_ble_eq_true rfl⟩ (fun a_7 H locs ha_7 hW => ?_)
  have ea_7 : a_7 0 = qn7 := ha_7
  have hW : Wd D A s.heap (oc_X1 T a_7 z0 ++ (oc_X9 T a_6 z0 ++ (oc_X4 T a_5 z0 ++ (oc_X5 T a_4 zX5 ++ (oc_X2 T a_3 z0 ++ (oc_X7 T a_2 z0 ++ (oc_X3 T a_1 z0 ++ ((h0, .inr (10, [.ref (a_1 0), .ref (a_2 0), .ref (a_3 0), .ref (a_4 0), .ref (a_5 0), .ref (a_6 0), .null, .null, .null, .null, .null, .null, .int 0])) :: Z)))))))) H locs := hW
  rw [← ea_7]
  refine va_putF (D := D) (ci := 10) (v := .ref (a_7 0)) (ty := .object "ReadingChart$Fragments") (C := RX10) (T := TX10) (N := 13) hx hb hts inlX10 tyX10 tyX10_ok nmX10 hown hK hW.1 hW.2.1 hW.2.2 35 rfl rfl 6 (by decide) (hts _ wm2_14) (fun _ h9 => h9) rfl hin (by decide +kernel) (by decide +kernel) rfl rfl (Nat.le_of_ble_eq_true rfl) dX10_init_78 (fun H locs hP hD hS => ?_)
  have hW : Wd D A s.heap (oc_X1 T a_7 z0 ++ (oc_X9 T a_6 z0 ++ (oc_X4 T a_5 z0 ++ (oc_X5 T a_4 zX5 ++ (oc_X2 T a_3 z0 ++ (oc_X7 T a_2 z0 ++ (oc_X3 T a_1 z0 ++ ((h0, .inr (10, [.ref (a_1 0), .ref (a_2 0), .ref (a_3 0), .ref (a_4 0), .ref (a_5 0), .ref (a_6 0), .ref (a_7 0), .null, .null, .null, .null, .null, .int 0])) :: Z)))))))) H locs := ⟨hP, hD, hS⟩
  refine lv_aload_n hx hb dX10_init_81 rfl (lv_at hl 0 rfl) ?_
  refine va_new (ci := 8) (fs := [.int 0, .null, .null, .null, .null]) (C := RX8) (T := TX8) (N := 5) hx hb hts inlX8 tyX8 tyX8_ok hown (hts _ wm2_15) (hts _ wm2_16) (hts _ wm2_17) hK hW.1 hW.2.1 hW.2.2 hA rfl (fun j hj => by rcases (show j = 0 ∨ j = 1 ∨ j = 2 ∨ j = 3 ∨ j = 4 by omega) with rfl | rfl | rfl | rfl | rfl <;> rfl) (Nat.le_of_ble_eq_true rfl) (Nat.le_of_ble_eq_true rfl) dX10_init_82 (fun qn8 H hP hD hS => ?_)
  have hW : Wd D A s.heap ((qn8, .inr (8, [.int 0, .null, .null, .null, .null])) :: (oc_X1 T a_7 z0 ++ (oc_X9 T a_6 z0 ++ (oc_X4 T a_5 z0 ++ (oc_X5 T a_4 zX5 ++ (oc_X2 T a_3 z0 ++ (oc_X7 T a_2 z0 ++ (oc_X3 T a_1 z0 ++ ((h0, .inr (10, [.ref (a_1 0), .ref (a_2 0), .ref (a_3 0), .ref (a_4 0), .ref (a_5 0), .ref (a_6 0), .ref (a_7 0), .null, .null, .null, .null, .null, .int 0])) :: Z))))))))) H locs := ⟨hP.perm (List.perm_append_singleton _ _), hD.perm (List.perm_append_singleton _ _), hS⟩
  refine lv_dup hx hb dX10_init_85 rfl ?_
  refine n_init (host := "ReadingChart") hx hb hml hown hts hK hN hA hW (i_X8 l D T A qn8 (oc_X1 T a_7 z0 ++ (oc_X9 T a_6 z0 ++ (oc_X4 T a_5 z0 ++ (oc_X5 T a_4 zX5 ++ (oc_X2 T a_3 z0 ++ (oc_X7 T a_2 z0 ++ (oc_X3 T a_1 z0 ++ ((h0, .inr (10, [.ref (a_1 0), .ref (a_2 0), .ref (a_3 0), .ref (a_4 0), .ref (a_5 0), .ref (a_6 0), .ref (a_7 0), .null, .null, .null, .null, .null, .int 0])) :: Z))))))))) (hN.2 _ (List.mem_of_getElem? (i := 7) rfl)) wm5_16 wm2_17 wm5_17 rfl ⟨by decide +kernel, by decide +kernel, by decide +kernel⟩ ⟨Nat.le_of_ble_eq_true rfl, Nat.le_of_ble_eq_true rfl⟩ hl.1 (Nat.le_of_ble_eq_true rfl) dX10_init_86 ⟨Nat.le_of_ble_eq_true rfl, Nat.le_of_ble_eq_true rfl⟩ (fun a_8 H locs ha_8 hW => ?_)
  have ea_8 : a_8 0 = qn8 := ha_8
  have hW : Wd D A s.heap (oc_X8 T a_8 z0 ++ (oc_X1 T a_7 z0 ++ (oc_X9 T a_6 z0 ++ (oc_X4 T a_5 z0 ++ (oc_X5 T a_4 zX5 ++ (oc_X2 T a_3 z0 ++ (oc_X7 T a_2 z0 ++ (oc_X3 T a_1 z0 ++ ((h0, .inr (10, [.ref (a_1 0), .ref (a_2 0), .ref (a_3 0), .ref (a_4 0), .ref (a_5 0), .ref (a_6 0), .ref (a_7 0), .null, .null, .null, .null, .null, .int 0])) :: Z))))))))) H locs := hW
  rw [← ea_8]
  refine va_putF (D := D) (ci := 10) (v := .ref (a_8 0)) (ty := .object "ReadingChart$Style") (C := RX10) (T := TX10) (N := 13) hx hb hts inlX10 tyX10 tyX10_ok nmX10 hown hK hW.1 hW.2.1 hW.2.2 40 rfl rfl 7 (by decide) (hts _ wm2_18) (fun _ h9 => h9) rfl hin (by decide +kernel) (by decide +kernel) rfl rfl (Nat.le_of_ble_eq_true rfl) dX10_init_89 (fun H locs hP hD hS => ?_)
  have hW : Wd D A s.heap (oc_X8 T a_8 z0 ++ (oc_X1 T a_7 z0 ++ (oc_X9 T a_6 z0 ++ (oc_X4 T a_5 z0 ++ (oc_X5 T a_4 zX5 ++ (oc_X2 T a_3 z0 ++ (oc_X7 T a_2 z0 ++ (oc_X3 T a_1 z0 ++ ((h0, .inr (10, [.ref (a_1 0), .ref (a_2 0), .ref (a_3 0), .ref (a_4 0), .ref (a_5 0), .ref (a_6 0), .ref (a_7 0), .ref (a_8 0), .null, .null, .null, .null, .int 0])) :: Z))))))))) H locs := ⟨hP, hD, hS⟩
  refine lv_aload_n hx hb dX10_init_92 rfl (lv_at hl 0 rfl) ?_
  refine lv_iconst (v := 4) hx hb dX10_init_93 (by decide) ?_
  refine n_newq hx hb hown hts hO hK hA hW (Nat.le_of_ble_eq_true rfl) (Nat.le_of_ble_eq_true rfl) dX10_init_94 (fun qn9 H hW => ?_)
  refine va_putF (D := D) (ci := 10) (v := .ref qn9) (ty := .array (.object "ReadingChart$Sentence")) (C := RX10) (T := TX10) (N := 13) hx hb hts inlX10 tyX10 tyX10_ok nmX10 hown hK hW.1 hW.2.1 hW.2.2 41 rfl rfl 8 (by decide) (hts _ wm2_20) (fun _ h9 => h9) rfl hin (by decide +kernel) (by decide +kernel) rfl rfl (Nat.le_of_ble_eq_true rfl) dX10_init_97 (fun H locs hP hD hS => ?_)
  have hW : Wd D A s.heap ((qn9, .inl (T 2, 4, .inr (.inr (.inr (.inr (fun _ => none)))))) :: (oc_X8 T a_8 z0 ++ (oc_X1 T a_7 z0 ++ (oc_X9 T a_6 z0 ++ (oc_X4 T a_5 z0 ++ (oc_X5 T a_4 zX5 ++ (oc_X2 T a_3 z0 ++ (oc_X7 T a_2 z0 ++ (oc_X3 T a_1 z0 ++ ((h0, .inr (10, [.ref (a_1 0), .ref (a_2 0), .ref (a_3 0), .ref (a_4 0), .ref (a_5 0), .ref (a_6 0), .ref (a_7 0), .ref (a_8 0), .ref qn9, .null, .null, .null, .int 0])) :: Z)))))))))) H locs := ⟨hP, hD, hS⟩
  refine lv_aload_n hx hb dX10_init_100 rfl (lv_at hl 0 rfl) ?_
  refine va_new (ci := 6) (fs := [.int 0, .null, .null, .null, .null, .null, .null, .int 0, .int 0]) (C := RX6) (T := TX6) (N := 9) hx hb hts inlX6 tyX6 tyX6_ok hown (hts _ wm2_19) (hts _ wm2_21) (hts _ wm2_22) hK hW.1 hW.2.1 hW.2.2 hA rfl (fun j hj => by rcases (show j = 0 ∨ j = 1 ∨ j = 2 ∨ j = 3 ∨ j = 4 ∨ j = 5 ∨ j = 6 ∨ j = 7 ∨ j = 8 by omega) with rfl | rfl | rfl | rfl | rfl | rfl | rfl | rfl | rfl <;> rfl) (Nat.le_of_ble_eq_true rfl) (Nat.le_of_ble_eq_true rfl) dX10_init_101 (fun qn10 H hP hD hS => ?_)
  have hW : Wd D A s.heap ((qn10, .inr (6, [.int 0, .null, .null, .null, .null, .null, .null, .int 0, .int 0])) :: ((qn9, .inl (T 2, 4, .inr (.inr (.inr (.inr (fun _ => none)))))) :: (oc_X8 T a_8 z0 ++ (oc_X1 T a_7 z0 ++ (oc_X9 T a_6 z0 ++ (oc_X4 T a_5 z0 ++ (oc_X5 T a_4 zX5 ++ (oc_X2 T a_3 z0 ++ (oc_X7 T a_2 z0 ++ (oc_X3 T a_1 z0 ++ ((h0, .inr (10, [.ref (a_1 0), .ref (a_2 0), .ref (a_3 0), .ref (a_4 0), .ref (a_5 0), .ref (a_6 0), .ref (a_7 0), .ref (a_8 0), .ref qn9, .null, .null, .null, .int 0])) :: Z))))))))))) H locs := ⟨hP.perm (List.perm_append_singleton _ _), hD.perm (List.perm_append_singleton _ _), hS⟩
  refine lv_dup hx hb dX10_init_104 rfl ?_
  refine n_init (host := "ReadingChart") hx hb hml hown hts hK hN hA hW (i_X6 l D T A qn10 ((qn9, .inl (T 2, 4, .inr (.inr (.inr (.inr (fun _ => none)))))) :: (oc_X8 T a_8 z0 ++ (oc_X1 T a_7 z0 ++ (oc_X9 T a_6 z0 ++ (oc_X4 T a_5 z0 ++ (oc_X5 T a_4 zX5 ++ (oc_X2 T a_3 z0 ++ (oc_X7 T a_2 z0 ++ (oc_X3 T a_1 z0 ++ ((h0, .inr (10, [.ref (a_1 0), .ref (a_2 0), .ref (a_3 0), .ref (a_4 0), .ref (a_5 0), .ref (a_6 0), .ref (a_7 0), .ref (a_8 0), .ref qn9, .null, .null, .null, .int 0])) :: Z))))))))))) (hN.2 _ (List.mem_of_getElem? (i := 8) rfl)) wm6_0 wm2_22 wm6_1 rfl ⟨by decide +kernel, by decide +kernel, by decide +kernel⟩ ⟨Nat.le_of_ble_eq_true rfl, Nat.le_of_ble_eq_true rfl⟩ hl.1 (Nat.le_of_ble_eq_true rfl) dX10_init_105 ⟨Nat.le_of_ble_eq_true rfl, Nat.le_of_ble_eq_true rfl⟩ (fun a_10 H locs ha_10 hW => ?_)
  obtain ⟨a_10, b_10⟩ := a_10
  have ea_10 : a_10 0 = qn10 := ha_10.1
  have ga_10 : a_10 106 = b_10 0 := ha_10.2
  have hW : Wd D A s.heap (oc_X6 T a_10 zX6 ++ (oc_X0 T b_10 z0 ++ ((qn9, .inl (T 2, 4, .inr (.inr (.inr (.inr (fun _ => none)))))) :: (oc_X8 T a_8 z0 ++ (oc_X1 T a_7 z0 ++ (oc_X9 T a_6 z0 ++ (oc_X4 T a_5 z0 ++ (oc_X5 T a_4 zX5 ++ (oc_X2 T a_3 z0 ++ (oc_X7 T a_2 z0 ++ (oc_X3 T a_1 z0 ++ ((h0, .inr (10, [.ref (a_1 0), .ref (a_2 0), .ref (a_3 0), .ref (a_4 0), .ref (a_5 0), .ref (a_6 0), .ref (a_7 0), .ref (a_8 0), .ref qn9, .null, .null, .null, .int 0])) :: Z)))))))))))) H locs := hW
  rw [← ea_10]
  refine va_putF (D := D) (ci := 10) (v := .ref (a_10 0)) (ty := .object "ReadingChart$Sentence") (C := RX10) (T := TX10) (N := 13) hx hb hts inlX10 tyX10 tyX10_ok nmX10 hown hK hW.1 hW.2.1 hW.2.2 56 rfl rfl 9 (by decide) (hts _ wm2_23) (fun _ h9 => h9) rfl hin (by decide +kernel) (by decide +kernel) rfl rfl (Nat.le_of_ble_eq_true rfl) dX10_init_108 (fun H locs hP hD hS => ?_)
  have hW : Wd D A s.heap (oc_X6 T a_10 zX6 ++ (oc_X0 T b_10 z0 ++ ((qn9, .inl (T 2, 4, .inr (.inr (.inr (.inr (fun _ => none)))))) :: (oc_X8 T a_8 z0 ++ (oc_X1 T a_7 z0 ++ (oc_X9 T a_6 z0 ++ (oc_X4 T a_5 z0 ++ (oc_X5 T a_4 zX5 ++ (oc_X2 T a_3 z0 ++ (oc_X7 T a_2 z0 ++ (oc_X3 T a_1 z0 ++ ((h0, .inr (10, [.ref (a_1 0), .ref (a_2 0), .ref (a_3 0), .ref (a_4 0), .ref (a_5 0), .ref (a_6 0), .ref (a_7 0), .ref (a_8 0), .ref qn9, .ref (a_10 0), .null, .null, .int 0])) :: Z)))))))))))) H locs := ⟨hP, hD, hS⟩
  refine lv_aload_n hx hb dX10_init_111 rfl (lv_at hl 0 rfl) ?_
  refine lv_bipush (v := 6) hx hb dX10_init_112 (by decide) ?_
  refine n_newa hx hb hts hK hA hW 6 (by decide) (by decide) (by decide) (Nat.le_of_ble_eq_true rfl) (Nat.le_of_ble_eq_true rfl) dX10_init_114 (fun qn11 H hW => ?_)
  refine va_putF (D := D) (ci := 10) (v := .ref qn11) (ty := .array .int) (C := RX10) (T := TX10) (N := 13) hx hb hts inlX10 tyX10 tyX10_ok nmX10 hown hK hW.1 hW.2.1 hW.2.2 57 rfl rfl 10 (by decide) (hts _ wm3_0) (fun _ h9 => h9) rfl hin (by decide +kernel) (by decide +kernel) rfl rfl (Nat.le_of_ble_eq_true rfl) dX10_init_116 (fun H locs hP hD hS => ?_)
  have hW : Wd D A s.heap ((qn11, .inl (T 0, 6, .inl (fun _ => 0))) :: (oc_X6 T a_10 zX6 ++ (oc_X0 T b_10 z0 ++ ((qn9, .inl (T 2, 4, .inr (.inr (.inr (.inr (fun _ => none)))))) :: (oc_X8 T a_8 z0 ++ (oc_X1 T a_7 z0 ++ (oc_X9 T a_6 z0 ++ (oc_X4 T a_5 z0 ++ (oc_X5 T a_4 zX5 ++ (oc_X2 T a_3 z0 ++ (oc_X7 T a_2 z0 ++ (oc_X3 T a_1 z0 ++ ((h0, .inr (10, [.ref (a_1 0), .ref (a_2 0), .ref (a_3 0), .ref (a_4 0), .ref (a_5 0), .ref (a_6 0), .ref (a_7 0), .ref (a_8 0), .ref qn9, .ref (a_10 0), .ref qn11, .null, .int 0])) :: Z))))))))))))) H locs := ⟨hP, hD, hS⟩
  refine lv_aload_n hx hb dX10_init_119 rfl (lv_at hl 0 rfl) ?_
  refine lv_iconst (v := 2) hx hb dX10_init_120 (by decide) ?_
  refine n_newa hx hb hts hK hA hW 2 (by decide) (by decide) (by decide) (Nat.le_of_ble_eq_true rfl) (Nat.le_of_ble_eq_true rfl) dX10_init_121 (fun qn12 H hW => ?_)
  refine va_putF (D := D) (ci := 10) (v := .ref qn12) (ty := .array .int) (C := RX10) (T := TX10) (N := 13) hx hb hts inlX10 tyX10 tyX10_ok nmX10 hown hK hW.1 hW.2.1 hW.2.2 58 rfl rfl 11 (by decide) (hts _ wm3_1) (fun _ h9 => h9) rfl hin (by decide +kernel) (by decide +kernel) rfl rfl (Nat.le_of_ble_eq_true rfl) dX10_init_123 (fun H locs hP hD hS => ?_)
  have hW : Wd D A s.heap ((qn12, .inl (T 0, 2, .inl (fun _ => 0))) :: ((qn11, .inl (T 0, 6, .inl (fun _ => 0))) :: (oc_X6 T a_10 zX6 ++ (oc_X0 T b_10 z0 ++ ((qn9, .inl (T 2, 4, .inr (.inr (.inr (.inr (fun _ => none)))))) :: (oc_X8 T a_8 z0 ++ (oc_X1 T a_7 z0 ++ (oc_X9 T a_6 z0 ++ (oc_X4 T a_5 z0 ++ (oc_X5 T a_4 zX5 ++ (oc_X2 T a_3 z0 ++ (oc_X7 T a_2 z0 ++ (oc_X3 T a_1 z0 ++ ((h0, .inr (10, [.ref (a_1 0), .ref (a_2 0), .ref (a_3 0), .ref (a_4 0), .ref (a_5 0), .ref (a_6 0), .ref (a_7 0), .ref (a_8 0), .ref qn9, .ref (a_10 0), .ref qn11, .ref qn12, .int 0])) :: Z)))))))))))))) H locs := ⟨hP, hD, hS⟩
  refine lv_aload_n hx hb dX10_init_126 rfl (lv_at hl 0 rfl) ?_
  refine lv_iconst (v := 0) hx hb dX10_init_127 (by decide) ?_
  refine va_put (D := D) (ci := 10) (v := .int 0) (ty := .int) (C := RX10) (T := TX10) (N := 13) hx hb hts inlX10 tyX10 tyX10_ok nmX10 hown hK hW.1 hW.2.1 hW.2.2 58 rfl rfl 12 (by decide) (hts _ wm3_2) (fun _ h9 => h9) rfl (by decide +kernel) rfl rfl (Nat.le_of_ble_eq_true rfl) dX10_init_128 (fun H locs hP hD hS => ?_)
  have hW : Wd D A s.heap ((qn12, .inl (T 0, 2, .inl (fun _ => 0))) :: ((qn11, .inl (T 0, 6, .inl (fun _ => 0))) :: (oc_X6 T a_10 zX6 ++ (oc_X0 T b_10 z0 ++ ((qn9, .inl (T 2, 4, .inr (.inr (.inr (.inr (fun _ => none)))))) :: (oc_X8 T a_8 z0 ++ (oc_X1 T a_7 z0 ++ (oc_X9 T a_6 z0 ++ (oc_X4 T a_5 z0 ++ (oc_X5 T a_4 zX5 ++ (oc_X2 T a_3 z0 ++ (oc_X7 T a_2 z0 ++ (oc_X3 T a_1 z0 ++ ((h0, .inr (10, [.ref (a_1 0), .ref (a_2 0), .ref (a_3 0), .ref (a_4 0), .ref (a_5 0), .ref (a_6 0), .ref (a_7 0), .ref (a_8 0), .ref qn9, .ref (a_10 0), .ref qn11, .ref qn12, .int 0])) :: Z)))))))))))))) H locs := ⟨hP, hD, hS⟩
  refine lv_iconst (v := 0) hx hb dX10_init_131 (by decide) ?_
  refine lv_istore_n (lv' := [(1, .int 0), (0, .ref h0)]) hx hb dX10_init_132 rfl hl (by decide) rfl (fun ls hl => ?_)
  refine lv_iload_n hx hb dX10_init_133 rfl (lv_at hl 0 rfl) ?_
  refine lv_iconst (v := 4) hx hb dX10_init_134 (by decide) ?_
  refine lv_icmp_ge (tgt := 157) hx hb dX10_init_135 (by decide) (fun c9 => ?_) (fun c9 => ?_)
  · exact absurd c9 (by decide)
  refine lv_aload_n hx hb dX10_init_138 rfl (lv_at hl 1 rfl) ?_
  refine va_get (D := D) (ci := 10) (v := .ref qn9) (C := RX10) (T := TX10) (N := 13) hx hb hts inlX10 hown hK hW.1 58 rfl rfl 8 (by decide) (hts _ wm2_20) (fun _ h9 => h9) rfl dX10_init_139 ?_
  refine lv_iload_n hx hb dX10_init_142 rfl (lv_at hl 0 rfl) ?_
  refine va_new (ci := 6) (fs := [.int 0, .null, .null, .null, .null, .null, .null, .int 0, .int 0]) (C := RX6) (T := TX6) (N := 9) hx hb hts inlX6 tyX6 tyX6_ok hown (hts _ wm2_19) (hts _ wm2_21) (hts _ wm2_22) hK hW.1 hW.2.1 hW.2.2 hA rfl (fun j hj => by rcases (show j = 0 ∨ j = 1 ∨ j = 2 ∨ j = 3 ∨ j = 4 ∨ j = 5 ∨ j = 6 ∨ j = 7 ∨ j = 8 by omega) with rfl | rfl | rfl | rfl | rfl | rfl | rfl | rfl | rfl <;> rfl) (Nat.le_of_ble_eq_true rfl) (Nat.le_of_ble_eq_true rfl) dX10_init_143 (fun qn13 H hP hD hS => ?_)
  have hW : Wd D A s.heap ((qn13, .inr (6, [.int 0, .null, .null, .null, .null, .null, .null, .int 0, .int 0])) :: ((qn12, .inl (T 0, 2, .inl (fun _ => 0))) :: ((qn11, .inl (T 0, 6, .inl (fun _ => 0))) :: (oc_X6 T a_10 zX6 ++ (oc_X0 T b_10 z0 ++ ((qn9, .inl (T 2, 4, .inr (.inr (.inr (.inr (fun _ => none)))))) :: (oc_X8 T a_8 z0 ++ (oc_X1 T a_7 z0 ++ (oc_X9 T a_6 z0 ++ (oc_X4 T a_5 z0 ++ (oc_X5 T a_4 zX5 ++ (oc_X2 T a_3 z0 ++ (oc_X7 T a_2 z0 ++ (oc_X3 T a_1 z0 ++ ((h0, .inr (10, [.ref (a_1 0), .ref (a_2 0), .ref (a_3 0), .ref (a_4 0), .ref (a_5 0), .ref (a_6 0), .ref (a_7 0), .ref (a_8 0), .ref qn9, .ref (a_10 0), .ref qn11, .ref qn12, .int 0])) :: Z))))))))))))))) H locs := ⟨hP.perm (List.perm_append_singleton _ _), hD.perm (List.perm_append_singleton _ _), hS⟩
  refine lv_dup hx hb dX10_init_146 rfl ?_
  refine n_init (host := "ReadingChart") hx hb hml hown hts hK hN hA hW (i_X6 l D T A qn13 ((qn12, .inl (T 0, 2, .inl (fun _ => 0))) :: ((qn11, .inl (T 0, 6, .inl (fun _ => 0))) :: (oc_X6 T a_10 zX6 ++ (oc_X0 T b_10 z0 ++ ((qn9, .inl (T 2, 4, .inr (.inr (.inr (.inr (fun _ => none)))))) :: (oc_X8 T a_8 z0 ++ (oc_X1 T a_7 z0 ++ (oc_X9 T a_6 z0 ++ (oc_X4 T a_5 z0 ++ (oc_X5 T a_4 zX5 ++ (oc_X2 T a_3 z0 ++ (oc_X7 T a_2 z0 ++ (oc_X3 T a_1 z0 ++ ((h0, .inr (10, [.ref (a_1 0), .ref (a_2 0), .ref (a_3 0), .ref (a_4 0), .ref (a_5 0), .ref (a_6 0), .ref (a_7 0), .ref (a_8 0), .ref qn9, .ref (a_10 0), .ref qn11, .ref qn12, .int 0])) :: Z))))))))))))))) (hN.2 _ (List.mem_of_getElem? (i := 8) rfl)) wm6_0 wm2_22 wm6_1 rfl ⟨by decide +kernel, by decide +kernel, by decide +kernel⟩ ⟨Nat.le_of_ble_eq_true rfl, Nat.le_of_ble_eq_true rfl⟩ hl.1 (Nat.le_of_ble_eq_true rfl) dX10_init_147 ⟨Nat.le_of_ble_eq_true rfl, Nat.le_of_ble_eq_true rfl⟩ (fun a_13 H locs ha_13 hW => ?_)
  obtain ⟨a_13, b_13⟩ := a_13
  have ea_13 : a_13 0 = qn13 := ha_13.1
  have ga_13 : a_13 106 = b_13 0 := ha_13.2
  have hW : Wd D A s.heap (oc_X6 T a_13 zX6 ++ (oc_X0 T b_13 z0 ++ ((qn12, .inl (T 0, 2, .inl (fun _ => 0))) :: ((qn11, .inl (T 0, 6, .inl (fun _ => 0))) :: (oc_X6 T a_10 zX6 ++ (oc_X0 T b_10 z0 ++ ((qn9, .inl (T 2, 4, .inr (.inr (.inr (.inr (fun _ => none)))))) :: (oc_X8 T a_8 z0 ++ (oc_X1 T a_7 z0 ++ (oc_X9 T a_6 z0 ++ (oc_X4 T a_5 z0 ++ (oc_X5 T a_4 zX5 ++ (oc_X2 T a_3 z0 ++ (oc_X7 T a_2 z0 ++ (oc_X3 T a_1 z0 ++ ((h0, .inr (10, [.ref (a_1 0), .ref (a_2 0), .ref (a_3 0), .ref (a_4 0), .ref (a_5 0), .ref (a_6 0), .ref (a_7 0), .ref (a_8 0), .ref qn9, .ref (a_10 0), .ref qn11, .ref qn12, .int 0])) :: Z)))))))))))))))) H locs := hW
  rw [← ea_13]
  refine va_astq (D := D) (r := (RX6, TX6, 9)) hx hb hK hW.1 hW.2.1 hW.2.2 32 2 0 6 rfl rfl rfl rfl (gd_in (by decide)) dX10_init_150 (fun H locs hP hD hS => ?_)
  have hW : Wd D A s.heap (oc_X6 T a_13 zX6 ++ (oc_X0 T b_13 z0 ++ ((qn12, .inl (T 0, 2, .inl (fun _ => 0))) :: ((qn11, .inl (T 0, 6, .inl (fun _ => 0))) :: (oc_X6 T a_10 zX6 ++ (oc_X0 T b_10 z0 ++ ((qn9, .inl (T 2, 4, .inr (.inr (.inr (.inr (va_up (fun _ => none) (0 : Int32).toNatClampNeg (some (a_13 0)))))))) :: (oc_X8 T a_8 z0 ++ (oc_X1 T a_7 z0 ++ (oc_X9 T a_6 z0 ++ (oc_X4 T a_5 z0 ++ (oc_X5 T a_4 zX5 ++ (oc_X2 T a_3 z0 ++ (oc_X7 T a_2 z0 ++ (oc_X3 T a_1 z0 ++ ((h0, .inr (10, [.ref (a_1 0), .ref (a_2 0), .ref (a_3 0), .ref (a_4 0), .ref (a_5 0), .ref (a_6 0), .ref (a_7 0), .ref (a_8 0), .ref qn9, .ref (a_10 0), .ref qn11, .ref qn12, .int 0])) :: Z)))))))))))))))) H locs := ⟨hP, hD, hS⟩
  refine lv_iinc (v := 1) (lv' := [(1, .int 1), (0, .ref h0)]) hx hb dX10_init_151 hl (k := 0) rfl (by decide) (by decide) rfl (fun ls hl => ?_)
  refine lv_goto (tgt := 133) hx hb dX10_init_154 (by decide) ?_
  refine lv_iload_n hx hb dX10_init_133 rfl (lv_at hl 0 rfl) ?_
  refine lv_iconst (v := 4) hx hb dX10_init_134 (by decide) ?_
  refine lv_icmp_ge (tgt := 157) hx hb dX10_init_135 (by decide) (fun c9 => ?_) (fun c9 => ?_)
  · exact absurd c9 (by decide)
  refine lv_aload_n hx hb dX10_init_138 rfl (lv_at hl 1 rfl) ?_
  refine va_get (D := D) (ci := 10) (v := .ref qn9) (C := RX10) (T := TX10) (N := 13) hx hb hts inlX10 hown hK hW.1 73 rfl rfl 8 (by decide) (hts _ wm2_20) (fun _ h9 => h9) rfl dX10_init_139 ?_
  refine lv_iload_n hx hb dX10_init_142 rfl (lv_at hl 0 rfl) ?_
  refine va_new (ci := 6) (fs := [.int 0, .null, .null, .null, .null, .null, .null, .int 0, .int 0]) (C := RX6) (T := TX6) (N := 9) hx hb hts inlX6 tyX6 tyX6_ok hown (hts _ wm2_19) (hts _ wm2_21) (hts _ wm2_22) hK hW.1 hW.2.1 hW.2.2 hA rfl (fun j hj => by rcases (show j = 0 ∨ j = 1 ∨ j = 2 ∨ j = 3 ∨ j = 4 ∨ j = 5 ∨ j = 6 ∨ j = 7 ∨ j = 8 by omega) with rfl | rfl | rfl | rfl | rfl | rfl | rfl | rfl | rfl <;> rfl) (Nat.le_of_ble_eq_true rfl) (Nat.le_of_ble_eq_true rfl) dX10_init_143 (fun qn14 H hP hD hS => ?_)
  have hW : Wd D A s.heap ((qn14, .inr (6, [.int 0, .null, .null, .null, .null, .null, .null, .int 0, .int 0])) :: (oc_X6 T a_13 zX6 ++ (oc_X0 T b_13 z0 ++ ((qn12, .inl (T 0, 2, .inl (fun _ => 0))) :: ((qn11, .inl (T 0, 6, .inl (fun _ => 0))) :: (oc_X6 T a_10 zX6 ++ (oc_X0 T b_10 z0 ++ ((qn9, .inl (T 2, 4, .inr (.inr (.inr (.inr (va_up (fun _ => none) (0 : Int32).toNatClampNeg (some (a_13 0)))))))) :: (oc_X8 T a_8 z0 ++ (oc_X1 T a_7 z0 ++ (oc_X9 T a_6 z0 ++ (oc_X4 T a_5 z0 ++ (oc_X5 T a_4 zX5 ++ (oc_X2 T a_3 z0 ++ (oc_X7 T a_2 z0 ++ (oc_X3 T a_1 z0 ++ ((h0, .inr (10, [.ref (a_1 0), .ref (a_2 0), .ref (a_3 0), .ref (a_4 0), .ref (a_5 0), .ref (a_6 0), .ref (a_7 0), .ref (a_8 0), .ref qn9, .ref (a_10 0), .ref qn11, .ref qn12, .int 0])) :: Z))))))))))))))))) H locs := ⟨hP.perm (List.perm_append_singleton _ _), hD.perm (List.perm_append_singleton _ _), hS⟩
  refine lv_dup hx hb dX10_init_146 rfl ?_
  refine n_init (host := "ReadingChart") hx hb hml hown hts hK hN hA hW (i_X6 l D T A qn14 (oc_X6 T a_13 zX6 ++ (oc_X0 T b_13 z0 ++ ((qn12, .inl (T 0, 2, .inl (fun _ => 0))) :: ((qn11, .inl (T 0, 6, .inl (fun _ => 0))) :: (oc_X6 T a_10 zX6 ++ (oc_X0 T b_10 z0 ++ ((qn9, .inl (T 2, 4, .inr (.inr (.inr (.inr (va_up (fun _ => none) (0 : Int32).toNatClampNeg (some (a_13 0)))))))) :: (oc_X8 T a_8 z0 ++ (oc_X1 T a_7 z0 ++ (oc_X9 T a_6 z0 ++ (oc_X4 T a_5 z0 ++ (oc_X5 T a_4 zX5 ++ (oc_X2 T a_3 z0 ++ (oc_X7 T a_2 z0 ++ (oc_X3 T a_1 z0 ++ ((h0, .inr (10, [.ref (a_1 0), .ref (a_2 0), .ref (a_3 0), .ref (a_4 0), .ref (a_5 0), .ref (a_6 0), .ref (a_7 0), .ref (a_8 0), .ref qn9, .ref (a_10 0), .ref qn11, .ref qn12, .int 0])) :: Z))))))))))))))))) (hN.2 _ (List.mem_of_getElem? (i := 8) rfl)) wm6_0 wm2_22 wm6_1 rfl ⟨by decide +kernel, by decide +kernel, by decide +kernel⟩ ⟨Nat.le_of_ble_eq_true rfl, Nat.le_of_ble_eq_true rfl⟩ hl.1 (Nat.le_of_ble_eq_true rfl) dX10_init_147 ⟨Nat.le_of_ble_eq_true rfl, Nat.le_of_ble_eq_true rfl⟩ (fun a_14 H locs ha_14 hW => ?_)
  obtain ⟨a_14, b_14⟩ := a_14
  have ea_14 : a_14 0 = qn14 := ha_14.1
  have ga_14 : a_14 106 = b_14 0 := ha_14.2
  have hW : Wd D A s.heap (oc_X6 T a_14 zX6 ++ (oc_X0 T b_14 z0 ++ (oc_X6 T a_13 zX6 ++ (oc_X0 T b_13 z0 ++ ((qn12, .inl (T 0, 2, .inl (fun _ => 0))) :: ((qn11, .inl (T 0, 6, .inl (fun _ => 0))) :: (oc_X6 T a_10 zX6 ++ (oc_X0 T b_10 z0 ++ ((qn9, .inl (T 2, 4, .inr (.inr (.inr (.inr (va_up (fun _ => none) (0 : Int32).toNatClampNeg (some (a_13 0)))))))) :: (oc_X8 T a_8 z0 ++ (oc_X1 T a_7 z0 ++ (oc_X9 T a_6 z0 ++ (oc_X4 T a_5 z0 ++ (oc_X5 T a_4 zX5 ++ (oc_X2 T a_3 z0 ++ (oc_X7 T a_2 z0 ++ (oc_X3 T a_1 z0 ++ ((h0, .inr (10, [.ref (a_1 0), .ref (a_2 0), .ref (a_3 0), .ref (a_4 0), .ref (a_5 0), .ref (a_6 0), .ref (a_7 0), .ref (a_8 0), .ref qn9, .ref (a_10 0), .ref qn11, .ref qn12, .int 0])) :: Z)))))))))))))))))) H locs := hW
  rw [← ea_14]
  refine va_astq (D := D) (r := (RX6, TX6, 9)) hx hb hK hW.1 hW.2.1 hW.2.2 47 2 0 6 rfl rfl rfl rfl (gd_in (by decide)) dX10_init_150 (fun H locs hP hD hS => ?_)
  have hW : Wd D A s.heap (oc_X6 T a_14 zX6 ++ (oc_X0 T b_14 z0 ++ (oc_X6 T a_13 zX6 ++ (oc_X0 T b_13 z0 ++ ((qn12, .inl (T 0, 2, .inl (fun _ => 0))) :: ((qn11, .inl (T 0, 6, .inl (fun _ => 0))) :: (oc_X6 T a_10 zX6 ++ (oc_X0 T b_10 z0 ++ ((qn9, .inl (T 2, 4, .inr (.inr (.inr (.inr (va_up (va_up (fun _ => none) (0 : Int32).toNatClampNeg (some (a_13 0))) (1 : Int32).toNatClampNeg (some (a_14 0)))))))) :: (oc_X8 T a_8 z0 ++ (oc_X1 T a_7 z0 ++ (oc_X9 T a_6 z0 ++ (oc_X4 T a_5 z0 ++ (oc_X5 T a_4 zX5 ++ (oc_X2 T a_3 z0 ++ (oc_X7 T a_2 z0 ++ (oc_X3 T a_1 z0 ++ ((h0, .inr (10, [.ref (a_1 0), .ref (a_2 0), .ref (a_3 0), .ref (a_4 0), .ref (a_5 0), .ref (a_6 0), .ref (a_7 0), .ref (a_8 0), .ref qn9, .ref (a_10 0), .ref qn11, .ref qn12, .int 0])) :: Z)))))))))))))))))) H locs := ⟨hP, hD, hS⟩
  refine lv_iinc (v := 2) (lv' := [(1, .int 2), (0, .ref h0)]) hx hb dX10_init_151 hl (k := 0) rfl (by decide) (by decide) rfl (fun ls hl => ?_)
  refine lv_goto (tgt := 133) hx hb dX10_init_154 (by decide) ?_
  refine lv_iload_n hx hb dX10_init_133 rfl (lv_at hl 0 rfl) ?_
  refine lv_iconst (v := 4) hx hb dX10_init_134 (by decide) ?_
  refine lv_icmp_ge (tgt := 157) hx hb dX10_init_135 (by decide) (fun c9 => ?_) (fun c9 => ?_)
  · exact absurd c9 (by decide)
  refine lv_aload_n hx hb dX10_init_138 rfl (lv_at hl 1 rfl) ?_
  refine va_get (D := D) (ci := 10) (v := .ref qn9) (C := RX10) (T := TX10) (N := 13) hx hb hts inlX10 hown hK hW.1 88 rfl rfl 8 (by decide) (hts _ wm2_20) (fun _ h9 => h9) rfl dX10_init_139 ?_
  refine lv_iload_n hx hb dX10_init_142 rfl (lv_at hl 0 rfl) ?_
  refine va_new (ci := 6) (fs := [.int 0, .null, .null, .null, .null, .null, .null, .int 0, .int 0]) (C := RX6) (T := TX6) (N := 9) hx hb hts inlX6 tyX6 tyX6_ok hown (hts _ wm2_19) (hts _ wm2_21) (hts _ wm2_22) hK hW.1 hW.2.1 hW.2.2 hA rfl (fun j hj => by rcases (show j = 0 ∨ j = 1 ∨ j = 2 ∨ j = 3 ∨ j = 4 ∨ j = 5 ∨ j = 6 ∨ j = 7 ∨ j = 8 by omega) with rfl | rfl | rfl | rfl | rfl | rfl | rfl | rfl | rfl <;> rfl) (Nat.le_of_ble_eq_true rfl) (Nat.le_of_ble_eq_true rfl) dX10_init_143 (fun qn15 H hP hD hS => ?_)
  have hW : Wd D A s.heap ((qn15, .inr (6, [.int 0, .null, .null, .null, .null, .null, .null, .int 0, .int 0])) :: (oc_X6 T a_14 zX6 ++ (oc_X0 T b_14 z0 ++ (oc_X6 T a_13 zX6 ++ (oc_X0 T b_13 z0 ++ ((qn12, .inl (T 0, 2, .inl (fun _ => 0))) :: ((qn11, .inl (T 0, 6, .inl (fun _ => 0))) :: (oc_X6 T a_10 zX6 ++ (oc_X0 T b_10 z0 ++ ((qn9, .inl (T 2, 4, .inr (.inr (.inr (.inr (va_up (va_up (fun _ => none) (0 : Int32).toNatClampNeg (some (a_13 0))) (1 : Int32).toNatClampNeg (some (a_14 0)))))))) :: (oc_X8 T a_8 z0 ++ (oc_X1 T a_7 z0 ++ (oc_X9 T a_6 z0 ++ (oc_X4 T a_5 z0 ++ (oc_X5 T a_4 zX5 ++ (oc_X2 T a_3 z0 ++ (oc_X7 T a_2 z0 ++ (oc_X3 T a_1 z0 ++ ((h0, .inr (10, [.ref (a_1 0), .ref (a_2 0), .ref (a_3 0), .ref (a_4 0), .ref (a_5 0), .ref (a_6 0), .ref (a_7 0), .ref (a_8 0), .ref qn9, .ref (a_10 0), .ref qn11, .ref qn12, .int 0])) :: Z))))))))))))))))))) H locs := ⟨hP.perm (List.perm_append_singleton _ _), hD.perm (List.perm_append_singleton _ _), hS⟩
  refine lv_dup hx hb dX10_init_146 rfl ?_
  refine n_init (host := "ReadingChart") hx hb hml hown hts hK hN hA hW (i_X6 l D T A qn15 (oc_X6 T a_14 zX6 ++ (oc_X0 T b_14 z0 ++ (oc_X6 T a_13 zX6 ++ (oc_X0 T b_13 z0 ++ ((qn12, .inl (T 0, 2, .inl (fun _ => 0))) :: ((qn11, .inl (T 0, 6, .inl (fun _ => 0))) :: (oc_X6 T a_10 zX6 ++ (oc_X0 T b_10 z0 ++ ((qn9, .inl (T 2, 4, .inr (.inr (.inr (.inr (va_up (va_up (fun _ => none) (0 : Int32).toNatClampNeg (some (a_13 0))) (1 : Int32).toNatClampNeg (some (a_14 0)))))))) :: (oc_X8 T a_8 z0 ++ (oc_X1 T a_7 z0 ++ (oc_X9 T a_6 z0 ++ (oc_X4 T a_5 z0 ++ (oc_X5 T a_4 zX5 ++ (oc_X2 T a_3 z0 ++ (oc_X7 T a_2 z0 ++ (oc_X3 T a_1 z0 ++ ((h0, .inr (10, [.ref (a_1 0), .ref (a_2 0), .ref (a_3 0), .ref (a_4 0), .ref (a_5 0), .ref (a_6 0), .ref (a_7 0), .ref (a_8 0), .ref qn9, .ref (a_10 0), .ref qn11, .ref qn12, .int 0])) :: Z))))))))))))))))))) (hN.2 _ (List.mem_of_getElem? (i := 8) rfl)) wm6_0 wm2_22 wm6_1 rfl ⟨by decide +kernel, by decide +kernel, by decide +kernel⟩ ⟨Nat.le_of_ble_eq_true rfl, Nat.le_of_ble_eq_true rfl⟩ hl.1 (Nat.le_of_ble_eq_true rfl) dX10_init_147 ⟨Nat.le_of_ble_eq_true rfl, Nat.le_of_ble_eq_true rfl⟩ (fun a_15 H locs ha_15 hW => ?_)
  obtain ⟨a_15, b_15⟩ := a_15
  have ea_15 : a_15 0 = qn15 := ha_15.1
  have ga_15 : a_15 106 = b_15 0 := ha_15.2
  have hW : Wd D A s.heap (oc_X6 T a_15 zX6 ++ (oc_X0 T b_15 z0 ++ (oc_X6 T a_14 zX6 ++ (oc_X0 T b_14 z0 ++ (oc_X6 T a_13 zX6 ++ (oc_X0 T b_13 z0 ++ ((qn12, .inl (T 0, 2, .inl (fun _ => 0))) :: ((qn11, .inl (T 0, 6, .inl (fun _ => 0))) :: (oc_X6 T a_10 zX6 ++ (oc_X0 T b_10 z0 ++ ((qn9, .inl (T 2, 4, .inr (.inr (.inr (.inr (va_up (va_up (fun _ => none) (0 : Int32).toNatClampNeg (some (a_13 0))) (1 : Int32).toNatClampNeg (some (a_14 0)))))))) :: (oc_X8 T a_8 z0 ++ (oc_X1 T a_7 z0 ++ (oc_X9 T a_6 z0 ++ (oc_X4 T a_5 z0 ++ (oc_X5 T a_4 zX5 ++ (oc_X2 T a_3 z0 ++ (oc_X7 T a_2 z0 ++ (oc_X3 T a_1 z0 ++ ((h0, .inr (10, [.ref (a_1 0), .ref (a_2 0), .ref (a_3 0), .ref (a_4 0), .ref (a_5 0), .ref (a_6 0), .ref (a_7 0), .ref (a_8 0), .ref qn9, .ref (a_10 0), .ref qn11, .ref qn12, .int 0])) :: Z)))))))))))))))))))) H locs := hW
  rw [← ea_15]
  refine va_astq (D := D) (r := (RX6, TX6, 9)) hx hb hK hW.1 hW.2.1 hW.2.2 62 2 0 6 rfl rfl rfl rfl (gd_in (by decide)) dX10_init_150 (fun H locs hP hD hS => ?_)
  have hW : Wd D A s.heap (oc_X6 T a_15 zX6 ++ (oc_X0 T b_15 z0 ++ (oc_X6 T a_14 zX6 ++ (oc_X0 T b_14 z0 ++ (oc_X6 T a_13 zX6 ++ (oc_X0 T b_13 z0 ++ ((qn12, .inl (T 0, 2, .inl (fun _ => 0))) :: ((qn11, .inl (T 0, 6, .inl (fun _ => 0))) :: (oc_X6 T a_10 zX6 ++ (oc_X0 T b_10 z0 ++ ((qn9, .inl (T 2, 4, .inr (.inr (.inr (.inr (va_up (va_up (va_up (fun _ => none) (0 : Int32).toNatClampNeg (some (a_13 0))) (1 : Int32).toNatClampNeg (some (a_14 0))) (2 : Int32).toNatClampNeg (some (a_15 0)))))))) :: (oc_X8 T a_8 z0 ++ (oc_X1 T a_7 z0 ++ (oc_X9 T a_6 z0 ++ (oc_X4 T a_5 z0 ++ (oc_X5 T a_4 zX5 ++ (oc_X2 T a_3 z0 ++ (oc_X7 T a_2 z0 ++ (oc_X3 T a_1 z0 ++ ((h0, .inr (10, [.ref (a_1 0), .ref (a_2 0), .ref (a_3 0), .ref (a_4 0), .ref (a_5 0), .ref (a_6 0), .ref (a_7 0), .ref (a_8 0), .ref qn9, .ref (a_10 0), .ref qn11, .ref qn12, .int 0])) :: Z)))))))))))))))))))) H locs := ⟨hP, hD, hS⟩
  refine lv_iinc (v := 3) (lv' := [(1, .int 3), (0, .ref h0)]) hx hb dX10_init_151 hl (k := 0) rfl (by decide) (by decide) rfl (fun ls hl => ?_)
  refine lv_goto (tgt := 133) hx hb dX10_init_154 (by decide) ?_
  refine lv_iload_n hx hb dX10_init_133 rfl (lv_at hl 0 rfl) ?_
  refine lv_iconst (v := 4) hx hb dX10_init_134 (by decide) ?_
  refine lv_icmp_ge (tgt := 157) hx hb dX10_init_135 (by decide) (fun c9 => ?_) (fun c9 => ?_)
  · exact absurd c9 (by decide)
  refine lv_aload_n hx hb dX10_init_138 rfl (lv_at hl 1 rfl) ?_
  refine va_get (D := D) (ci := 10) (v := .ref qn9) (C := RX10) (T := TX10) (N := 13) hx hb hts inlX10 hown hK hW.1 103 rfl rfl 8 (by decide) (hts _ wm2_20) (fun _ h9 => h9) rfl dX10_init_139 ?_
  refine lv_iload_n hx hb dX10_init_142 rfl (lv_at hl 0 rfl) ?_
  refine va_new (ci := 6) (fs := [.int 0, .null, .null, .null, .null, .null, .null, .int 0, .int 0]) (C := RX6) (T := TX6) (N := 9) hx hb hts inlX6 tyX6 tyX6_ok hown (hts _ wm2_19) (hts _ wm2_21) (hts _ wm2_22) hK hW.1 hW.2.1 hW.2.2 hA rfl (fun j hj => by rcases (show j = 0 ∨ j = 1 ∨ j = 2 ∨ j = 3 ∨ j = 4 ∨ j = 5 ∨ j = 6 ∨ j = 7 ∨ j = 8 by omega) with rfl | rfl | rfl | rfl | rfl | rfl | rfl | rfl | rfl <;> rfl) (Nat.le_of_ble_eq_true rfl) (Nat.le_of_ble_eq_true rfl) dX10_init_143 (fun qn16 H hP hD hS => ?_)
  have hW : Wd D A s.heap ((qn16, .inr (6, [.int 0, .null, .null, .null, .null, .null, .null, .int 0, .int 0])) :: (oc_X6 T a_15 zX6 ++ (oc_X0 T b_15 z0 ++ (oc_X6 T a_14 zX6 ++ (oc_X0 T b_14 z0 ++ (oc_X6 T a_13 zX6 ++ (oc_X0 T b_13 z0 ++ ((qn12, .inl (T 0, 2, .inl (fun _ => 0))) :: ((qn11, .inl (T 0, 6, .inl (fun _ => 0))) :: (oc_X6 T a_10 zX6 ++ (oc_X0 T b_10 z0 ++ ((qn9, .inl (T 2, 4, .inr (.inr (.inr (.inr (va_up (va_up (va_up (fun _ => none) (0 : Int32).toNatClampNeg (some (a_13 0))) (1 : Int32).toNatClampNeg (some (a_14 0))) (2 : Int32).toNatClampNeg (some (a_15 0)))))))) :: (oc_X8 T a_8 z0 ++ (oc_X1 T a_7 z0 ++ (oc_X9 T a_6 z0 ++ (oc_X4 T a_5 z0 ++ (oc_X5 T a_4 zX5 ++ (oc_X2 T a_3 z0 ++ (oc_X7 T a_2 z0 ++ (oc_X3 T a_1 z0 ++ ((h0, .inr (10, [.ref (a_1 0), .ref (a_2 0), .ref (a_3 0), .ref (a_4 0), .ref (a_5 0), .ref (a_6 0), .ref (a_7 0), .ref (a_8 0), .ref qn9, .ref (a_10 0), .ref qn11, .ref qn12, .int 0])) :: Z))))))))))))))))))))) H locs := ⟨hP.perm (List.perm_append_singleton _ _), hD.perm (List.perm_append_singleton _ _), hS⟩
  refine lv_dup hx hb dX10_init_146 rfl ?_
  refine n_init (host := "ReadingChart") hx hb hml hown hts hK hN hA hW (i_X6 l D T A qn16 (oc_X6 T a_15 zX6 ++ (oc_X0 T b_15 z0 ++ (oc_X6 T a_14 zX6 ++ (oc_X0 T b_14 z0 ++ (oc_X6 T a_13 zX6 ++ (oc_X0 T b_13 z0 ++ ((qn12, .inl (T 0, 2, .inl (fun _ => 0))) :: ((qn11, .inl (T 0, 6, .inl (fun _ => 0))) :: (oc_X6 T a_10 zX6 ++ (oc_X0 T b_10 z0 ++ ((qn9, .inl (T 2, 4, .inr (.inr (.inr (.inr (va_up (va_up (va_up (fun _ => none) (0 : Int32).toNatClampNeg (some (a_13 0))) (1 : Int32).toNatClampNeg (some (a_14 0))) (2 : Int32).toNatClampNeg (some (a_15 0)))))))) :: (oc_X8 T a_8 z0 ++ (oc_X1 T a_7 z0 ++ (oc_X9 T a_6 z0 ++ (oc_X4 T a_5 z0 ++ (oc_X5 T a_4 zX5 ++ (oc_X2 T a_3 z0 ++ (oc_X7 T a_2 z0 ++ (oc_X3 T a_1 z0 ++ ((h0, .inr (10, [.ref (a_1 0), .ref (a_2 0), .ref (a_3 0), .ref (a_4 0), .ref (a_5 0), .ref (a_6 0), .ref (a_7 0), .ref (a_8 0), .ref qn9, .ref (a_10 0), .ref qn11, .ref qn12, .int 0])) :: Z))))))))))))))))))))) (hN.2 _ (List.mem_of_getElem? (i := 8) rfl)) wm6_0 wm2_22 wm6_1 rfl ⟨by decide +kernel, by decide +kernel, by decide +kernel⟩ ⟨Nat.le_of_ble_eq_true rfl, Nat.le_of_ble_eq_true rfl⟩ hl.1 (Nat.le_of_ble_eq_true rfl) dX10_init_147 ⟨Nat.le_of_ble_eq_true rfl, Nat.le_of_ble_eq_true rfl⟩ (fun a_16 H locs ha_16 hW => ?_)
  obtain ⟨a_16, b_16⟩ := a_16
  have ea_16 : a_16 0 = qn16 := ha_16.1
  have ga_16 : a_16 106 = b_16 0 := ha_16.2
  have hW : Wd D A s.heap (oc_X6 T a_16 zX6 ++ (oc_X0 T b_16 z0 ++ (oc_X6 T a_15 zX6 ++ (oc_X0 T b_15 z0 ++ (oc_X6 T a_14 zX6 ++ (oc_X0 T b_14 z0 ++ (oc_X6 T a_13 zX6 ++ (oc_X0 T b_13 z0 ++ ((qn12, .inl (T 0, 2, .inl (fun _ => 0))) :: ((qn11, .inl (T 0, 6, .inl (fun _ => 0))) :: (oc_X6 T a_10 zX6 ++ (oc_X0 T b_10 z0 ++ ((qn9, .inl (T 2, 4, .inr (.inr (.inr (.inr (va_up (va_up (va_up (fun _ => none) (0 : Int32).toNatClampNeg (some (a_13 0))) (1 : Int32).toNatClampNeg (some (a_14 0))) (2 : Int32).toNatClampNeg (some (a_15 0)))))))) :: (oc_X8 T a_8 z0 ++ (oc_X1 T a_7 z0 ++ (oc_X9 T a_6 z0 ++ (oc_X4 T a_5 z0 ++ (oc_X5 T a_4 zX5 ++ (oc_X2 T a_3 z0 ++ (oc_X7 T a_2 z0 ++ (oc_X3 T a_1 z0 ++ ((h0, .inr (10, [.ref (a_1 0), .ref (a_2 0), .ref (a_3 0), .ref (a_4 0), .ref (a_5 0), .ref (a_6 0), .ref (a_7 0), .ref (a_8 0), .ref qn9, .ref (a_10 0), .ref qn11, .ref qn12, .int 0])) :: Z)))))))))))))))))))))) H locs := hW
  rw [← ea_16]
  refine va_astq (D := D) (r := (RX6, TX6, 9)) hx hb hK hW.1 hW.2.1 hW.2.2 77 2 0 6 rfl rfl rfl rfl (gd_in (by decide)) dX10_init_150 (fun H locs hP hD hS => ?_)
  have hW : Wd D A s.heap (oc_X6 T a_16 zX6 ++ (oc_X0 T b_16 z0 ++ (oc_X6 T a_15 zX6 ++ (oc_X0 T b_15 z0 ++ (oc_X6 T a_14 zX6 ++ (oc_X0 T b_14 z0 ++ (oc_X6 T a_13 zX6 ++ (oc_X0 T b_13 z0 ++ ((qn12, .inl (T 0, 2, .inl (fun _ => 0))) :: ((qn11, .inl (T 0, 6, .inl (fun _ => 0))) :: (oc_X6 T a_10 zX6 ++ (oc_X0 T b_10 z0 ++ ((qn9, .inl (T 2, 4, .inr (.inr (.inr (.inr (va_up (va_up (va_up (va_up (fun _ => none) (0 : Int32).toNatClampNeg (some (a_13 0))) (1 : Int32).toNatClampNeg (some (a_14 0))) (2 : Int32).toNatClampNeg (some (a_15 0))) (3 : Int32).toNatClampNeg (some (a_16 0)))))))) :: (oc_X8 T a_8 z0 ++ (oc_X1 T a_7 z0 ++ (oc_X9 T a_6 z0 ++ (oc_X4 T a_5 z0 ++ (oc_X5 T a_4 zX5 ++ (oc_X2 T a_3 z0 ++ (oc_X7 T a_2 z0 ++ (oc_X3 T a_1 z0 ++ ((h0, .inr (10, [.ref (a_1 0), .ref (a_2 0), .ref (a_3 0), .ref (a_4 0), .ref (a_5 0), .ref (a_6 0), .ref (a_7 0), .ref (a_8 0), .ref qn9, .ref (a_10 0), .ref qn11, .ref qn12, .int 0])) :: Z)))))))))))))))))))))) H locs := ⟨hP, hD, hS⟩
  refine lv_iinc (v := 4) (lv' := [(1, .int 4), (0, .ref h0)]) hx hb dX10_init_151 hl (k := 0) rfl (by decide) (by decide) rfl (fun ls hl => ?_)
  refine lv_goto (tgt := 133) hx hb dX10_init_154 (by decide) ?_
  refine lv_iload_n hx hb dX10_init_133 rfl (lv_at hl 0 rfl) ?_
  refine lv_iconst (v := 4) hx hb dX10_init_134 (by decide) ?_
  refine lv_icmp_ge (tgt := 157) hx hb dX10_init_135 (by decide) (fun c9 => ?_) (fun c9 => ?_)
  rotate_left
  · exact absurd (by decide) c9
  have hW : Wd D A s.heap (oc_X6 T a_16 zX6 ++ (oc_X0 T b_16 z0 ++ (oc_X6 T a_15 zX6 ++ (oc_X0 T b_15 z0 ++ (oc_X6 T a_14 zX6 ++ (oc_X0 T b_14 z0 ++ (oc_X6 T a_13 zX6 ++ (oc_X0 T b_13 z0 ++ ([(qn12, .inl (T 0, 2, .inl (fun _ => 0)))] ++ ([(qn11, .inl (T 0, 6, .inl (fun _ => 0)))] ++ (oc_X6 T a_10 zX6 ++ (oc_X0 T b_10 z0 ++ ([(qn9, .inl (T 2, 4, .inr (.inr (.inr (.inr (va_up (va_up (va_up (va_up (fun _ => none) (0 : Int32).toNatClampNeg (some (a_13 0))) (1 : Int32).toNatClampNeg (some (a_14 0))) (2 : Int32).toNatClampNeg (some (a_15 0))) (3 : Int32).toNatClampNeg (some (a_16 0))))))))] ++ (oc_X8 T a_8 z0 ++ (oc_X1 T a_7 z0 ++ (oc_X9 T a_6 z0 ++ (oc_X4 T a_5 z0 ++ (oc_X5 T a_4 zX5 ++ (oc_X2 T a_3 z0 ++ (oc_X7 T a_2 z0 ++ (oc_X3 T a_1 z0 ++ ([(h0, .inr (10, [.ref (a_1 0), .ref (a_2 0), .ref (a_3 0), .ref (a_4 0), .ref (a_5 0), .ref (a_6 0), .ref (a_7 0), .ref (a_8 0), .ref qn9, .ref (a_10 0), .ref qn11, .ref qn12, .int 0]))] ++ Z)))))))))))))))))))))) H locs := hW
  have hW := hW.perm pf11
  have hW := hW.perm pf2
  have hW := hW.perm pf4
  have hW := hW.perm pf6
  have hW := hW.perm pf8
  have hW := hW.perm pf11
  have hW := hW.perm pf6
  have hW := hW.perm pf7
  have hW := hW.perm pf8
  have hW := hW.perm pf9
  have hW := hW.perm pf16
  have hW := hW.perm pf14
  have hW := hW.perm pf15
  have hW := hW.perm pf16
  have hW := hW.perm pf17
  have hW := hW.perm pf18
  have hW := hW.perm pf19
  have hW := hW.perm pf20
  have hW := hW.perm pf18
  have hW := hW.perm pf19
  have hW := hW.perm pf20
  have hW := hW.perm pf21
  obtain ⟨ad, ead⟩ : ∃ z, z = adA [(adM [h0, qn9, qn11, qn12] [a_1 0, a_2 0, a_3 0, a_4 0, a_5 0, a_6 0, a_7 0, a_8 0, 0, a_10 0]), a_1, a_2, a_3, a_4, a_6, a_7, a_8, a_5, a_13, a_14, a_15, a_16, a_10, b_13, b_14, b_15, b_16, b_10] := ⟨_, rfl⟩
  have hW : Wd D A s.heap ([(qn9, .inl (T 2, 4, .inr (.inr (.inr (.inr (va_up (va_up (va_up (va_up (fun _ => none) (0 : Int32).toNatClampNeg (some (a_13 0))) (1 : Int32).toNatClampNeg (some (a_14 0))) (2 : Int32).toNatClampNeg (some (a_15 0))) (3 : Int32).toNatClampNeg (some (a_16 0))))))))] ++ ([(h0, .inr (10, [.ref (a_1 0), .ref (a_2 0), .ref (a_3 0), .ref (a_4 0), .ref (a_5 0), .ref (a_6 0), .ref (a_7 0), .ref (a_8 0), .ref qn9, .ref (a_10 0), .ref qn11, .ref qn12, .int 0]))] ++ ([(qn11, .inl (T 0, 6, .inl (fun _ => 0)))] ++ ([(qn12, .inl (T 0, 2, .inl (fun _ => 0)))] ++ (oc_X3 T a_1 z0 ++ (oc_X7 T a_2 z0 ++ (oc_X2 T a_3 z0 ++ (oc_X5 T a_4 zX5 ++ (oc_X9 T a_6 z0 ++ (oc_X1 T a_7 z0 ++ (oc_X8 T a_8 z0 ++ (oc_X4 T a_5 z0 ++ (oc_X6 T a_13 zX6 ++ (oc_X6 T a_14 zX6 ++ (oc_X6 T a_15 zX6 ++ (oc_X6 T a_16 zX6 ++ (oc_X6 T a_10 zX6 ++ (oc_X0 T b_13 z0 ++ (oc_X0 T b_14 z0 ++ (oc_X0 T b_15 z0 ++ (oc_X0 T b_16 z0 ++ (oc_X0 T b_10 z0 ++ Z)))))))))))))))))))))) H locs := hW.perm pf1
  have hW : Wd D A s.heap ([(qn9, .inl (T 2, 4, .inr (.inr (.inr (.inr (fun i => some (bb ad i)))))))] ++ ([(h0, .inr (10, [.ref (a_1 0), .ref (a_2 0), .ref (a_3 0), .ref (a_4 0), .ref (a_5 0), .ref (a_6 0), .ref (a_7 0), .ref (a_8 0), .ref qn9, .ref (a_10 0), .ref qn11, .ref qn12, .int 0]))] ++ ([(qn11, .inl (T 0, 6, .inl (fun _ => 0)))] ++ ([(qn12, .inl (T 0, 2, .inl (fun _ => 0)))] ++ (oc_X3 T a_1 z0 ++ (oc_X7 T a_2 z0 ++ (oc_X2 T a_3 z0 ++ (oc_X5 T a_4 zX5 ++ (oc_X9 T a_6 z0 ++ (oc_X1 T a_7 z0 ++ (oc_X8 T a_8 z0 ++ (oc_X4 T a_5 z0 ++ (oc_X6 T a_13 zX6 ++ (oc_X6 T a_14 zX6 ++ (oc_X6 T a_15 zX6 ++ (oc_X6 T a_16 zX6 ++ (oc_X6 T a_10 zX6 ++ (oc_X0 T b_13 z0 ++ (oc_X0 T b_14 z0 ++ (oc_X0 T b_15 z0 ++ (oc_X0 T b_16 z0 ++ (oc_X0 T b_10 z0 ++ Z)))))))))))))))))))))) H locs := wd_q hW (fun j hj => by
    subst ead
    rcases (show j = 0 ∨ j = 1 ∨ j = 2 ∨ j = 3 by omega) with rfl | rfl | rfl | rfl <;> rfl)
  have hW := hW.perm pf1
  have hok : okad ad := by
    subst ead
    refine ⟨rfl, rfl, rfl, rfl, rfl, rfl, rfl, rfl, rfl, fun i hi => ?_⟩
    rcases lt5 hi with rfl | rfl | rfl | rfl | rfl
    · exact ga_13
    · exact ga_14
    · exact ga_15
    · exact ga_16
    · exact ga_10
  have hW : Wd D A s.heap (oc_X10 T (ad 0) (bb ad) (K0 0) ++ (wkL T ad K0 L18 ++ Z)) H locs := by
    rw [wk_ex]
    subst ead
    exact hW
  have h00 : ad 0 0 = h0 := by subst ead; rfl
  refine W.widen (k := 118) (n := 12830) (Nat.le_of_ble_eq_true rfl) (Nat.le_of_ble_eq_true rfl) ?_
  exact W.vret hx hb hr (fun t ht _ => ⟨⟨ad, rfl, ⟨hok, h00⟩, by rw [ht]; exact hW.1, hW.2.1⟩, hW.2.2.F ht⟩) hW.2.2.2.2 dX10_init_157 hlk
