section INITROWS
variable {p : Program} {l : Launch} {e : Env} {R : Room} {s : State} {m : MethodId} {args : Array Value} {below : List Frame} {meth : Method} {c : Code} {H : Heap} {locs : List Loc} {cells slots : Nat} {Q : State → Prop} {cc : ByteArray} {pc nL : Nat} {ls : Array Slot} {rest st : List Value} {D : va_G} {T : Nat → ClassId} {A : Nat → Prop} {ws ws9 Z : va_W} {a b : Nat}
theorem n_newa (hx : p.tables.exec = Jvm.exec) (hb : c.code = cc) (hts : ∀ w ∈ wsL_law, w.before args s = true) (hK : va_K D vwCl (tys T) s) (hA : ∀ q, s.heap.size ≤ q → A q) (hW : Wd D A s.heap ws H locs) {n : Int32} (N : Nat) (hn : ¬ n < 0) (hN : n.toNatClampNeg = N) (hby : N * componentBytes .int ≤ 536870912) (hc : cells + 1 ≤ R.cells) (hs : slots + N ≤ R.slots) (d : decode cc pc = .ok (.newarray .int, 2))
    (kk : ∀ (q : Nat) (H1 : Heap), Wd D A s.heap ((q, .inl (T 0, N, .inl (fun _ => 0))) :: ws) H1 locs → W p l e R s m args below meth c H1 locs (cells + 1) (slots + N) Q (F0 m (pc + 2) ls (.ref q :: rest))) : W p l e R s m args below meth c H locs cells slots Q (F0 m pc ls (.int n :: rest)) := by
  refine va_newa (a0 := (N, .inl (fun _ => 0))) (ty := .int) (atype := .int) hx hb (hts _ wm1_3) rfl hK hW.1 hW.2.1 hW.2.2 hA (fun cA => rfl) hn hN hby hc hs d (fun q cA H1 hK1 hP hD hS => ?_)
  have e : cA = T 0 := Option.some.inj ((va_nm_int (hK1.2 4 (cA, .int) rfl).2).symm.trans (va_nm_int (hK.2 0 (T 0, .int) rfl).2))
  subst e
  exact kk q H1 ⟨hP.perm (List.perm_append_singleton _ _), hD.perm (List.perm_append_singleton _ _), hS⟩
theorem n_newz (hx : p.tables.exec = Jvm.exec) (hb : c.code = cc) (hts : ∀ w ∈ wsL_law, w.before args s = true) (hK : va_K D vwCl (tys T) s) (hA : ∀ q, s.heap.size ≤ q → A q) (hW : Wd D A s.heap ws H locs) {n : Int32} (N : Nat) (hn : ¬ n < 0) (hN : n.toNatClampNeg = N) (hby : N * componentBytes .boolean ≤ 536870912) (hc : cells + 1 ≤ R.cells) (hs : slots + N ≤ R.slots) (d : decode cc pc = .ok (.newarray .boolean, 2))
    (kk : ∀ (q : Nat) (H1 : Heap), Wd D A s.heap ((q, .inl (T 1, N, .inl (fun _ => 0))) :: ws) H1 locs → W p l e R s m args below meth c H1 locs (cells + 1) (slots + N) Q (F0 m (pc + 2) ls (.ref q :: rest))) : W p l e R s m args below meth c H locs cells slots Q (F0 m pc ls (.int n :: rest)) := by
  refine va_newa (a0 := (N, .inl (fun _ => 0))) (ty := .boolean) (atype := .boolean) hx hb (hts _ wm3_16) rfl hK hW.1 hW.2.1 hW.2.2 hA (fun cA => rfl) hn hN hby hc hs d (fun q cA H1 hK1 hP hD hS => ?_)
  have e : cA = T 1 := Option.some.inj ((va_nm_boolean (hK1.2 4 (cA, .boolean) rfl).2).symm.trans (va_nm_boolean (hK.2 1 (T 1, .boolean) rfl).2))
  subst e
  exact kk q H1 ⟨hP.perm (List.perm_append_singleton _ _), hD.perm (List.perm_append_singleton _ _), hS⟩
/-- a constructor's start and end: its object with the fields as they are at first; what it makes lies in A -/
def Pi (D : va_G) (T : Nat → ClassId) (A : Nat → Prop) (ws : va_W) (av : List Value) : Array Value → State → Prop := va_Pc av (fun U => va_P D vwCl ws U.heap ∧ va_K D vwCl (tys T) U ∧ va_D A ws ∧ NN U ∧ ∀ q, U.heap.size ≤ q → A q)
theorem Pi_bl {D : va_G} {T : Nat → ClassId} {A : Nat → Prop} {ws : va_W} {av : List Value} : FrameBlind (Pi D T A ws av) := fun a U g mk q => by
  obtain ⟨q0, qP, qK, qD, qN, qA⟩ := q
  exact ⟨q0, qP, va_K.moved (u := U) (U := U.calling g mk a) (Vm.Alike.refl U.vm) qK, qD, NN.same (u := U) (U := U.calling g mk a) rfl qN, qA⟩
def Qi {S : Type} (D : va_G) (A : Nat → Prop) (post : S → Prop) (f : S → va_W) : Array Value → State → Outcome → State → Prop := va_Qv post (fun u t => Bg D A (f u) t) A
def rmi (d mc ms : Nat) : Room := { frames := d, cells := mc, slots := ms, locals := 40 * d }
def adf (l : List Nat) : Nat → Nat := fun k => l.getD k 0
def z0 : Ob := fun _ _ => 0
theorem i_pre {U : State} {av : List Value} (hK : va_K D vwCl (tys T) s) (hN : NN s) (hA : ∀ q, s.heap.size ≤ q → A q) (hW : Wd D A s.heap ws H locs) (hU : U.heap = H) (hw : s.WarmedH U.vm) : Pi D T A ws av av.toArray U := ⟨rfl, by rw [hU]; exact hW.1, va_K.moved hw.alike hK, hW.2.1, hN.warm hw, by rw [hU]; exact fun q h => hA q (Nat.le_trans hW.2.2.1 h)⟩
/-- new K(..), by a nest mate -/
theorem n_init {S : Type} {post : S → Prop} {f : S → va_W} {y : MethodName} {bytes : ByteArray} {own host : String} {maxL index d1 mc ms : Nat} (hx : p.tables.exec = Jvm.exec) (hb : c.code = cc) (hml : c.maxLocals = nL) (hown : s.vm.findClass own = some m.cls) (hts : ∀ w ∈ wsL_law, w.before args s = true) (hK : va_K D vwCl (tys T) s) (hN : NN s) (hA : ∀ q, s.heap.size ≤ q → A q) (hW : Wd D A s.heap ws H locs)
    (hM : Met l y (Cond.code y bytes maxL none :: wsL_law) (rmi d1 mc ms) (Pi D T A ws [.ref b]) (Qi D A post f) mc ms A) (h1 : va_Nw (.methodLinkNest own index y host) s) (h2 : Cond.instanceMethod y ∈ wsL_law) (h4 : Cond.initialized y.cls ∈ wsL_law) (h5 : Cond.code y bytes maxL none ∈ wsL_law) (hin : y.name = "<init>") (hd : y.cls ≠ "java/lang/invoke/MethodHandle" ∧ y.cls ≠ "java/lang/invoke/VarHandle" ∧ (parseMethodDescriptor y.desc).map (fun d => d.parameters.length) = some 0) (hR : d1 + 1 ≤ R.frames ∧ 8 + (maxL + 11) + 40 * d1 ≤ R.locals) (hsz : ls.size = nL) (h8 : (rest.map fun v => v.category).sum ≤ 8) (d : decode cc pc = .ok (.invokespecial index, 3)) (hf : cells + mc ≤ R.cells ∧ slots + ms ≤ R.slots)
    (kk : ∀ (u : S) (H1 : Heap) (locs1 : List Loc), post u → Wd D A s.heap (f u) H1 locs1 → W p l e R s m args below meth c H1 locs1 (cells + mc) (slots + ms) Q (F0 m (pc + 3) ls rest)) : W p l e R s m args below meth c H locs cells slots Q (F0 m pc ls (.ref b :: rest)) := by
  refine va_callv (va_runIN (As := []) (rest := rest) ⟨hx, hb, hml, hown, hts⟩ hM ⟨g_cn hN hts h1 h4 h5 hd ⟨rfl, rfl⟩ hR, hin, hts _ h2⟩ ⟨Pi_bl, fun U hU hw => i_pre hK hN hA hW hU hw⟩ rfl rfl hsz rfl (lv_room h8) d hf) hW.2.2 (fun q _ h => h) (fun q h => h) (fun u t H1 locs1 ht hvm hw hB hz1 hk1 hS => ?_)
  exact kk u H1 locs1 hw ⟨by rw [← ht]; exact hB.1, hB.2, hS⟩
/-- .. by the law, over the public constructor -/
theorem n_initP {S : Type} {post : S → Prop} {f : S → va_W} {y : MethodName} {bytes : ByteArray} {own : String} {maxL index d1 mc ms : Nat} (hx : p.tables.exec = Jvm.exec) (hb : c.code = cc) (hml : c.maxLocals = nL) (hown : s.vm.findClass own = some m.cls) (hts : ∀ w ∈ wsL_law, w.before args s = true) (hK : va_K D vwCl (tys T) s) (hN : NN s) (hA : ∀ q, s.heap.size ≤ q → A q) (hW : Wd D A s.heap ws H locs)
    (hM : Met l y (Cond.code y bytes maxL none :: wsL_law) (rmi d1 mc ms) (Pi D T A ws [.ref b]) (Qi D A post f) mc ms A) (h1 : Cond.methodLink own index y ∈ wsL_law) (h2 : Cond.instanceMethod y ∈ wsL_law) (h4 : Cond.initialized y.cls ∈ wsL_law) (h5 : Cond.code y bytes maxL none ∈ wsL_law) (hin : y.name = "<init>") (hd : y.cls ≠ "java/lang/invoke/MethodHandle" ∧ y.cls ≠ "java/lang/invoke/VarHandle" ∧ (parseMethodDescriptor y.desc).map (fun d => d.parameters.length) = some 0) (hR : d1 + 1 ≤ R.frames ∧ 8 + (maxL + 11) + 40 * d1 ≤ R.locals) (hsz : ls.size = nL) (h8 : (rest.map fun v => v.category).sum ≤ 8) (d : decode cc pc = .ok (.invokespecial index, 3)) (hf : cells + mc ≤ R.cells ∧ slots + ms ≤ R.slots)
    (kk : ∀ (u : S) (H1 : Heap) (locs1 : List Loc), post u → Wd D A s.heap (f u) H1 locs1 → W p l e R s m args below meth c H1 locs1 (cells + mc) (slots + ms) Q (F0 m (pc + 3) ls rest)) : W p l e R s m args below meth c H locs cells slots Q (F0 m pc ls (.ref b :: rest)) := by
  refine va_callv (va_runI (As := []) (rest := rest) ⟨hx, hb, hml, hown, hts⟩ hM ⟨callB_of 0 hts (gwGood (by
    intro w hw
    rcases List.mem_cons.mp hw with rfl | h
    · exact h5
    · exact h)) rfl rfl rfl (hts _ h4) (hts _ h1) hd hR, hin, hts _ h2⟩ ⟨Pi_bl, fun U hU hw => i_pre hK hN hA hW hU hw⟩ rfl rfl hsz rfl (lv_room h8) d hf) hW.2.2 (fun q _ h => h) (fun q h => h) (fun u t H1 locs1 ht hvm hw hB hz1 hk1 hS => ?_)
  exact kk u H1 locs1 hw ⟨by rw [← ht]; exact hB.1, hB.2, hS⟩
end INITROWS
def zX5 : Ob := fun k _ => if k = 2 then 0 else -1
def zX6 : Ob := fun k _ => if k = 8 then 1 else 0
def adx (l : List Nat) (c : Nat) : Nat → Nat := fun k => if k = 106 then c else l.getD k 0
set_option maxHeartbeats 4000000 in
set_option maxRecDepth 100000 in
theorem i_X0 (l : Launch) (D : va_G) (T : Nat → ClassId) (A : Nat → Prop) (h0 : Nat) (Z : va_W) : Met l yX0_init (Cond.code yX0_init cX0_init 1 none :: wsL_law) (rmi 1 8 2052) (Pi D T A ((h0, .inr (0, [.int 0, .null, .null, .null, .null, .null, .null, .null, .null])) :: Z) [.ref h0]) (Qi D A (fun u : Nat → Nat => u 0 = h0) (fun u => oc_X0 T u z0 ++ Z)) 8 2052 A := by
  refine Met.ofW (cc := cX0_init) (maxL := 1) (ret := none) (by decide +kernel) rfl ?_
  intro p e s m args below meth c s₁ B hml hv
  obtain ⟨ha, hP, hK, hD, hN, hA⟩ := hv
  have hx := B.exec
  have hb := B.bytes
  have hr := B.returns
  have hlk := B.notSynchronized
  have hin : meth.name = "<init>" := (name_of_methodNamed B.named B.method).1
  have hts : ∀ w ∈ wsL_law, w.before args s = true := fun w hw => atoms_spec B.pre w (List.mem_cons_of_mem _ hw)
  have hown : s.vm.findClass RX0 = some m.cls := findClass_of_methodNamed B.named
  have hW : Wd D A s.heap ((h0, .inr (0, [.int 0, .null, .null, .null, .null, .null, .null, .null, .null])) :: Z) s.heap [] := ⟨hP, hD, va_S.rf⟩
  have hl := lv_entry [.ref h0] (n := 1) (Nat.le_of_ble_eq_true rfl)
  refine W.eq (en_eq ha) ?_
  generalize (lg_sl [.ref h0] ++ List.replicate (1 - (lg_sl [.ref h0]).length) Slot.unset).toArray = ls at hl ⊢
  have hl : lv_has ls 1 [(0, .ref h0)] := hl
  clear hP hD B ha
  change W p l e (rmi 1 8 2052) s m args below meth c s.heap [] 0 0 _ (F0 m 0 ls [])
  refine lv_aload_n hx hb dX0_init_0 rfl (lv_at hl 0 rfl) ?_
  refine W.objInit hx hb hown (hts _ wm6_17) (hts _ wm1_9) (hts _ wm1_10) rfl (by rw [hml]; exact hl.1) rfl dX0_init_1 (Nat.le_of_ble_eq_true rfl) (Nat.le_of_ble_eq_true rfl) ?_
  refine W.eq (g2 := F0 m 4 ls []) rfl ?_
  refine lv_aload_n hx hb dX0_init_4 rfl (lv_at hl 0 rfl) ?_
  refine lv_iconst (v := 0) hx hb dX0_init_5 (by decide) ?_
  refine va_put (D := D) (ci := 0) (v := .int 0) (ty := .int) (C := RX0) (T := TX0) (N := 9) hx hb hts inlX0 tyX0 tyX0_ok nmX0 hown hK hW.1 hW.2.1 hW.2.2 0 rfl rfl 0 (by decide) (hts _ wm6_18) (fun _ h9 => h9) rfl (by decide +kernel) rfl rfl (Nat.le_of_ble_eq_true rfl) dX0_init_6 (fun H locs hP hD hS => ?_)
  have hW : Wd D A s.heap ((h0, .inr (0, [.int 0, .null, .null, .null, .null, .null, .null, .null, .null])) :: Z) H locs := ⟨hP, hD, hS⟩
  refine lv_aload_n hx hb dX0_init_9 rfl (lv_at hl 0 rfl) ?_
  refine lv_bipush (v := 36) hx hb dX0_init_10 (by decide) ?_
  refine n_newa hx hb hts hK hA hW 36 (by decide) (by decide) (by decide) (Nat.le_of_ble_eq_true rfl) (Nat.le_of_ble_eq_true rfl) dX0_init_12 (fun qn1 H hW => ?_)
  refine va_putF (D := D) (ci := 0) (v := .ref qn1) (ty := .array .int) (C := RX0) (T := TX0) (N := 9) hx hb hts inlX0 tyX0 tyX0_ok nmX0 hown hK hW.1 hW.2.1 hW.2.2 1 rfl rfl 1 (by decide) (hts _ wm6_19) (fun _ h9 => h9) rfl hin (by decide +kernel) (by decide +kernel) rfl rfl (Nat.le_of_ble_eq_true rfl) dX0_init_14 (fun H locs hP hD hS => ?_)
  have hW : Wd D A s.heap ((qn1, .inl (T 0, 36, .inl (fun _ => 0))) :: ((h0, .inr (0, [.int 0, .ref qn1, .null, .null, .null, .null, .null, .null, .null])) :: Z)) H locs := ⟨hP, hD, hS⟩
  refine lv_aload_n hx hb dX0_init_17 rfl (lv_at hl 0 rfl) ?_
  refine lv_sipush (v := 288) hx hb dX0_init_18 (by decide) ?_
  refine n_newa hx hb hts hK hA hW 288 (by decide) (by decide) (by decide) (Nat.le_of_ble_eq_true rfl) (Nat.le_of_ble_eq_true rfl) dX0_init_21 (fun qn2 H hW => ?_)
  refine va_putF (D := D) (ci := 0) (v := .ref qn2) (ty := .array .int) (C := RX0) (T := TX0) (N := 9) hx hb hts inlX0 tyX0 tyX0_ok nmX0 hown hK hW.1 hW.2.1 hW.2.2 2 rfl rfl 2 (by decide) (hts _ wm6_20) (fun _ h9 => h9) rfl hin (by decide +kernel) (by decide +kernel) rfl rfl (Nat.le_of_ble_eq_true rfl) dX0_init_23 (fun H locs hP hD hS => ?_)
  have hW : Wd D A s.heap ((qn2, .inl (T 0, 288, .inl (fun _ => 0))) :: ((qn1, .inl (T 0, 36, .inl (fun _ => 0))) :: ((h0, .inr (0, [.int 0, .ref qn1, .ref qn2, .null, .null, .null, .null, .null, .null])) :: Z))) H locs := ⟨hP, hD, hS⟩
  refine lv_aload_n hx hb dX0_init_26 rfl (lv_at hl 0 rfl) ?_
  refine lv_sipush (v := 288) hx hb dX0_init_27 (by decide) ?_
  refine n_newa hx hb hts hK hA hW 288 (by decide) (by decide) (by decide) (Nat.le_of_ble_eq_true rfl) (Nat.le_of_ble_eq_true rfl) dX0_init_30 (fun qn3 H hW => ?_)
  refine va_putF (D := D) (ci := 0) (v := .ref qn3) (ty := .array .int) (C := RX0) (T := TX0) (N := 9) hx hb hts inlX0 tyX0 tyX0_ok nmX0 hown hK hW.1 hW.2.1 hW.2.2 3 rfl rfl 3 (by decide) (hts _ wm6_21) (fun _ h9 => h9) rfl hin (by decide +kernel) (by decide +kernel) rfl rfl (Nat.le_of_ble_eq_true rfl) dX0_init_32 (fun H locs hP hD hS => ?_)
  have hW : Wd D A s.heap ((qn3, .inl (T 0, 288, .inl (fun _ => 0))) :: ((qn2, .inl (T 0, 288, .inl (fun _ => 0))) :: ((qn1, .inl (T 0, 36, .inl (fun _ => 0))) :: ((h0, .inr (0, [.int 0, .ref qn1, .ref qn2, .ref qn3, .null, .null, .null, .null, .null])) :: Z)))) H locs := ⟨hP, hD, hS⟩
  refine lv_aload_n hx hb dX0_init_35 rfl (lv_at hl 0 rfl) ?_
  refine lv_sipush (v := 288) hx hb dX0_init_36 (by decide) ?_
  refine n_newa hx hb hts hK hA hW 288 (by decide) (by decide) (by decide) (Nat.le_of_ble_eq_true rfl) (Nat.le_of_ble_eq_true rfl) dX0_init_39 (fun qn4 H hW => ?_)
  refine va_putF (D := D) (ci := 0) (v := .ref qn4) (ty := .array .int) (C := RX0) (T := TX0) (N := 9) hx hb hts inlX0 tyX0 tyX0_ok nmX0 hown hK hW.1 hW.2.1 hW.2.2 4 rfl rfl 4 (by decide) (hts _ wm6_22) (fun _ h9 => h9) rfl hin (by decide +kernel) (by decide +kernel) rfl rfl (Nat.le_of_ble_eq_true rfl) dX0_init_41 (fun H locs hP hD hS => ?_)
  have hW : Wd D A s.heap ((qn4, .inl (T 0, 288, .inl (fun _ => 0))) :: ((qn3, .inl (T 0, 288, .inl (fun _ => 0))) :: ((qn2, .inl (T 0, 288, .inl (fun _ => 0))) :: ((qn1, .inl (T 0, 36, .inl (fun _ => 0))) :: ((h0, .inr (0, [.int 0, .ref qn1, .ref qn2, .ref qn3, .ref qn4, .null, .null, .null, .null])) :: Z))))) H locs := ⟨hP, hD, hS⟩
  refine lv_aload_n hx hb dX0_init_44 rfl (lv_at hl 0 rfl) ?_
  refine lv_sipush (v := 288) hx hb dX0_init_45 (by decide) ?_
  refine n_newa hx hb hts hK hA hW 288 (by decide) (by decide) (by decide) (Nat.le_of_ble_eq_true rfl) (Nat.le_of_ble_eq_true rfl) dX0_init_48 (fun qn5 H hW => ?_)
  refine va_putF (D := D) (ci := 0) (v := .ref qn5) (ty := .array .int) (C := RX0) (T := TX0) (N := 9) hx hb hts inlX0 tyX0 tyX0_ok nmX0 hown hK hW.1 hW.2.1 hW.2.2 5 rfl rfl 5 (by decide) (hts _ wm6_23) (fun _ h9 => h9) rfl hin (by decide +kernel) (by decide +kernel) rfl rfl (Nat.le_of_ble_eq_true rfl) dX0_init_50 (fun H locs hP hD hS => ?_)
  have hW : Wd D A s.heap ((qn5, .inl (T 0, 288, .inl (fun _ => 0))) :: ((qn4, .inl (T 0, 288, .inl (fun _ => 0))) :: ((qn3, .inl (T 0, 288, .inl (fun _ => 0))) :: ((qn2, .inl (T 0, 288, .inl (fun _ => 0))) :: ((qn1, .inl (T 0, 36, .inl (fun _ => 0))) :: ((h0, .inr (0, [.int 0, .ref qn1, .ref qn2, .ref qn3, .ref qn4, .ref qn5, .null, .null, .null])) :: Z)))))) H locs := ⟨hP, hD, hS⟩
  refine lv_aload_n hx hb dX0_init_53 rfl (lv_at hl 0 rfl) ?_
  refine lv_sipush (v := 288) hx hb dX0_init_54 (by decide) ?_
  refine n_newa hx hb hts hK hA hW 288 (by decide) (by decide) (by decide) (Nat.le_of_ble_eq_true rfl) (Nat.le_of_ble_eq_true rfl) dX0_init_57 (fun qn6 H hW => ?_)
  refine va_putF (D := D) (ci := 0) (v := .ref qn6) (ty := .array .int) (C := RX0) (T := TX0) (N := 9) hx hb hts inlX0 tyX0 tyX0_ok nmX0 hown hK hW.1 hW.2.1 hW.2.2 6 rfl rfl 6 (by decide) (hts _ wm7_0) (fun _ h9 => h9) rfl hin (by decide +kernel) (by decide +kernel) rfl rfl (Nat.le_of_ble_eq_true rfl) dX0_init_59 (fun H locs hP hD hS => ?_)
  have hW : Wd D A s.heap ((qn6, .inl (T 0, 288, .inl (fun _ => 0))) :: ((qn5, .inl (T 0, 288, .inl (fun _ => 0))) :: ((qn4, .inl (T 0, 288, .inl (fun _ => 0))) :: ((qn3, .inl (T 0, 288, .inl (fun _ => 0))) :: ((qn2, .inl (T 0, 288, .inl (fun _ => 0))) :: ((qn1, .inl (T 0, 36, .inl (fun _ => 0))) :: ((h0, .inr (0, [.int 0, .ref qn1, .ref qn2, .ref qn3, .ref qn4, .ref qn5, .ref qn6, .null, .null])) :: Z))))))) H locs := ⟨hP, hD, hS⟩
  refine lv_aload_n hx hb dX0_init_62 rfl (lv_at hl 0 rfl) ?_
  refine lv_sipush (v := 288) hx hb dX0_init_63 (by decide) ?_
  refine n_newa hx hb hts hK hA hW 288 (by decide) (by decide) (by decide) (Nat.le_of_ble_eq_true rfl) (Nat.le_of_ble_eq_true rfl) dX0_init_66 (fun qn7 H hW => ?_)
  refine va_putF (D := D) (ci := 0) (v := .ref qn7) (ty := .array .int) (C := RX0) (T := TX0) (N := 9) hx hb hts inlX0 tyX0 tyX0_ok nmX0 hown hK hW.1 hW.2.1 hW.2.2 7 rfl rfl 7 (by decide) (hts _ wm7_1) (fun _ h9 => h9) rfl hin (by decide +kernel) (by decide +kernel) rfl rfl (Nat.le_of_ble_eq_true rfl) dX0_init_68 (fun H locs hP hD hS => ?_)
  have hW : Wd D A s.heap ((qn7, .inl (T 0, 288, .inl (fun _ => 0))) :: ((qn6, .inl (T 0, 288, .inl (fun _ => 0))) :: ((qn5, .inl (T 0, 288, .inl (fun _ => 0))) :: ((qn4, .inl (T 0, 288, .inl (fun _ => 0))) :: ((qn3, .inl (T 0, 288, .inl (fun _ => 0))) :: ((qn2, .inl (T 0, 288, .inl (fun _ => 0))) :: ((qn1, .inl (T 0, 36, .inl (fun _ => 0))) :: ((h0, .inr (0, [.int 0, .ref qn1, .ref qn2, .ref qn3, .ref qn4, .ref qn5, .ref qn6, .ref qn7, .null])) :: Z)))))))) H locs := ⟨hP, hD, hS⟩
  refine lv_aload_n hx hb dX0_init_71 rfl (lv_at hl 0 rfl) ?_
  refine lv_sipush (v := 288) hx hb dX0_init_72 (by decide) ?_
  refine n_newa hx hb hts hK hA hW 288 (by decide) (by decide) (by decide) (Nat.le_of_ble_eq_true rfl) (Nat.le_of_ble_eq_true rfl) dX0_init_75 (fun qn8 H hW => ?_)
  refine va_putF (D := D) (ci := 0) (v := .ref qn8) (ty := .array .int) (C := RX0) (T := TX0) (N := 9) hx hb hts inlX0 tyX0 tyX0_ok nmX0 hown hK hW.1 hW.2.1 hW.2.2 8 rfl rfl 8 (by decide) (hts _ wm7_2) (fun _ h9 => h9) rfl hin (by decide +kernel) (by decide +kernel) rfl rfl (Nat.le_of_ble_eq_true rfl) dX0_init_77 (fun H locs hP hD hS => ?_)
  have hW : Wd D A s.heap ((qn8, .inl (T 0, 288, .inl (fun _ => 0))) :: ((qn7, .inl (T 0, 288, .inl (fun _ => 0))) :: ((qn6, .inl (T 0, 288, .inl (fun _ => 0))) :: ((qn5, .inl (T 0, 288, .inl (fun _ => 0))) :: ((qn4, .inl (T 0, 288, .inl (fun _ => 0))) :: ((qn3, .inl (T 0, 288, .inl (fun _ => 0))) :: ((qn2, .inl (T 0, 288, .inl (fun _ => 0))) :: ((qn1, .inl (T 0, 36, .inl (fun _ => 0))) :: ((h0, .inr (0, [.int 0, .ref qn1, .ref qn2, .ref qn3, .ref qn4, .ref qn5, .ref qn6, .ref qn7, .ref qn8])) :: Z))))))))) H locs := ⟨hP, hD, hS⟩
  have hW := hW.perm (show ((qn8, .inl (T 0, 288, .inl (fun _ => 0))) :: ((qn7, .inl (T 0, 288, .inl (fun _ => 0))) :: ((qn6, .inl (T 0, 288, .inl (fun _ => 0))) :: ((qn5, .inl (T 0, 288, .inl (fun _ => 0))) :: ((qn4, .inl (T 0, 288, .inl (fun _ => 0))) :: ((qn3, .inl (T 0, 288, .inl (fun _ => 0))) :: ((qn2, .inl (T 0, 288, .inl (fun _ => 0))) :: ((qn1, .inl (T 0, 36, .inl (fun _ => 0))) :: ((h0, .inr (0, [.int 0, .ref qn1, .ref qn2, .ref qn3, .ref qn4, .ref qn5, .ref qn6, .ref qn7, .ref qn8])) :: Z))))))))).Perm (oc_X0 T (adf [h0, qn1, qn2, qn3, qn4, qn5, qn6, qn7, qn8]) z0 ++ Z) from List.Perm.append_right Z (List.reverse_perm (oc_X0 T (adf [h0, qn1, qn2, qn3, qn4, qn5, qn6, qn7, qn8]) z0)))
  refine W.widen (k := 8) (n := 2052) (Nat.le_of_ble_eq_true rfl) (Nat.le_of_ble_eq_true rfl) ?_
  exact W.vret hx hb hr (fun t ht _ => ⟨⟨(adf [h0, qn1, qn2, qn3, qn4, qn5, qn6, qn7, qn8]), rfl, rfl, by rw [ht]; exact hW.1, hW.2.1⟩, hW.2.2.F ht⟩) hW.2.2.2.2 dX0_init_80 hlk
set_option maxHeartbeats 4000000 in
set_option maxRecDepth 100000 in
theorem i_X1 (l : Launch) (D : va_G) (T : Nat → ClassId) (A : Nat → Prop) (h0 : Nat) (Z : va_W) : Met l yX1_init (Cond.code yX1_init cX1_init 1 none :: wsL_law) (rmi 1 3 21) (Pi D T A ((h0, .inr (1, [.int 0, .null, .null, .null])) :: Z) [.ref h0]) (Qi D A (fun u : Nat → Nat => u 0 = h0) (fun u => oc_X1 T u z0 ++ Z)) 3 21 A := by
  refine Met.ofW (cc := cX1_init) (maxL := 1) (ret := none) (by decide +kernel) rfl ?_
  intro p e s m args below meth c s₁ B hml hv
  obtain ⟨ha, hP, hK, hD, hN, hA⟩ := hv
  have hx := B.exec
  have hb := B.bytes
  have hr := B.returns
  have hlk := B.notSynchronized
  have hin : meth.name = "<init>" := (name_of_methodNamed B.named B.method).1
  have hts : ∀ w ∈ wsL_law, w.before args s = true := fun w hw => atoms_spec B.pre w (List.mem_cons_of_mem _ hw)
  have hown : s.vm.findClass RX1 = some m.cls := findClass_of_methodNamed B.named
  have hW : Wd D A s.heap ((h0, .inr (1, [.int 0, .null, .null, .null])) :: Z) s.heap [] := ⟨hP, hD, va_S.rf⟩
  have hl := lv_entry [.ref h0] (n := 1) (Nat.le_of_ble_eq_true rfl)
  refine W.eq (en_eq ha) ?_
  generalize (lg_sl [.ref h0] ++ List.replicate (1 - (lg_sl [.ref h0]).length) Slot.unset).toArray = ls at hl ⊢
  have hl : lv_has ls 1 [(0, .ref h0)] := hl
  clear hP hD B ha
  change W p l e (rmi 1 3 21) s m args below meth c s.heap [] 0 0 _ (F0 m 0 ls [])
  refine lv_aload_n hx hb dX1_init_0 rfl (lv_at hl 0 rfl) ?_
  refine W.objInit hx hb hown (hts _ wm5_11) (hts _ wm1_9) (hts _ wm1_10) rfl (by rw [hml]; exact hl.1) rfl dX1_init_1 (Nat.le_of_ble_eq_true rfl) (Nat.le_of_ble_eq_true rfl) ?_
  refine W.eq (g2 := F0 m 4 ls []) rfl ?_
  refine lv_aload_n hx hb dX1_init_4 rfl (lv_at hl 0 rfl) ?_
  refine lv_iconst (v := 0) hx hb dX1_init_5 (by decide) ?_
  refine va_put (D := D) (ci := 1) (v := .int 0) (ty := .int) (C := RX1) (T := TX1) (N := 4) hx hb hts inlX1 tyX1 tyX1_ok nmX1 hown hK hW.1 hW.2.1 hW.2.2 0 rfl rfl 0 (by decide) (hts _ wm5_12) (fun _ h9 => h9) rfl (by decide +kernel) rfl rfl (Nat.le_of_ble_eq_true rfl) dX1_init_6 (fun H locs hP hD hS => ?_)
  have hW : Wd D A s.heap ((h0, .inr (1, [.int 0, .null, .null, .null])) :: Z) H locs := ⟨hP, hD, hS⟩
  refine lv_aload_n hx hb dX1_init_9 rfl (lv_at hl 0 rfl) ?_
  refine lv_bipush (v := 7) hx hb dX1_init_10 (by decide) ?_
  refine n_newa hx hb hts hK hA hW 7 (by decide) (by decide) (by decide) (Nat.le_of_ble_eq_true rfl) (Nat.le_of_ble_eq_true rfl) dX1_init_12 (fun qn1 H hW => ?_)
  refine va_putF (D := D) (ci := 1) (v := .ref qn1) (ty := .array .int) (C := RX1) (T := TX1) (N := 4) hx hb hts inlX1 tyX1 tyX1_ok nmX1 hown hK hW.1 hW.2.1 hW.2.2 1 rfl rfl 1 (by decide) (hts _ wm5_13) (fun _ h9 => h9) rfl hin (by decide +kernel) (by decide +kernel) rfl rfl (Nat.le_of_ble_eq_true rfl) dX1_init_14 (fun H locs hP hD hS => ?_)
  have hW : Wd D A s.heap ((qn1, .inl (T 0, 7, .inl (fun _ => 0))) :: ((h0, .inr (1, [.int 0, .ref qn1, .null, .null])) :: Z)) H locs := ⟨hP, hD, hS⟩
  refine lv_aload_n hx hb dX1_init_17 rfl (lv_at hl 0 rfl) ?_
  refine lv_bipush (v := 7) hx hb dX1_init_18 (by decide) ?_
  refine n_newa hx hb hts hK hA hW 7 (by decide) (by decide) (by decide) (Nat.le_of_ble_eq_true rfl) (Nat.le_of_ble_eq_true rfl) dX1_init_20 (fun qn2 H hW => ?_)
  refine va_putF (D := D) (ci := 1) (v := .ref qn2) (ty := .array .int) (C := RX1) (T := TX1) (N := 4) hx hb hts inlX1 tyX1 tyX1_ok nmX1 hown hK hW.1 hW.2.1 hW.2.2 2 rfl rfl 2 (by decide) (hts _ wm5_14) (fun _ h9 => h9) rfl hin (by decide +kernel) (by decide +kernel) rfl rfl (Nat.le_of_ble_eq_true rfl) dX1_init_22 (fun H locs hP hD hS => ?_)
  have hW : Wd D A s.heap ((qn2, .inl (T 0, 7, .inl (fun _ => 0))) :: ((qn1, .inl (T 0, 7, .inl (fun _ => 0))) :: ((h0, .inr (1, [.int 0, .ref qn1, .ref qn2, .null])) :: Z))) H locs := ⟨hP, hD, hS⟩
  refine lv_aload_n hx hb dX1_init_25 rfl (lv_at hl 0 rfl) ?_
  refine lv_bipush (v := 7) hx hb dX1_init_26 (by decide) ?_
  refine n_newa hx hb hts hK hA hW 7 (by decide) (by decide) (by decide) (Nat.le_of_ble_eq_true rfl) (Nat.le_of_ble_eq_true rfl) dX1_init_28 (fun qn3 H hW => ?_)
  refine va_putF (D := D) (ci := 1) (v := .ref qn3) (ty := .array .int) (C := RX1) (T := TX1) (N := 4) hx hb hts inlX1 tyX1 tyX1_ok nmX1 hown hK hW.1 hW.2.1 hW.2.2 3 rfl rfl 3 (by decide) (hts _ wm5_15) (fun _ h9 => h9) rfl hin (by decide +kernel) (by decide +kernel) rfl rfl (Nat.le_of_ble_eq_true rfl) dX1_init_30 (fun H locs hP hD hS => ?_)
  have hW : Wd D A s.heap ((qn3, .inl (T 0, 7, .inl (fun _ => 0))) :: ((qn2, .inl (T 0, 7, .inl (fun _ => 0))) :: ((qn1, .inl (T 0, 7, .inl (fun _ => 0))) :: ((h0, .inr (1, [.int 0, .ref qn1, .ref qn2, .ref qn3])) :: Z)))) H locs := ⟨hP, hD, hS⟩
  have hW := hW.perm (show ((qn3, .inl (T 0, 7, .inl (fun _ => 0))) :: ((qn2, .inl (T 0, 7, .inl (fun _ => 0))) :: ((qn1, .inl (T 0, 7, .inl (fun _ => 0))) :: ((h0, .inr (1, [.int 0, .ref qn1, .ref qn2, .ref qn3])) :: Z)))).Perm (oc_X1 T (adf [h0, qn1, qn2, qn3]) z0 ++ Z) from List.Perm.append_right Z (List.reverse_perm (oc_X1 T (adf [h0, qn1, qn2, qn3]) z0)))
  refine W.widen (k := 3) (n := 21) (Nat.le_of_ble_eq_true rfl) (Nat.le_of_ble_eq_true rfl) ?_
  exact W.vret hx hb hr (fun t ht _ => ⟨⟨(adf [h0, qn1, qn2, qn3]), rfl, rfl, by rw [ht]; exact hW.1, hW.2.1⟩, hW.2.2.F ht⟩) hW.2.2.2.2 dX1_init_33 hlk
set_option maxHeartbeats 4000000 in
set_option maxRecDepth 100000 in
theorem i_X2 (l : Launch) (D : va_G) (T : Nat → ClassId) (A : Nat → Prop) (h0 : Nat) (Z : va_W) : Met l yX2_init (Cond.code yX2_init cX2_init 1 none :: wsL_law) (rmi 1 11 291) (Pi D T A ((h0, .inr (2, [.int 0, .null, .null, .null, .null, .int 0, .null, .null, .null, .null, .null, .null, .null, .int 0, .int 0])) :: Z) [.ref h0]) (Qi D A (fun u : Nat → Nat => u 0 = h0) (fun u => oc_X2 T u z0 ++ Z)) 11 291 A := by
  refine Met.ofW (cc := cX2_init) (maxL := 1) (ret := none) (by decide +kernel) rfl ?_
  intro p e s m args below meth c s₁ B hml hv
  obtain ⟨ha, hP, hK, hD, hN, hA⟩ := hv
  have hx := B.exec
  have hb := B.bytes
  have hr := B.returns
  have hlk := B.notSynchronized
  have hin : meth.name = "<init>" := (name_of_methodNamed B.named B.method).1
  have hts : ∀ w ∈ wsL_law, w.before args s = true := fun w hw => atoms_spec B.pre w (List.mem_cons_of_mem _ hw)
  have hown : s.vm.findClass RX2 = some m.cls := findClass_of_methodNamed B.named
  have hW : Wd D A s.heap ((h0, .inr (2, [.int 0, .null, .null, .null, .null, .int 0, .null, .null, .null, .null, .null, .null, .null, .int 0, .int 0])) :: Z) s.heap [] := ⟨hP, hD, va_S.rf⟩
  have hl := lv_entry [.ref h0] (n := 1) (Nat.le_of_ble_eq_true rfl)
  refine W.eq (en_eq ha) ?_
  generalize (lg_sl [.ref h0] ++ List.replicate (1 - (lg_sl [.ref h0]).length) Slot.unset).toArray = ls at hl ⊢
  have hl : lv_has ls 1 [(0, .ref h0)] := hl
  clear hP hD B ha
  change W p l e (rmi 1 11 291) s m args below meth c s.heap [] 0 0 _ (F0 m 0 ls [])
  refine lv_aload_n hx hb dX2_init_0 rfl (lv_at hl 0 rfl) ?_
  refine W.objInit hx hb hown (hts _ wm4_0) (hts _ wm1_9) (hts _ wm1_10) rfl (by rw [hml]; exact hl.1) rfl dX2_init_1 (Nat.le_of_ble_eq_true rfl) (Nat.le_of_ble_eq_true rfl) ?_
  refine W.eq (g2 := F0 m 4 ls []) rfl ?_
  refine lv_aload_n hx hb dX2_init_4 rfl (lv_at hl 0 rfl) ?_
  refine lv_iconst (v := 0) hx hb dX2_init_5 (by decide) ?_
  refine va_put (D := D) (ci := 2) (v := .int 0) (ty := .int) (C := RX2) (T := TX2) (N := 15) hx hb hts inlX2 tyX2 tyX2_ok nmX2 hown hK hW.1 hW.2.1 hW.2.2 0 rfl rfl 0 (by decide) (hts _ wm4_1) (fun _ h9 => h9) rfl (by decide +kernel) rfl rfl (Nat.le_of_ble_eq_true rfl) dX2_init_6 (fun H locs hP hD hS => ?_)
  have hW : Wd D A s.heap ((h0, .inr (2, [.int 0, .null, .null, .null, .null, .int 0, .null, .null, .null, .null, .null, .null, .null, .int 0, .int 0])) :: Z) H locs := ⟨hP, hD, hS⟩
  refine lv_aload_n hx hb dX2_init_9 rfl (lv_at hl 0 rfl) ?_
  refine lv_bipush (v := 16) hx hb dX2_init_10 (by decide) ?_
  refine n_newa hx hb hts hK hA hW 16 (by decide) (by decide) (by decide) (Nat.le_of_ble_eq_true rfl) (Nat.le_of_ble_eq_true rfl) dX2_init_12 (fun qn1 H hW => ?_)
  refine va_putF (D := D) (ci := 2) (v := .ref qn1) (ty := .array .int) (C := RX2) (T := TX2) (N := 15) hx hb hts inlX2 tyX2 tyX2_ok nmX2 hown hK hW.1 hW.2.1 hW.2.2 1 rfl rfl 1 (by decide) (hts _ wm4_2) (fun _ h9 => h9) rfl hin (by decide +kernel) (by decide +kernel) rfl rfl (Nat.le_of_ble_eq_true rfl) dX2_init_14 (fun H locs hP hD hS => ?_)
  have hW : Wd D A s.heap ((qn1, .inl (T 0, 16, .inl (fun _ => 0))) :: ((h0, .inr (2, [.int 0, .ref qn1, .null, .null, .null, .int 0, .null, .null, .null, .null, .null, .null, .null, .int 0, .int 0])) :: Z)) H locs := ⟨hP, hD, hS⟩
  refine lv_aload_n hx hb dX2_init_17 rfl (lv_at hl 0 rfl) ?_
  refine lv_bipush (v := 16) hx hb dX2_init_18 (by decide) ?_
  refine n_newa hx hb hts hK hA hW 16 (by decide) (by decide) (by decide) (Nat.le_of_ble_eq_true rfl) (Nat.le_of_ble_eq_true rfl) dX2_init_20 (fun qn2 H hW => ?_)
  refine va_putF (D := D) (ci := 2) (v := .ref qn2) (ty := .array .int) (C := RX2) (T := TX2) (N := 15) hx hb hts inlX2 tyX2 tyX2_ok nmX2 hown hK hW.1 hW.2.1 hW.2.2 2 rfl rfl 2 (by decide) (hts _ wm4_3) (fun _ h9 => h9) rfl hin (by decide +kernel) (by decide +kernel) rfl rfl (Nat.le_of_ble_eq_true rfl) dX2_init_22 (fun H locs hP hD hS => ?_)
  have hW : Wd D A s.heap ((qn2, .inl (T 0, 16, .inl (fun _ => 0))) :: ((qn1, .inl (T 0, 16, .inl (fun _ => 0))) :: ((h0, .inr (2, [.int 0, .ref qn1, .ref qn2, .null, .null, .int 0, .null, .null, .null, .null, .null, .null, .null, .int 0, .int 0])) :: Z))) H locs := ⟨hP, hD, hS⟩
  refine lv_aload_n hx hb dX2_init_25 rfl (lv_at hl 0 rfl) ?_
  refine lv_bipush (v := 16) hx hb dX2_init_26 (by decide) ?_
  refine n_newa hx hb hts hK hA hW 16 (by decide) (by decide) (by decide) (Nat.le_of_ble_eq_true rfl) (Nat.le_of_ble_eq_true rfl) dX2_init_28 (fun qn3 H hW => ?_)
  refine va_putF (D := D) (ci := 2) (v := .ref qn3) (ty := .array .int) (C := RX2) (T := TX2) (N := 15) hx hb hts inlX2 tyX2 tyX2_ok nmX2 hown hK hW.1 hW.2.1 hW.2.2 3 rfl rfl 3 (by decide) (hts _ wm4_4) (fun _ h9 => h9) rfl hin (by decide +kernel) (by decide +kernel) rfl rfl (Nat.le_of_ble_eq_true rfl) dX2_init_30 (fun H locs hP hD hS => ?_)
  have hW : Wd D A s.heap ((qn3, .inl (T 0, 16, .inl (fun _ => 0))) :: ((qn2, .inl (T 0, 16, .inl (fun _ => 0))) :: ((qn1, .inl (T 0, 16, .inl (fun _ => 0))) :: ((h0, .inr (2, [.int 0, .ref qn1, .ref qn2, .ref qn3, .null, .int 0, .null, .null, .null, .null, .null, .null, .null, .int 0, .int 0])) :: Z)))) H locs := ⟨hP, hD, hS⟩
  refine lv_aload_n hx hb dX2_init_33 rfl (lv_at hl 0 rfl) ?_
  refine lv_bipush (v := 16) hx hb dX2_init_34 (by decide) ?_
  refine n_newa hx hb hts hK hA hW 16 (by decide) (by decide) (by decide) (Nat.le_of_ble_eq_true rfl) (Nat.le_of_ble_eq_true rfl) dX2_init_36 (fun qn4 H hW => ?_)
  refine va_putF (D := D) (ci := 2) (v := .ref qn4) (ty := .array .int) (C := RX2) (T := TX2) (N := 15) hx hb hts inlX2 tyX2 tyX2_ok nmX2 hown hK hW.1 hW.2.1 hW.2.2 4 rfl rfl 4 (by decide) (hts _ wm4_5) (fun _ h9 => h9) rfl hin (by decide +kernel) (by decide +kernel) rfl rfl (Nat.le_of_ble_eq_true rfl) dX2_init_38 (fun H locs hP hD hS => ?_)
  have hW : Wd D A s.heap ((qn4, .inl (T 0, 16, .inl (fun _ => 0))) :: ((qn3, .inl (T 0, 16, .inl (fun _ => 0))) :: ((qn2, .inl (T 0, 16, .inl (fun _ => 0))) :: ((qn1, .inl (T 0, 16, .inl (fun _ => 0))) :: ((h0, .inr (2, [.int 0, .ref qn1, .ref qn2, .ref qn3, .ref qn4, .int 0, .null, .null, .null, .null, .null, .null, .null, .int 0, .int 0])) :: Z))))) H locs := ⟨hP, hD, hS⟩
  refine lv_aload_n hx hb dX2_init_41 rfl (lv_at hl 0 rfl) ?_
  refine lv_iconst (v := 0) hx hb dX2_init_42 (by decide) ?_
  refine va_put (D := D) (ci := 2) (v := .int 0) (ty := .int) (C := RX2) (T := TX2) (N := 15) hx hb hts inlX2 tyX2 tyX2_ok nmX2 hown hK hW.1 hW.2.1 hW.2.2 4 rfl rfl 5 (by decide) (hts _ wm4_6) (fun _ h9 => h9) rfl (by decide +kernel) rfl rfl (Nat.le_of_ble_eq_true rfl) dX2_init_43 (fun H locs hP hD hS => ?_)
  have hW : Wd D A s.heap ((qn4, .inl (T 0, 16, .inl (fun _ => 0))) :: ((qn3, .inl (T 0, 16, .inl (fun _ => 0))) :: ((qn2, .inl (T 0, 16, .inl (fun _ => 0))) :: ((qn1, .inl (T 0, 16, .inl (fun _ => 0))) :: ((h0, .inr (2, [.int 0, .ref qn1, .ref qn2, .ref qn3, .ref qn4, .int 0, .null, .null, .null, .null, .null, .null, .null, .int 0, .int 0])) :: Z))))) H locs := ⟨hP, hD, hS⟩
  refine lv_aload_n hx hb dX2_init_46 rfl (lv_at hl 0 rfl) ?_
  refine lv_bipush (v := 16) hx hb dX2_init_47 (by decide) ?_
  refine n_newa hx hb hts hK hA hW 16 (by decide) (by decide) (by decide) (Nat.le_of_ble_eq_true rfl) (Nat.le_of_ble_eq_true rfl) dX2_init_49 (fun qn5 H hW => ?_)
  refine va_putF (D := D) (ci := 2) (v := .ref qn5) (ty := .array .int) (C := RX2) (T := TX2) (N := 15) hx hb hts inlX2 tyX2 tyX2_ok nmX2 hown hK hW.1 hW.2.1 hW.2.2 5 rfl rfl 6 (by decide) (hts _ wm4_7) (fun _ h9 => h9) rfl hin (by decide +kernel) (by decide +kernel) rfl rfl (Nat.le_of_ble_eq_true rfl) dX2_init_51 (fun H locs hP hD hS => ?_)
  have hW : Wd D A s.heap ((qn5, .inl (T 0, 16, .inl (fun _ => 0))) :: ((qn4, .inl (T 0, 16, .inl (fun _ => 0))) :: ((qn3, .inl (T 0, 16, .inl (fun _ => 0))) :: ((qn2, .inl (T 0, 16, .inl (fun _ => 0))) :: ((qn1, .inl (T 0, 16, .inl (fun _ => 0))) :: ((h0, .inr (2, [.int 0, .ref qn1, .ref qn2, .ref qn3, .ref qn4, .int 0, .ref qn5, .null, .null, .null, .null, .null, .null, .int 0, .int 0])) :: Z)))))) H locs := ⟨hP, hD, hS⟩
  refine lv_aload_n hx hb dX2_init_54 rfl (lv_at hl 0 rfl) ?_
  refine lv_bipush (v := 16) hx hb dX2_init_55 (by decide) ?_
  refine n_newa hx hb hts hK hA hW 16 (by decide) (by decide) (by decide) (Nat.le_of_ble_eq_true rfl) (Nat.le_of_ble_eq_true rfl) dX2_init_57 (fun qn6 H hW => ?_)
  refine va_putF (D := D) (ci := 2) (v := .ref qn6) (ty := .array .int) (C := RX2) (T := TX2) (N := 15) hx hb hts inlX2 tyX2 tyX2_ok nmX2 hown hK hW.1 hW.2.1 hW.2.2 6 rfl rfl 7 (by decide) (hts _ wm4_8) (fun _ h9 => h9) rfl hin (by decide +kernel) (by decide +kernel) rfl rfl (Nat.le_of_ble_eq_true rfl) dX2_init_59 (fun H locs hP hD hS => ?_)
  have hW : Wd D A s.heap ((qn6, .inl (T 0, 16, .inl (fun _ => 0))) :: ((qn5, .inl (T 0, 16, .inl (fun _ => 0))) :: ((qn4, .inl (T 0, 16, .inl (fun _ => 0))) :: ((qn3, .inl (T 0, 16, .inl (fun _ => 0))) :: ((qn2, .inl (T 0, 16, .inl (fun _ => 0))) :: ((qn1, .inl (T 0, 16, .inl (fun _ => 0))) :: ((h0, .inr (2, [.int 0, .ref qn1, .ref qn2, .ref qn3, .ref qn4, .int 0, .ref qn5, .ref qn6, .null, .null, .null, .null, .null, .int 0, .int 0])) :: Z))))))) H locs := ⟨hP, hD, hS⟩
  refine lv_aload_n hx hb dX2_init_62 rfl (lv_at hl 0 rfl) ?_
  refine lv_bipush (v := 48) hx hb dX2_init_63 (by decide) ?_
  refine n_newa hx hb hts hK hA hW 48 (by decide) (by decide) (by decide) (Nat.le_of_ble_eq_true rfl) (Nat.le_of_ble_eq_true rfl) dX2_init_65 (fun qn7 H hW => ?_)
  refine va_putF (D := D) (ci := 2) (v := .ref qn7) (ty := .array .int) (C := RX2) (T := TX2) (N := 15) hx hb hts inlX2 tyX2 tyX2_ok nmX2 hown hK hW.1 hW.2.1 hW.2.2 7 rfl rfl 8 (by decide) (hts _ wm4_9) (fun _ h9 => h9) rfl hin (by decide +kernel) (by decide +kernel) rfl rfl (Nat.le_of_ble_eq_true rfl) dX2_init_67 (fun H locs hP hD hS => ?_)
  have hW : Wd D A s.heap ((qn7, .inl (T 0, 48, .inl (fun _ => 0))) :: ((qn6, .inl (T 0, 16, .inl (fun _ => 0))) :: ((qn5, .inl (T 0, 16, .inl (fun _ => 0))) :: ((qn4, .inl (T 0, 16, .inl (fun _ => 0))) :: ((qn3, .inl (T 0, 16, .inl (fun _ => 0))) :: ((qn2, .inl (T 0, 16, .inl (fun _ => 0))) :: ((qn1, .inl (T 0, 16, .inl (fun _ => 0))) :: ((h0, .inr (2, [.int 0, .ref qn1, .ref qn2, .ref qn3, .ref qn4, .int 0, .ref qn5, .ref qn6, .ref qn7, .null, .null, .null, .null, .int 0, .int 0])) :: Z)))))))) H locs := ⟨hP, hD, hS⟩
  refine lv_aload_n hx hb dX2_init_70 rfl (lv_at hl 0 rfl) ?_
  refine lv_bipush (v := 48) hx hb dX2_init_71 (by decide) ?_
  refine n_newa hx hb hts hK hA hW 48 (by decide) (by decide) (by decide) (Nat.le_of_ble_eq_true rfl) (Nat.le_of_ble_eq_true rfl) dX2_init_73 (fun qn8 H hW => ?_)
  refine va_putF (D := D) (ci := 2) (v := .ref qn8) (ty := .array .int) (C := RX2) (T := TX2) (N := 15) hx hb hts inlX2 tyX2 tyX2_ok nmX2 hown hK hW.1 hW.2.1 hW.2.2 8 rfl rfl 9 (by decide) (hts _ wm4_10) (fun _ h9 => h9) rfl hin (by decide +kernel) (by decide +kernel) rfl rfl (Nat.le_of_ble_eq_true rfl) dX2_init_75 (fun H locs hP hD hS => ?_)
  have hW : Wd D A s.heap ((qn8, .inl (T 0, 48, .inl (fun _ => 0))) :: ((qn7, .inl (T 0, 48, .inl (fun _ => 0))) :: ((qn6, .inl (T 0, 16, .inl (fun _ => 0))) :: ((qn5, .inl (T 0, 16, .inl (fun _ => 0))) :: ((qn4, .inl (T 0, 16, .inl (fun _ => 0))) :: ((qn3, .inl (T 0, 16, .inl (fun _ => 0))) :: ((qn2, .inl (T 0, 16, .inl (fun _ => 0))) :: ((qn1, .inl (T 0, 16, .inl (fun _ => 0))) :: ((h0, .inr (2, [.int 0, .ref qn1, .ref qn2, .ref qn3, .ref qn4, .int 0, .ref qn5, .ref qn6, .ref qn7, .ref qn8, .null, .null, .null, .int 0, .int 0])) :: Z))))))))) H locs := ⟨hP, hD, hS⟩
  refine lv_aload_n hx hb dX2_init_78 rfl (lv_at hl 0 rfl) ?_
  refine lv_bipush (v := 48) hx hb dX2_init_79 (by decide) ?_
  refine n_newa hx hb hts hK hA hW 48 (by decide) (by decide) (by decide) (Nat.le_of_ble_eq_true rfl) (Nat.le_of_ble_eq_true rfl) dX2_init_81 (fun qn9 H hW => ?_)
  refine va_putF (D := D) (ci := 2) (v := .ref qn9) (ty := .array .int) (C := RX2) (T := TX2) (N := 15) hx hb hts inlX2 tyX2 tyX2_ok nmX2 hown hK hW.1 hW.2.1 hW.2.2 9 rfl rfl 10 (by decide) (hts _ wm4_11) (fun _ h9 => h9) rfl hin (by decide +kernel) (by decide +kernel) rfl rfl (Nat.le_of_ble_eq_true rfl) dX2_init_83 (fun H locs hP hD hS => ?_)
  have hW : Wd D A s.heap ((qn9, .inl (T 0, 48, .inl (fun _ => 0))) :: ((qn8, .inl (T 0, 48, .inl (fun _ => 0))) :: ((qn7, .inl (T 0, 48, .inl (fun _ => 0))) :: ((qn6, .inl (T 0, 16, .inl (fun _ => 0))) :: ((qn5, .inl (T 0, 16, .inl (fun _ => 0))) :: ((qn4, .inl (T 0, 16, .inl (fun _ => 0))) :: ((qn3, .inl (T 0, 16, .inl (fun _ => 0))) :: ((qn2, .inl (T 0, 16, .inl (fun _ => 0))) :: ((qn1, .inl (T 0, 16, .inl (fun _ => 0))) :: ((h0, .inr (2, [.int 0, .ref qn1, .ref qn2, .ref qn3, .ref qn4, .int 0, .ref qn5, .ref qn6, .ref qn7, .ref qn8, .ref qn9, .null, .null, .int 0, .int 0])) :: Z)))))))))) H locs := ⟨hP, hD, hS⟩
  refine lv_aload_n hx hb dX2_init_86 rfl (lv_at hl 0 rfl) ?_
  refine lv_bipush (v := 48) hx hb dX2_init_87 (by decide) ?_
  refine n_newa hx hb hts hK hA hW 48 (by decide) (by decide) (by decide) (Nat.le_of_ble_eq_true rfl) (Nat.le_of_ble_eq_true rfl) dX2_init_89 (fun qn10 H hW => ?_)
  refine va_putF (D := D) (ci := 2) (v := .ref qn10) (ty := .array .int) (C := RX2) (T := TX2) (N := 15) hx hb hts inlX2 tyX2 tyX2_ok nmX2 hown hK hW.1 hW.2.1 hW.2.2 10 rfl rfl 11 (by decide) (hts _ wm4_12) (fun _ h9 => h9) rfl hin (by decide +kernel) (by decide +kernel) rfl rfl (Nat.le_of_ble_eq_true rfl) dX2_init_91 (fun H locs hP hD hS => ?_)
  have hW : Wd D A s.heap ((qn10, .inl (T 0, 48, .inl (fun _ => 0))) :: ((qn9, .inl (T 0, 48, .inl (fun _ => 0))) :: ((qn8, .inl (T 0, 48, .inl (fun _ => 0))) :: ((qn7, .inl (T 0, 48, .inl (fun _ => 0))) :: ((qn6, .inl (T 0, 16, .inl (fun _ => 0))) :: ((qn5, .inl (T 0, 16, .inl (fun _ => 0))) :: ((qn4, .inl (T 0, 16, .inl (fun _ => 0))) :: ((qn3, .inl (T 0, 16, .inl (fun _ => 0))) :: ((qn2, .inl (T 0, 16, .inl (fun _ => 0))) :: ((qn1, .inl (T 0, 16, .inl (fun _ => 0))) :: ((h0, .inr (2, [.int 0, .ref qn1, .ref qn2, .ref qn3, .ref qn4, .int 0, .ref qn5, .ref qn6, .ref qn7, .ref qn8, .ref qn9, .ref qn10, .null, .int 0, .int 0])) :: Z))))))))))) H locs := ⟨hP, hD, hS⟩
  refine lv_aload_n hx hb dX2_init_94 rfl (lv_at hl 0 rfl) ?_
  refine lv_iconst (v := 3) hx hb dX2_init_95 (by decide) ?_
  refine n_newa hx hb hts hK hA hW 3 (by decide) (by decide) (by decide) (Nat.le_of_ble_eq_true rfl) (Nat.le_of_ble_eq_true rfl) dX2_init_96 (fun qn11 H hW => ?_)
  refine va_putF (D := D) (ci := 2) (v := .ref qn11) (ty := .array .int) (C := RX2) (T := TX2) (N := 15) hx hb hts inlX2 tyX2 tyX2_ok nmX2 hown hK hW.1 hW.2.1 hW.2.2 11 rfl rfl 12 (by decide) (hts _ wm4_13) (fun _ h9 => h9) rfl hin (by decide +kernel) (by decide +kernel) rfl rfl (Nat.le_of_ble_eq_true rfl) dX2_init_98 (fun H locs hP hD hS => ?_)
  have hW : Wd D A s.heap ((qn11, .inl (T 0, 3, .inl (fun _ => 0))) :: ((qn10, .inl (T 0, 48, .inl (fun _ => 0))) :: ((qn9, .inl (T 0, 48, .inl (fun _ => 0))) :: ((qn8, .inl (T 0, 48, .inl (fun _ => 0))) :: ((qn7, .inl (T 0, 48, .inl (fun _ => 0))) :: ((qn6, .inl (T 0, 16, .inl (fun _ => 0))) :: ((qn5, .inl (T 0, 16, .inl (fun _ => 0))) :: ((qn4, .inl (T 0, 16, .inl (fun _ => 0))) :: ((qn3, .inl (T 0, 16, .inl (fun _ => 0))) :: ((qn2, .inl (T 0, 16, .inl (fun _ => 0))) :: ((qn1, .inl (T 0, 16, .inl (fun _ => 0))) :: ((h0, .inr (2, [.int 0, .ref qn1, .ref qn2, .ref qn3, .ref qn4, .int 0, .ref qn5, .ref qn6, .ref qn7, .ref qn8, .ref qn9, .ref qn10, .ref qn11, .int 0, .int 0])) :: Z)))))))))))) H locs := ⟨hP, hD, hS⟩
  refine lv_aload_n hx hb dX2_init_101 rfl (lv_at hl 0 rfl) ?_
  refine lv_iconst (v := 0) hx hb dX2_init_102 (by decide) ?_
  refine va_put (D := D) (ci := 2) (v := .int 0) (ty := .int) (C := RX2) (T := TX2) (N := 15) hx hb hts inlX2 tyX2 tyX2_ok nmX2 hown hK hW.1 hW.2.1 hW.2.2 11 rfl rfl 13 (by decide) (hts _ wm4_14) (fun _ h9 => h9) rfl (by decide +kernel) rfl rfl (Nat.le_of_ble_eq_true rfl) dX2_init_103 (fun H locs hP hD hS => ?_)
  have hW : Wd D A s.heap ((qn11, .inl (T 0, 3, .inl (fun _ => 0))) :: ((qn10, .inl (T 0, 48, .inl (fun _ => 0))) :: ((qn9, .inl (T 0, 48, .inl (fun _ => 0))) :: ((qn8, .inl (T 0, 48, .inl (fun _ => 0))) :: ((qn7, .inl (T 0, 48, .inl (fun _ => 0))) :: ((qn6, .inl (T 0, 16, .inl (fun _ => 0))) :: ((qn5, .inl (T 0, 16, .inl (fun _ => 0))) :: ((qn4, .inl (T 0, 16, .inl (fun _ => 0))) :: ((qn3, .inl (T 0, 16, .inl (fun _ => 0))) :: ((qn2, .inl (T 0, 16, .inl (fun _ => 0))) :: ((qn1, .inl (T 0, 16, .inl (fun _ => 0))) :: ((h0, .inr (2, [.int 0, .ref qn1, .ref qn2, .ref qn3, .ref qn4, .int 0, .ref qn5, .ref qn6, .ref qn7, .ref qn8, .ref qn9, .ref qn10, .ref qn11, .int 0, .int 0])) :: Z)))))))))))) H locs := ⟨hP, hD, hS⟩
  refine lv_aload_n hx hb dX2_init_106 rfl (lv_at hl 0 rfl) ?_
  refine lv_iconst (v := 0) hx hb dX2_init_107 (by decide) ?_
  refine va_put (D := D) (ci := 2) (v := .int 0) (ty := .int) (C := RX2) (T := TX2) (N := 15) hx hb hts inlX2 tyX2 tyX2_ok nmX2 hown hK hW.1 hW.2.1 hW.2.2 11 rfl rfl 14 (by decide) (hts _ wm4_15) (fun _ h9 => h9) rfl (by decide +kernel) rfl rfl (Nat.le_of_ble_eq_true rfl) dX2_init_108 (fun H locs hP hD hS => ?_)
  have hW : Wd D A s.heap ((qn11, .inl (T 0, 3, .inl (fun _ => 0))) :: ((qn10, .inl (T 0, 48, .inl (fun _ => 0))) :: ((qn9, .inl (T 0, 48, .inl (fun _ => 0))) :: ((qn8, .inl (T 0, 48, .inl (fun _ => 0))) :: ((qn7, .inl (T 0, 48, .inl (fun _ => 0))) :: ((qn6, .inl (T 0, 16, .inl (fun _ => 0))) :: ((qn5, .inl (T 0, 16, .inl (fun _ => 0))) :: ((qn4, .inl (T 0, 16, .inl (fun _ => 0))) :: ((qn3, .inl (T 0, 16, .inl (fun _ => 0))) :: ((qn2, .inl (T 0, 16, .inl (fun _ => 0))) :: ((qn1, .inl (T 0, 16, .inl (fun _ => 0))) :: ((h0, .inr (2, [.int 0, .ref qn1, .ref qn2, .ref qn3, .ref qn4, .int 0, .ref qn5, .ref qn6, .ref qn7, .ref qn8, .ref qn9, .ref qn10, .ref qn11, .int 0, .int 0])) :: Z)))))))))))) H locs := ⟨hP, hD, hS⟩
  have hW := hW.perm (show ((qn11, .inl (T 0, 3, .inl (fun _ => 0))) :: ((qn10, .inl (T 0, 48, .inl (fun _ => 0))) :: ((qn9, .inl (T 0, 48, .inl (fun _ => 0))) :: ((qn8, .inl (T 0, 48, .inl (fun _ => 0))) :: ((qn7, .inl (T 0, 48, .inl (fun _ => 0))) :: ((qn6, .inl (T 0, 16, .inl (fun _ => 0))) :: ((qn5, .inl (T 0, 16, .inl (fun _ => 0))) :: ((qn4, .inl (T 0, 16, .inl (fun _ => 0))) :: ((qn3, .inl (T 0, 16, .inl (fun _ => 0))) :: ((qn2, .inl (T 0, 16, .inl (fun _ => 0))) :: ((qn1, .inl (T 0, 16, .inl (fun _ => 0))) :: ((h0, .inr (2, [.int 0, .ref qn1, .ref qn2, .ref qn3, .ref qn4, .int 0, .ref qn5, .ref qn6, .ref qn7, .ref qn8, .ref qn9, .ref qn10, .ref qn11, .int 0, .int 0])) :: Z)))))))))))).Perm (oc_X2 T (adf [h0, qn1, qn2, qn3, qn4, qn5, qn6, qn7, qn8, qn9, qn10, qn11]) z0 ++ Z) from List.Perm.append_right Z (List.reverse_perm (oc_X2 T (adf [h0, qn1, qn2, qn3, qn4, qn5, qn6, qn7, qn8, qn9, qn10, qn11]) z0)))
  refine W.widen (k := 11) (n := 291) (Nat.le_of_ble_eq_true rfl) (Nat.le_of_ble_eq_true rfl) ?_
  exact W.vret hx hb hr (fun t ht _ => ⟨⟨(adf [h0, qn1, qn2, qn3, qn4, qn5, qn6, qn7, qn8, qn9, qn10, qn11]), rfl, rfl, by rw [ht]; exact hW.1, hW.2.1⟩, hW.2.2.F ht⟩) hW.2.2.2.2 dX2_init_111 hlk
set_option maxHeartbeats 4000000 in
set_option maxRecDepth 100000 in
theorem i_X3 (l : Launch) (D : va_G) (T : Nat → ClassId) (A : Nat → Prop) (h0 : Nat) (Z : va_W) : Met l yX3_init (Cond.code yX3_init cX3_init 1 none :: wsL_law) (rmi 1 5 690) (Pi D T A ((h0, .inr (3, [.int 0, .null, .null, .null, .null, .null])) :: Z) [.ref h0]) (Qi D A (fun u : Nat → Nat => u 0 = h0) (fun u => oc_X3 T u z0 ++ Z)) 5 690 A := by
  refine Met.ofW (cc := cX3_init) (maxL := 1) (ret := none) (by decide +kernel) rfl ?_
  intro p e s m args below meth c s₁ B hml hv
  obtain ⟨ha, hP, hK, hD, hN, hA⟩ := hv
  have hx := B.exec
  have hb := B.bytes
  have hr := B.returns
  have hlk := B.notSynchronized
  have hin : meth.name = "<init>" := (name_of_methodNamed B.named B.method).1
  have hts : ∀ w ∈ wsL_law, w.before args s = true := fun w hw => atoms_spec B.pre w (List.mem_cons_of_mem _ hw)
  have hown : s.vm.findClass RX3 = some m.cls := findClass_of_methodNamed B.named
  have hW : Wd D A s.heap ((h0, .inr (3, [.int 0, .null, .null, .null, .null, .null])) :: Z) s.heap [] := ⟨hP, hD, va_S.rf⟩
  have hl := lv_entry [.ref h0] (n := 1) (Nat.le_of_ble_eq_true rfl)
  refine W.eq (en_eq ha) ?_
  generalize (lg_sl [.ref h0] ++ List.replicate (1 - (lg_sl [.ref h0]).length) Slot.unset).toArray = ls at hl ⊢
  have hl : lv_has ls 1 [(0, .ref h0)] := hl
  clear hP hD B ha
  change W p l e (rmi 1 5 690) s m args below meth c s.heap [] 0 0 _ (F0 m 0 ls [])
  refine lv_aload_n hx hb dX3_init_0 rfl (lv_at hl 0 rfl) ?_
  refine W.objInit hx hb hown (hts _ wm3_5) (hts _ wm1_9) (hts _ wm1_10) rfl (by rw [hml]; exact hl.1) rfl dX3_init_1 (Nat.le_of_ble_eq_true rfl) (Nat.le_of_ble_eq_true rfl) ?_
  refine W.eq (g2 := F0 m 4 ls []) rfl ?_
  refine lv_aload_n hx hb dX3_init_4 rfl (lv_at hl 0 rfl) ?_
  refine lv_iconst (v := 0) hx hb dX3_init_5 (by decide) ?_
  refine va_put (D := D) (ci := 3) (v := .int 0) (ty := .int) (C := RX3) (T := TX3) (N := 6) hx hb hts inlX3 tyX3 tyX3_ok nmX3 hown hK hW.1 hW.2.1 hW.2.2 0 rfl rfl 0 (by decide) (hts _ wm3_6) (fun _ h9 => h9) rfl (by decide +kernel) rfl rfl (Nat.le_of_ble_eq_true rfl) dX3_init_6 (fun H locs hP hD hS => ?_)
  have hW : Wd D A s.heap ((h0, .inr (3, [.int 0, .null, .null, .null, .null, .null])) :: Z) H locs := ⟨hP, hD, hS⟩
  refine lv_aload_n hx hb dX3_init_9 rfl (lv_at hl 0 rfl) ?_
  refine lv_bipush (v := 40) hx hb dX3_init_10 (by decide) ?_
  refine n_newa hx hb hts hK hA hW 40 (by decide) (by decide) (by decide) (Nat.le_of_ble_eq_true rfl) (Nat.le_of_ble_eq_true rfl) dX3_init_12 (fun qn1 H hW => ?_)
  refine va_putF (D := D) (ci := 3) (v := .ref qn1) (ty := .array .int) (C := RX3) (T := TX3) (N := 6) hx hb hts inlX3 tyX3 tyX3_ok nmX3 hown hK hW.1 hW.2.1 hW.2.2 1 rfl rfl 1 (by decide) (hts _ wm3_7) (fun _ h9 => h9) rfl hin (by decide +kernel) (by decide +kernel) rfl rfl (Nat.le_of_ble_eq_true rfl) dX3_init_14 (fun H locs hP hD hS => ?_)
  have hW : Wd D A s.heap ((qn1, .inl (T 0, 40, .inl (fun _ => 0))) :: ((h0, .inr (3, [.int 0, .ref qn1, .null, .null, .null, .null])) :: Z)) H locs := ⟨hP, hD, hS⟩
  refine lv_aload_n hx hb dX3_init_17 rfl (lv_at hl 0 rfl) ?_
  refine lv_bipush (v := 50) hx hb dX3_init_18 (by decide) ?_
  refine n_newa hx hb hts hK hA hW 50 (by decide) (by decide) (by decide) (Nat.le_of_ble_eq_true rfl) (Nat.le_of_ble_eq_true rfl) dX3_init_20 (fun qn2 H hW => ?_)
  refine va_putF (D := D) (ci := 3) (v := .ref qn2) (ty := .array .int) (C := RX3) (T := TX3) (N := 6) hx hb hts inlX3 tyX3 tyX3_ok nmX3 hown hK hW.1 hW.2.1 hW.2.2 2 rfl rfl 2 (by decide) (hts _ wm3_8) (fun _ h9 => h9) rfl hin (by decide +kernel) (by decide +kernel) rfl rfl (Nat.le_of_ble_eq_true rfl) dX3_init_22 (fun H locs hP hD hS => ?_)
  have hW : Wd D A s.heap ((qn2, .inl (T 0, 50, .inl (fun _ => 0))) :: ((qn1, .inl (T 0, 40, .inl (fun _ => 0))) :: ((h0, .inr (3, [.int 0, .ref qn1, .ref qn2, .null, .null, .null])) :: Z))) H locs := ⟨hP, hD, hS⟩
  refine lv_aload_n hx hb dX3_init_25 rfl (lv_at hl 0 rfl) ?_
  refine lv_sipush (v := 200) hx hb dX3_init_26 (by decide) ?_
  refine n_newa hx hb hts hK hA hW 200 (by decide) (by decide) (by decide) (Nat.le_of_ble_eq_true rfl) (Nat.le_of_ble_eq_true rfl) dX3_init_29 (fun qn3 H hW => ?_)
  refine va_putF (D := D) (ci := 3) (v := .ref qn3) (ty := .array .int) (C := RX3) (T := TX3) (N := 6) hx hb hts inlX3 tyX3 tyX3_ok nmX3 hown hK hW.1 hW.2.1 hW.2.2 3 rfl rfl 3 (by decide) (hts _ wm3_9) (fun _ h9 => h9) rfl hin (by decide +kernel) (by decide +kernel) rfl rfl (Nat.le_of_ble_eq_true rfl) dX3_init_31 (fun H locs hP hD hS => ?_)
  have hW : Wd D A s.heap ((qn3, .inl (T 0, 200, .inl (fun _ => 0))) :: ((qn2, .inl (T 0, 50, .inl (fun _ => 0))) :: ((qn1, .inl (T 0, 40, .inl (fun _ => 0))) :: ((h0, .inr (3, [.int 0, .ref qn1, .ref qn2, .ref qn3, .null, .null])) :: Z)))) H locs := ⟨hP, hD, hS⟩
  refine lv_aload_n hx hb dX3_init_34 rfl (lv_at hl 0 rfl) ?_
  refine lv_sipush (v := 200) hx hb dX3_init_35 (by decide) ?_
  refine n_newa hx hb hts hK hA hW 200 (by decide) (by decide) (by decide) (Nat.le_of_ble_eq_true rfl) (Nat.le_of_ble_eq_true rfl) dX3_init_38 (fun qn4 H hW => ?_)
  refine va_putF (D := D) (ci := 3) (v := .ref qn4) (ty := .array .int) (C := RX3) (T := TX3) (N := 6) hx hb hts inlX3 tyX3 tyX3_ok nmX3 hown hK hW.1 hW.2.1 hW.2.2 4 rfl rfl 4 (by decide) (hts _ wm3_10) (fun _ h9 => h9) rfl hin (by decide +kernel) (by decide +kernel) rfl rfl (Nat.le_of_ble_eq_true rfl) dX3_init_40 (fun H locs hP hD hS => ?_)
  have hW : Wd D A s.heap ((qn4, .inl (T 0, 200, .inl (fun _ => 0))) :: ((qn3, .inl (T 0, 200, .inl (fun _ => 0))) :: ((qn2, .inl (T 0, 50, .inl (fun _ => 0))) :: ((qn1, .inl (T 0, 40, .inl (fun _ => 0))) :: ((h0, .inr (3, [.int 0, .ref qn1, .ref qn2, .ref qn3, .ref qn4, .null])) :: Z))))) H locs := ⟨hP, hD, hS⟩
  refine lv_aload_n hx hb dX3_init_43 rfl (lv_at hl 0 rfl) ?_
  refine lv_sipush (v := 200) hx hb dX3_init_44 (by decide) ?_
  refine n_newa hx hb hts hK hA hW 200 (by decide) (by decide) (by decide) (Nat.le_of_ble_eq_true rfl) (Nat.le_of_ble_eq_true rfl) dX3_init_47 (fun qn5 H hW => ?_)
  refine va_putF (D := D) (ci := 3) (v := .ref qn5) (ty := .array .int) (C := RX3) (T := TX3) (N := 6) hx hb hts inlX3 tyX3 tyX3_ok nmX3 hown hK hW.1 hW.2.1 hW.2.2 5 rfl rfl 5 (by decide) (hts _ wm3_11) (fun _ h9 => h9) rfl hin (by decide +kernel) (by decide +kernel) rfl rfl (Nat.le_of_ble_eq_true rfl) dX3_init_49 (fun H locs hP hD hS => ?_)
  have hW : Wd D A s.heap ((qn5, .inl (T 0, 200, .inl (fun _ => 0))) :: ((qn4, .inl (T 0, 200, .inl (fun _ => 0))) :: ((qn3, .inl (T 0, 200, .inl (fun _ => 0))) :: ((qn2, .inl (T 0, 50, .inl (fun _ => 0))) :: ((qn1, .inl (T 0, 40, .inl (fun _ => 0))) :: ((h0, .inr (3, [.int 0, .ref qn1, .ref qn2, .ref qn3, .ref qn4, .ref qn5])) :: Z)))))) H locs := ⟨hP, hD, hS⟩
  have hW := hW.perm (show ((qn5, .inl (T 0, 200, .inl (fun _ => 0))) :: ((qn4, .inl (T 0, 200, .inl (fun _ => 0))) :: ((qn3, .inl (T 0, 200, .inl (fun _ => 0))) :: ((qn2, .inl (T 0, 50, .inl (fun _ => 0))) :: ((qn1, .inl (T 0, 40, .inl (fun _ => 0))) :: ((h0, .inr (3, [.int 0, .ref qn1, .ref qn2, .ref qn3, .ref qn4, .ref qn5])) :: Z)))))).Perm (oc_X3 T (adf [h0, qn1, qn2, qn3, qn4, qn5]) z0 ++ Z) from List.Perm.append_right Z (List.reverse_perm (oc_X3 T (adf [h0, qn1, qn2, qn3, qn4, qn5]) z0)))
  refine W.widen (k := 5) (n := 690) (Nat.le_of_ble_eq_true rfl) (Nat.le_of_ble_eq_true rfl) ?_
  exact W.vret hx hb hr (fun t ht _ => ⟨⟨(adf [h0, qn1, qn2, qn3, qn4, qn5]), rfl, rfl, by rw [ht]; exact hW.1, hW.2.1⟩, hW.2.2.F ht⟩) hW.2.2.2.2 dX3_init_52 hlk
set_option maxHeartbeats 4000000 in
set_option maxRecDepth 100000 in
theorem i_X4 (l : Launch) (D : va_G) (T : Nat → ClassId) (A : Nat → Prop) (h0 : Nat) (Z : va_W) : Met l yX4_init (Cond.code yX4_init cX4_init 1 none :: wsL_law) (rmi 1 0 0) (Pi D T A ((h0, .inr (4, [])) :: Z) [.ref h0]) (Qi D A (fun u : Nat → Nat => u 0 = h0) (fun u => oc_X4 T u z0 ++ Z)) 0 0 A := by
  refine Met.ofW (cc := cX4_init) (maxL := 1) (ret := none) (by decide +kernel) rfl ?_
  intro p e s m args below meth c s₁ B hml hv
  obtain ⟨ha, hP, hK, hD, hN, hA⟩ := hv
  have hx := B.exec
  have hb := B.bytes
  have hr := B.returns
  have hlk := B.notSynchronized
  have hin : meth.name = "<init>" := (name_of_methodNamed B.named B.method).1
  have hts : ∀ w ∈ wsL_law, w.before args s = true := fun w hw => atoms_spec B.pre w (List.mem_cons_of_mem _ hw)
  have hown : s.vm.findClass RX4 = some m.cls := findClass_of_methodNamed B.named
  have hW : Wd D A s.heap ((h0, .inr (4, [])) :: Z) s.heap [] := ⟨hP, hD, va_S.rf⟩
  have hl := lv_entry [.ref h0] (n := 1) (Nat.le_of_ble_eq_true rfl)
  refine W.eq (en_eq ha) ?_
  generalize (lg_sl [.ref h0] ++ List.replicate (1 - (lg_sl [.ref h0]).length) Slot.unset).toArray = ls at hl ⊢
  have hl : lv_has ls 1 [(0, .ref h0)] := hl
  clear hP hD B ha
  change W p l e (rmi 1 0 0) s m args below meth c s.heap [] 0 0 _ (F0 m 0 ls [])
  refine lv_aload_n hx hb dX4_init_0 rfl (lv_at hl 0 rfl) ?_
  refine W.objInit hx hb hown (hts _ wm5_0) (hts _ wm1_9) (hts _ wm1_10) rfl (by rw [hml]; exact hl.1) rfl dX4_init_1 (Nat.le_of_ble_eq_true rfl) (Nat.le_of_ble_eq_true rfl) ?_
  refine W.eq (g2 := F0 m 4 ls []) rfl ?_
  have hW := hW.perm (show ((h0, .inr (4, [])) :: Z).Perm (oc_X4 T (adf [h0]) z0 ++ Z) from List.Perm.append_right Z (List.reverse_perm (oc_X4 T (adf [h0]) z0)))
  refine W.widen (k := 0) (n := 0) (Nat.le_of_ble_eq_true rfl) (Nat.le_of_ble_eq_true rfl) ?_
  exact W.vret hx hb hr (fun t ht _ => ⟨⟨(adf [h0]), rfl, rfl, by rw [ht]; exact hW.1, hW.2.1⟩, hW.2.2.F ht⟩) hW.2.2.2.2 dX4_init_4 hlk
set_option maxHeartbeats 4000000 in
set_option maxRecDepth 100000 in
theorem i_X5 (l : Launch) (D : va_G) (T : Nat → ClassId) (A : Nat → Prop) (h0 : Nat) (Z : va_W) : Met l yX5_init (Cond.code yX5_init cX5_init 1 none :: wsL_law) (rmi 1 0 0) (Pi D T A ((h0, .inr (5, [.int 0, .int 0, .int 0])) :: Z) [.ref h0]) (Qi D A (fun u : Nat → Nat => u 0 = h0) (fun u => oc_X5 T u zX5 ++ Z)) 0 0 A := by
  refine Met.ofW (cc := cX5_init) (maxL := 1) (ret := none) (by decide +kernel) rfl ?_
  intro p e s m args below meth c s₁ B hml hv
  obtain ⟨ha, hP, hK, hD, hN, hA⟩ := hv
  have hx := B.exec
  have hb := B.bytes
  have hr := B.returns
  have hlk := B.notSynchronized
  have hin : meth.name = "<init>" := (name_of_methodNamed B.named B.method).1
  have hts : ∀ w ∈ wsL_law, w.before args s = true := fun w hw => atoms_spec B.pre w (List.mem_cons_of_mem _ hw)
  have hown : s.vm.findClass RX5 = some m.cls := findClass_of_methodNamed B.named
  have hW : Wd D A s.heap ((h0, .inr (5, [.int 0, .int 0, .int 0])) :: Z) s.heap [] := ⟨hP, hD, va_S.rf⟩
  have hl := lv_entry [.ref h0] (n := 1) (Nat.le_of_ble_eq_true rfl)
  refine W.eq (en_eq ha) ?_
  generalize (lg_sl [.ref h0] ++ List.replicate (1 - (lg_sl [.ref h0]).length) Slot.unset).toArray = ls at hl ⊢
  have hl : lv_has ls 1 [(0, .ref h0)] := hl
  clear hP hD B ha
  change W p l e (rmi 1 0 0) s m args below meth c s.heap [] 0 0 _ (F0 m 0 ls [])
  refine lv_aload_n hx hb dX5_init_0 rfl (lv_at hl 0 rfl) ?_
  refine W.objInit hx hb hown (hts _ wm4_18) (hts _ wm1_9) (hts _ wm1_10) rfl (by rw [hml]; exact hl.1) rfl dX5_init_1 (Nat.le_of_ble_eq_true rfl) (Nat.le_of_ble_eq_true rfl) ?_
  refine W.eq (g2 := F0 m 4 ls []) rfl ?_
  refine lv_aload_n hx hb dX5_init_4 rfl (lv_at hl 0 rfl) ?_
  refine lv_iconst (v := (-1)) hx hb dX5_init_5 (by decide) ?_
  refine va_put (D := D) (ci := 5) (v := .int (-1)) (ty := .int) (C := RX5) (T := TX5) (N := 3) hx hb hts inlX5 tyX5 tyX5_ok nmX5 hown hK hW.1 hW.2.1 hW.2.2 0 rfl rfl 0 (by decide) (hts _ wm4_19) (fun _ h9 => h9) rfl (by decide +kernel) rfl rfl (Nat.le_of_ble_eq_true rfl) dX5_init_6 (fun H locs hP hD hS => ?_)
  have hW : Wd D A s.heap ((h0, .inr (5, [.int (-1), .int 0, .int 0])) :: Z) H locs := ⟨hP, hD, hS⟩
  refine lv_aload_n hx hb dX5_init_9 rfl (lv_at hl 0 rfl) ?_
  refine lv_iconst (v := (-1)) hx hb dX5_init_10 (by decide) ?_
  refine va_put (D := D) (ci := 5) (v := .int (-1)) (ty := .int) (C := RX5) (T := TX5) (N := 3) hx hb hts inlX5 tyX5 tyX5_ok nmX5 hown hK hW.1 hW.2.1 hW.2.2 0 rfl rfl 1 (by decide) (hts _ wm4_20) (fun _ h9 => h9) rfl (by decide +kernel) rfl rfl (Nat.le_of_ble_eq_true rfl) dX5_init_11 (fun H locs hP hD hS => ?_)
  have hW : Wd D A s.heap ((h0, .inr (5, [.int (-1), .int (-1), .int 0])) :: Z) H locs := ⟨hP, hD, hS⟩
  refine lv_aload_n hx hb dX5_init_14 rfl (lv_at hl 0 rfl) ?_
  refine lv_iconst (v := 0) hx hb dX5_init_15 (by decide) ?_
  refine va_put (D := D) (ci := 5) (v := .int 0) (ty := .int) (C := RX5) (T := TX5) (N := 3) hx hb hts inlX5 tyX5 tyX5_ok nmX5 hown hK hW.1 hW.2.1 hW.2.2 0 rfl rfl 2 (by decide) (hts _ wm4_21) (fun _ h9 => h9) rfl (by decide +kernel) rfl rfl (Nat.le_of_ble_eq_true rfl) dX5_init_16 (fun H locs hP hD hS => ?_)
  have hW : Wd D A s.heap ((h0, .inr (5, [.int (-1), .int (-1), .int 0])) :: Z) H locs := ⟨hP, hD, hS⟩
  have hW := hW.perm (show ((h0, .inr (5, [.int (-1), .int (-1), .int 0])) :: Z).Perm (oc_X5 T (adf [h0]) zX5 ++ Z) from List.Perm.append_right Z (List.reverse_perm (oc_X5 T (adf [h0]) zX5)))
  refine W.widen (k := 0) (n := 0) (Nat.le_of_ble_eq_true rfl) (Nat.le_of_ble_eq_true rfl) ?_
  exact W.vret hx hb hr (fun t ht _ => ⟨⟨(adf [h0]), rfl, rfl, by rw [ht]; exact hW.1, hW.2.1⟩, hW.2.2.F ht⟩) hW.2.2.2.2 dX5_init_19 hlk
set_option maxHeartbeats 4000000 in
set_option maxRecDepth 100000 in
theorem i_X7 (l : Launch) (D : va_G) (T : Nat → ClassId) (A : Nat → Prop) (h0 : Nat) (Z : va_W) : Met l yX7_init (Cond.code yX7_init cX7_init 1 none :: wsL_law) (rmi 1 5 40) (Pi D T A ((h0, .inr (7, [.int 0, .null, .null, .null, .null, .null])) :: Z) [.ref h0]) (Qi D A (fun u : Nat → Nat => u 0 = h0) (fun u => oc_X7 T u z0 ++ Z)) 5 40 A := by
  refine Met.ofW (cc := cX7_init) (maxL := 1) (ret := none) (by decide +kernel) rfl ?_
  intro p e s m args below meth c s₁ B hml hv
  obtain ⟨ha, hP, hK, hD, hN, hA⟩ := hv
  have hx := B.exec
  have hb := B.bytes
  have hr := B.returns
  have hlk := B.notSynchronized
  have hin : meth.name = "<init>" := (name_of_methodNamed B.named B.method).1
  have hts : ∀ w ∈ wsL_law, w.before args s = true := fun w hw => atoms_spec B.pre w (List.mem_cons_of_mem _ hw)
  have hown : s.vm.findClass RX7 = some m.cls := findClass_of_methodNamed B.named
  have hW : Wd D A s.heap ((h0, .inr (7, [.int 0, .null, .null, .null, .null, .null])) :: Z) s.heap [] := ⟨hP, hD, va_S.rf⟩
  have hl := lv_entry [.ref h0] (n := 1) (Nat.le_of_ble_eq_true rfl)
  refine W.eq (en_eq ha) ?_
  generalize (lg_sl [.ref h0] ++ List.replicate (1 - (lg_sl [.ref h0]).length) Slot.unset).toArray = ls at hl ⊢
  have hl : lv_has ls 1 [(0, .ref h0)] := hl
  clear hP hD B ha
  change W p l e (rmi 1 5 40) s m args below meth c s.heap [] 0 0 _ (F0 m 0 ls [])
  refine lv_aload_n hx hb dX7_init_0 rfl (lv_at hl 0 rfl) ?_
  refine W.objInit hx hb hown (hts _ wm3_14) (hts _ wm1_9) (hts _ wm1_10) rfl (by rw [hml]; exact hl.1) rfl dX7_init_1 (Nat.le_of_ble_eq_true rfl) (Nat.le_of_ble_eq_true rfl) ?_
  refine W.eq (g2 := F0 m 4 ls []) rfl ?_
  refine lv_aload_n hx hb dX7_init_4 rfl (lv_at hl 0 rfl) ?_
  refine lv_iconst (v := 0) hx hb dX7_init_5 (by decide) ?_
  refine va_put (D := D) (ci := 7) (v := .int 0) (ty := .int) (C := RX7) (T := TX7) (N := 6) hx hb hts inlX7 tyX7 tyX7_ok nmX7 hown hK hW.1 hW.2.1 hW.2.2 0 rfl rfl 0 (by decide) (hts _ wm3_15) (fun _ h9 => h9) rfl (by decide +kernel) rfl rfl (Nat.le_of_ble_eq_true rfl) dX7_init_6 (fun H locs hP hD hS => ?_)
  have hW : Wd D A s.heap ((h0, .inr (7, [.int 0, .null, .null, .null, .null, .null])) :: Z) H locs := ⟨hP, hD, hS⟩
  refine lv_aload_n hx hb dX7_init_9 rfl (lv_at hl 0 rfl) ?_
  refine lv_bipush (v := 8) hx hb dX7_init_10 (by decide) ?_
  refine n_newz hx hb hts hK hA hW 8 (by decide) (by decide) (by decide) (Nat.le_of_ble_eq_true rfl) (Nat.le_of_ble_eq_true rfl) dX7_init_12 (fun qn1 H hW => ?_)
  refine va_putF (D := D) (ci := 7) (v := .ref qn1) (ty := .array .boolean) (C := RX7) (T := TX7) (N := 6) hx hb hts inlX7 tyX7 tyX7_ok nmX7 hown hK hW.1 hW.2.1 hW.2.2 1 rfl rfl 1 (by decide) (hts _ wm3_17) (fun _ h9 => h9) rfl hin (by decide +kernel) (by decide +kernel) rfl rfl (Nat.le_of_ble_eq_true rfl) dX7_init_14 (fun H locs hP hD hS => ?_)
  have hW : Wd D A s.heap ((qn1, .inl (T 1, 8, .inl (fun _ => 0))) :: ((h0, .inr (7, [.int 0, .ref qn1, .null, .null, .null, .null])) :: Z)) H locs := ⟨hP, hD, hS⟩
  refine lv_aload_n hx hb dX7_init_17 rfl (lv_at hl 0 rfl) ?_
  refine lv_bipush (v := 8) hx hb dX7_init_18 (by decide) ?_
  refine n_newa hx hb hts hK hA hW 8 (by decide) (by decide) (by decide) (Nat.le_of_ble_eq_true rfl) (Nat.le_of_ble_eq_true rfl) dX7_init_20 (fun qn2 H hW => ?_)
  refine va_putF (D := D) (ci := 7) (v := .ref qn2) (ty := .array .int) (C := RX7) (T := TX7) (N := 6) hx hb hts inlX7 tyX7 tyX7_ok nmX7 hown hK hW.1 hW.2.1 hW.2.2 2 rfl rfl 2 (by decide) (hts _ wm3_18) (fun _ h9 => h9) rfl hin (by decide +kernel) (by decide +kernel) rfl rfl (Nat.le_of_ble_eq_true rfl) dX7_init_22 (fun H locs hP hD hS => ?_)
  have hW : Wd D A s.heap ((qn2, .inl (T 0, 8, .inl (fun _ => 0))) :: ((qn1, .inl (T 1, 8, .inl (fun _ => 0))) :: ((h0, .inr (7, [.int 0, .ref qn1, .ref qn2, .null, .null, .null])) :: Z))) H locs := ⟨hP, hD, hS⟩
  refine lv_aload_n hx hb dX7_init_25 rfl (lv_at hl 0 rfl) ?_
  refine lv_bipush (v := 8) hx hb dX7_init_26 (by decide) ?_
  refine n_newa hx hb hts hK hA hW 8 (by decide) (by decide) (by decide) (Nat.le_of_ble_eq_true rfl) (Nat.le_of_ble_eq_true rfl) dX7_init_28 (fun qn3 H hW => ?_)
  refine va_putF (D := D) (ci := 7) (v := .ref qn3) (ty := .array .int) (C := RX7) (T := TX7) (N := 6) hx hb hts inlX7 tyX7 tyX7_ok nmX7 hown hK hW.1 hW.2.1 hW.2.2 3 rfl rfl 3 (by decide) (hts _ wm3_19) (fun _ h9 => h9) rfl hin (by decide +kernel) (by decide +kernel) rfl rfl (Nat.le_of_ble_eq_true rfl) dX7_init_30 (fun H locs hP hD hS => ?_)
  have hW : Wd D A s.heap ((qn3, .inl (T 0, 8, .inl (fun _ => 0))) :: ((qn2, .inl (T 0, 8, .inl (fun _ => 0))) :: ((qn1, .inl (T 1, 8, .inl (fun _ => 0))) :: ((h0, .inr (7, [.int 0, .ref qn1, .ref qn2, .ref qn3, .null, .null])) :: Z)))) H locs := ⟨hP, hD, hS⟩
  refine lv_aload_n hx hb dX7_init_33 rfl (lv_at hl 0 rfl) ?_
  refine lv_bipush (v := 8) hx hb dX7_init_34 (by decide) ?_
  refine n_newa hx hb hts hK hA hW 8 (by decide) (by decide) (by decide) (Nat.le_of_ble_eq_true rfl) (Nat.le_of_ble_eq_true rfl) dX7_init_36 (fun qn4 H hW => ?_)
  refine va_putF (D := D) (ci := 7) (v := .ref qn4) (ty := .array .int) (C := RX7) (T := TX7) (N := 6) hx hb hts inlX7 tyX7 tyX7_ok nmX7 hown hK hW.1 hW.2.1 hW.2.2 4 rfl rfl 4 (by decide) (hts _ wm3_20) (fun _ h9 => h9) rfl hin (by decide +kernel) (by decide +kernel) rfl rfl (Nat.le_of_ble_eq_true rfl) dX7_init_38 (fun H locs hP hD hS => ?_)
  have hW : Wd D A s.heap ((qn4, .inl (T 0, 8, .inl (fun _ => 0))) :: ((qn3, .inl (T 0, 8, .inl (fun _ => 0))) :: ((qn2, .inl (T 0, 8, .inl (fun _ => 0))) :: ((qn1, .inl (T 1, 8, .inl (fun _ => 0))) :: ((h0, .inr (7, [.int 0, .ref qn1, .ref qn2, .ref qn3, .ref qn4, .null])) :: Z))))) H locs := ⟨hP, hD, hS⟩
  refine lv_aload_n hx hb dX7_init_41 rfl (lv_at hl 0 rfl) ?_
  refine lv_bipush (v := 8) hx hb dX7_init_42 (by decide) ?_
  refine n_newa hx hb hts hK hA hW 8 (by decide) (by decide) (by decide) (Nat.le_of_ble_eq_true rfl) (Nat.le_of_ble_eq_true rfl) dX7_init_44 (fun qn5 H hW => ?_)
  refine va_putF (D := D) (ci := 7) (v := .ref qn5) (ty := .array .int) (C := RX7) (T := TX7) (N := 6) hx hb hts inlX7 tyX7 tyX7_ok nmX7 hown hK hW.1 hW.2.1 hW.2.2 5 rfl rfl 5 (by decide) (hts _ wm3_21) (fun _ h9 => h9) rfl hin (by decide +kernel) (by decide +kernel) rfl rfl (Nat.le_of_ble_eq_true rfl) dX7_init_46 (fun H locs hP hD hS => ?_)
  have hW : Wd D A s.heap ((qn5, .inl (T 0, 8, .inl (fun _ => 0))) :: ((qn4, .inl (T 0, 8, .inl (fun _ => 0))) :: ((qn3, .inl (T 0, 8, .inl (fun _ => 0))) :: ((qn2, .inl (T 0, 8, .inl (fun _ => 0))) :: ((qn1, .inl (T 1, 8, .inl (fun _ => 0))) :: ((h0, .inr (7, [.int 0, .ref qn1, .ref qn2, .ref qn3, .ref qn4, .ref qn5])) :: Z)))))) H locs := ⟨hP, hD, hS⟩
  have hW := hW.perm (show ((qn5, .inl (T 0, 8, .inl (fun _ => 0))) :: ((qn4, .inl (T 0, 8, .inl (fun _ => 0))) :: ((qn3, .inl (T 0, 8, .inl (fun _ => 0))) :: ((qn2, .inl (T 0, 8, .inl (fun _ => 0))) :: ((qn1, .inl (T 1, 8, .inl (fun _ => 0))) :: ((h0, .inr (7, [.int 0, .ref qn1, .ref qn2, .ref qn3, .ref qn4, .ref qn5])) :: Z)))))).Perm (oc_X7 T (adf [h0, qn1, qn2, qn3, qn4, qn5]) z0 ++ Z) from List.Perm.append_right Z (List.reverse_perm (oc_X7 T (adf [h0, qn1, qn2, qn3, qn4, qn5]) z0)))
  refine W.widen (k := 5) (n := 40) (Nat.le_of_ble_eq_true rfl) (Nat.le_of_ble_eq_true rfl) ?_
  exact W.vret hx hb hr (fun t ht _ => ⟨⟨(adf [h0, qn1, qn2, qn3, qn4, qn5]), rfl, rfl, by rw [ht]; exact hW.1, hW.2.1⟩, hW.2.2.F ht⟩) hW.2.2.2.2 dX7_init_49 hlk
set_option maxHeartbeats 4000000 in
set_option maxRecDepth 100000 in
theorem i_X8 (l : Launch) (D : va_G) (T : Nat → ClassId) (A : Nat → Prop) (h0 : Nat) (Z : va_W) : Met l yX8_init (Cond.code yX8_init cX8_init 1 none :: wsL_law) (rmi 1 4 540) (Pi D T A ((h0, .inr (8, [.int 0, .null, .null, .null, .null])) :: Z) [.ref h0]) (Qi D A (fun u : Nat → Nat => u 0 = h0) (fun u => oc_X8 T u z0 ++ Z)) 4 540 A := by
  refine Met.ofW (cc := cX8_init) (maxL := 1) (ret := none) (by decide +kernel) rfl ?_
  intro p e s m args below meth c s₁ B hml hv
  obtain ⟨ha, hP, hK, hD, hN, hA⟩ := hv
  have hx := B.exec
  have hb := B.bytes
  have hr := B.returns
  have hlk := B.notSynchronized
  have hin : meth.name = "<init>" := (name_of_methodNamed B.named B.method).1
  have hts : ∀ w ∈ wsL_law, w.before args s = true := fun w hw => atoms_spec B.pre w (List.mem_cons_of_mem _ hw)
  have hown : s.vm.findClass RX8 = some m.cls := findClass_of_methodNamed B.named
  have hW : Wd D A s.heap ((h0, .inr (8, [.int 0, .null, .null, .null, .null])) :: Z) s.heap [] := ⟨hP, hD, va_S.rf⟩
  have hl := lv_entry [.ref h0] (n := 1) (Nat.le_of_ble_eq_true rfl)
  refine W.eq (en_eq ha) ?_
  generalize (lg_sl [.ref h0] ++ List.replicate (1 - (lg_sl [.ref h0]).length) Slot.unset).toArray = ls at hl ⊢
  have hl : lv_has ls 1 [(0, .ref h0)] := hl
  clear hP hD B ha
  change W p l e (rmi 1 4 540) s m args below meth c s.heap [] 0 0 _ (F0 m 0 ls [])
  refine lv_aload_n hx hb dX8_init_0 rfl (lv_at hl 0 rfl) ?_
  refine W.objInit hx hb hown (hts _ wm5_18) (hts _ wm1_9) (hts _ wm1_10) rfl (by rw [hml]; exact hl.1) rfl dX8_init_1 (Nat.le_of_ble_eq_true rfl) (Nat.le_of_ble_eq_true rfl) ?_
  refine W.eq (g2 := F0 m 4 ls []) rfl ?_
  refine lv_aload_n hx hb dX8_init_4 rfl (lv_at hl 0 rfl) ?_
  refine lv_iconst (v := 0) hx hb dX8_init_5 (by decide) ?_
  refine va_put (D := D) (ci := 8) (v := .int 0) (ty := .int) (C := RX8) (T := TX8) (N := 5) hx hb hts inlX8 tyX8 tyX8_ok nmX8 hown hK hW.1 hW.2.1 hW.2.2 0 rfl rfl 0 (by decide) (hts _ wm5_19) (fun _ h9 => h9) rfl (by decide +kernel) rfl rfl (Nat.le_of_ble_eq_true rfl) dX8_init_6 (fun H locs hP hD hS => ?_)
  have hW : Wd D A s.heap ((h0, .inr (8, [.int 0, .null, .null, .null, .null])) :: Z) H locs := ⟨hP, hD, hS⟩
  refine lv_aload_n hx hb dX8_init_9 rfl (lv_at hl 0 rfl) ?_
  refine lv_bipush (v := 36) hx hb dX8_init_10 (by decide) ?_
  refine n_newa hx hb hts hK hA hW 36 (by decide) (by decide) (by decide) (Nat.le_of_ble_eq_true rfl) (Nat.le_of_ble_eq_true rfl) dX8_init_12 (fun qn1 H hW => ?_)
  refine va_putF (D := D) (ci := 8) (v := .ref qn1) (ty := .array .int) (C := RX8) (T := TX8) (N := 5) hx hb hts inlX8 tyX8 tyX8_ok nmX8 hown hK hW.1 hW.2.1 hW.2.2 1 rfl rfl 1 (by decide) (hts _ wm5_20) (fun _ h9 => h9) rfl hin (by decide +kernel) (by decide +kernel) rfl rfl (Nat.le_of_ble_eq_true rfl) dX8_init_14 (fun H locs hP hD hS => ?_)
  have hW : Wd D A s.heap ((qn1, .inl (T 0, 36, .inl (fun _ => 0))) :: ((h0, .inr (8, [.int 0, .ref qn1, .null, .null, .null])) :: Z)) H locs := ⟨hP, hD, hS⟩
  refine lv_aload_n hx hb dX8_init_17 rfl (lv_at hl 0 rfl) ?_
  refine lv_bipush (v := 12) hx hb dX8_init_18 (by decide) ?_
  refine n_newa hx hb hts hK hA hW 12 (by decide) (by decide) (by decide) (Nat.le_of_ble_eq_true rfl) (Nat.le_of_ble_eq_true rfl) dX8_init_20 (fun qn2 H hW => ?_)
  refine va_putF (D := D) (ci := 8) (v := .ref qn2) (ty := .array .int) (C := RX8) (T := TX8) (N := 5) hx hb hts inlX8 tyX8 tyX8_ok nmX8 hown hK hW.1 hW.2.1 hW.2.2 2 rfl rfl 2 (by decide) (hts _ wm5_21) (fun _ h9 => h9) rfl hin (by decide +kernel) (by decide +kernel) rfl rfl (Nat.le_of_ble_eq_true rfl) dX8_init_22 (fun H locs hP hD hS => ?_)
  have hW : Wd D A s.heap ((qn2, .inl (T 0, 12, .inl (fun _ => 0))) :: ((qn1, .inl (T 0, 36, .inl (fun _ => 0))) :: ((h0, .inr (8, [.int 0, .ref qn1, .ref qn2, .null, .null])) :: Z))) H locs := ⟨hP, hD, hS⟩
  refine lv_aload_n hx hb dX8_init_25 rfl (lv_at hl 0 rfl) ?_
  refine lv_bipush (v := 12) hx hb dX8_init_26 (by decide) ?_
  refine n_newz hx hb hts hK hA hW 12 (by decide) (by decide) (by decide) (Nat.le_of_ble_eq_true rfl) (Nat.le_of_ble_eq_true rfl) dX8_init_28 (fun qn3 H hW => ?_)
  refine va_putF (D := D) (ci := 8) (v := .ref qn3) (ty := .array .boolean) (C := RX8) (T := TX8) (N := 5) hx hb hts inlX8 tyX8 tyX8_ok nmX8 hown hK hW.1 hW.2.1 hW.2.2 3 rfl rfl 3 (by decide) (hts _ wm5_22) (fun _ h9 => h9) rfl hin (by decide +kernel) (by decide +kernel) rfl rfl (Nat.le_of_ble_eq_true rfl) dX8_init_30 (fun H locs hP hD hS => ?_)
  have hW : Wd D A s.heap ((qn3, .inl (T 1, 12, .inl (fun _ => 0))) :: ((qn2, .inl (T 0, 12, .inl (fun _ => 0))) :: ((qn1, .inl (T 0, 36, .inl (fun _ => 0))) :: ((h0, .inr (8, [.int 0, .ref qn1, .ref qn2, .ref qn3, .null])) :: Z)))) H locs := ⟨hP, hD, hS⟩
  refine lv_aload_n hx hb dX8_init_33 rfl (lv_at hl 0 rfl) ?_
  refine lv_sipush (v := 480) hx hb dX8_init_34 (by decide) ?_
  refine n_newz hx hb hts hK hA hW 480 (by decide) (by decide) (by decide) (Nat.le_of_ble_eq_true rfl) (Nat.le_of_ble_eq_true rfl) dX8_init_37 (fun qn4 H hW => ?_)
  refine va_putF (D := D) (ci := 8) (v := .ref qn4) (ty := .array .boolean) (C := RX8) (T := TX8) (N := 5) hx hb hts inlX8 tyX8 tyX8_ok nmX8 hown hK hW.1 hW.2.1 hW.2.2 4 rfl rfl 4 (by decide) (hts _ wm5_23) (fun _ h9 => h9) rfl hin (by decide +kernel) (by decide +kernel) rfl rfl (Nat.le_of_ble_eq_true rfl) dX8_init_39 (fun H locs hP hD hS => ?_)
  have hW : Wd D A s.heap ((qn4, .inl (T 1, 480, .inl (fun _ => 0))) :: ((qn3, .inl (T 1, 12, .inl (fun _ => 0))) :: ((qn2, .inl (T 0, 12, .inl (fun _ => 0))) :: ((qn1, .inl (T 0, 36, .inl (fun _ => 0))) :: ((h0, .inr (8, [.int 0, .ref qn1, .ref qn2, .ref qn3, .ref qn4])) :: Z))))) H locs := ⟨hP, hD, hS⟩
  have hW := hW.perm (show ((qn4, .inl (T 1, 480, .inl (fun _ => 0))) :: ((qn3, .inl (T 1, 12, .inl (fun _ => 0))) :: ((qn2, .inl (T 0, 12, .inl (fun _ => 0))) :: ((qn1, .inl (T 0, 36, .inl (fun _ => 0))) :: ((h0, .inr (8, [.int 0, .ref qn1, .ref qn2, .ref qn3, .ref qn4])) :: Z))))).Perm (oc_X8 T (adf [h0, qn1, qn2, qn3, qn4]) z0 ++ Z) from List.Perm.append_right Z (List.reverse_perm (oc_X8 T (adf [h0, qn1, qn2, qn3, qn4]) z0)))
  refine W.widen (k := 4) (n := 540) (Nat.le_of_ble_eq_true rfl) (Nat.le_of_ble_eq_true rfl) ?_
  exact W.vret hx hb hr (fun t ht _ => ⟨⟨(adf [h0, qn1, qn2, qn3, qn4]), rfl, rfl, by rw [ht]; exact hW.1, hW.2.1⟩, hW.2.2.F ht⟩) hW.2.2.2.2 dX8_init_42 hlk
set_option maxHeartbeats 4000000 in
set_option maxRecDepth 100000 in
theorem i_X9 (l : Launch) (D : va_G) (T : Nat → ClassId) (A : Nat → Prop) (h0 : Nat) (Z : va_W) : Met l yX9_init (Cond.code yX9_init cX9_init 1 none :: wsL_law) (rmi 1 4 512) (Pi D T A ((h0, .inr (9, [.int 0, .null, .null, .null, .null])) :: Z) [.ref h0]) (Qi D A (fun u : Nat → Nat => u 0 = h0) (fun u => oc_X9 T u z0 ++ Z)) 4 512 A := by
  refine Met.ofW (cc := cX9_init) (maxL := 1) (ret := none) (by decide +kernel) rfl ?_
  intro p e s m args below meth c s₁ B hml hv
  obtain ⟨ha, hP, hK, hD, hN, hA⟩ := hv
  have hx := B.exec
  have hb := B.bytes
  have hr := B.returns
  have hlk := B.notSynchronized
  have hin : meth.name = "<init>" := (name_of_methodNamed B.named B.method).1
  have hts : ∀ w ∈ wsL_law, w.before args s = true := fun w hw => atoms_spec B.pre w (List.mem_cons_of_mem _ hw)
  have hown : s.vm.findClass RX9 = some m.cls := findClass_of_methodNamed B.named
  have hW : Wd D A s.heap ((h0, .inr (9, [.int 0, .null, .null, .null, .null])) :: Z) s.heap [] := ⟨hP, hD, va_S.rf⟩
  have hl := lv_entry [.ref h0] (n := 1) (Nat.le_of_ble_eq_true rfl)
  refine W.eq (en_eq ha) ?_
  generalize (lg_sl [.ref h0] ++ List.replicate (1 - (lg_sl [.ref h0]).length) Slot.unset).toArray = ls at hl ⊢
  have hl : lv_has ls 1 [(0, .ref h0)] := hl
  clear hP hD B ha
  change W p l e (rmi 1 4 512) s m args below meth c s.heap [] 0 0 _ (F0 m 0 ls [])
  refine lv_aload_n hx hb dX9_init_0 rfl (lv_at hl 0 rfl) ?_
  refine W.objInit hx hb hown (hts _ wm5_3) (hts _ wm1_9) (hts _ wm1_10) rfl (by rw [hml]; exact hl.1) rfl dX9_init_1 (Nat.le_of_ble_eq_true rfl) (Nat.le_of_ble_eq_true rfl) ?_
  refine W.eq (g2 := F0 m 4 ls []) rfl ?_
  refine lv_aload_n hx hb dX9_init_4 rfl (lv_at hl 0 rfl) ?_
  refine lv_iconst (v := 0) hx hb dX9_init_5 (by decide) ?_
  refine va_put (D := D) (ci := 9) (v := .int 0) (ty := .int) (C := RX9) (T := TX9) (N := 5) hx hb hts inlX9 tyX9 tyX9_ok nmX9 hown hK hW.1 hW.2.1 hW.2.2 0 rfl rfl 0 (by decide) (hts _ wm5_4) (fun _ h9 => h9) rfl (by decide +kernel) rfl rfl (Nat.le_of_ble_eq_true rfl) dX9_init_6 (fun H locs hP hD hS => ?_)
  have hW : Wd D A s.heap ((h0, .inr (9, [.int 0, .null, .null, .null, .null])) :: Z) H locs := ⟨hP, hD, hS⟩
  refine lv_aload_n hx hb dX9_init_9 rfl (lv_at hl 0 rfl) ?_
  refine lv_sipush (v := 128) hx hb dX9_init_10 (by decide) ?_
  refine n_newa hx hb hts hK hA hW 128 (by decide) (by decide) (by decide) (Nat.le_of_ble_eq_true rfl) (Nat.le_of_ble_eq_true rfl) dX9_init_13 (fun qn1 H hW => ?_)
  refine va_putF (D := D) (ci := 9) (v := .ref qn1) (ty := .array .int) (C := RX9) (T := TX9) (N := 5) hx hb hts inlX9 tyX9 tyX9_ok nmX9 hown hK hW.1 hW.2.1 hW.2.2 1 rfl rfl 1 (by decide) (hts _ wm5_5) (fun _ h9 => h9) rfl hin (by decide +kernel) (by decide +kernel) rfl rfl (Nat.le_of_ble_eq_true rfl) dX9_init_15 (fun H locs hP hD hS => ?_)
  have hW : Wd D A s.heap ((qn1, .inl (T 0, 128, .inl (fun _ => 0))) :: ((h0, .inr (9, [.int 0, .ref qn1, .null, .null, .null])) :: Z)) H locs := ⟨hP, hD, hS⟩
  refine lv_aload_n hx hb dX9_init_18 rfl (lv_at hl 0 rfl) ?_
  refine lv_sipush (v := 128) hx hb dX9_init_19 (by decide) ?_
  refine n_newa hx hb hts hK hA hW 128 (by decide) (by decide) (by decide) (Nat.le_of_ble_eq_true rfl) (Nat.le_of_ble_eq_true rfl) dX9_init_22 (fun qn2 H hW => ?_)
  refine va_putF (D := D) (ci := 9) (v := .ref qn2) (ty := .array .int) (C := RX9) (T := TX9) (N := 5) hx hb hts inlX9 tyX9 tyX9_ok nmX9 hown hK hW.1 hW.2.1 hW.2.2 2 rfl rfl 2 (by decide) (hts _ wm5_6) (fun _ h9 => h9) rfl hin (by decide +kernel) (by decide +kernel) rfl rfl (Nat.le_of_ble_eq_true rfl) dX9_init_24 (fun H locs hP hD hS => ?_)
  have hW : Wd D A s.heap ((qn2, .inl (T 0, 128, .inl (fun _ => 0))) :: ((qn1, .inl (T 0, 128, .inl (fun _ => 0))) :: ((h0, .inr (9, [.int 0, .ref qn1, .ref qn2, .null, .null])) :: Z))) H locs := ⟨hP, hD, hS⟩
  refine lv_aload_n hx hb dX9_init_27 rfl (lv_at hl 0 rfl) ?_
  refine lv_sipush (v := 128) hx hb dX9_init_28 (by decide) ?_
  refine n_newa hx hb hts hK hA hW 128 (by decide) (by decide) (by decide) (Nat.le_of_ble_eq_true rfl) (Nat.le_of_ble_eq_true rfl) dX9_init_31 (fun qn3 H hW => ?_)
  refine va_putF (D := D) (ci := 9) (v := .ref qn3) (ty := .array .int) (C := RX9) (T := TX9) (N := 5) hx hb hts inlX9 tyX9 tyX9_ok nmX9 hown hK hW.1 hW.2.1 hW.2.2 3 rfl rfl 3 (by decide) (hts _ wm5_7) (fun _ h9 => h9) rfl hin (by decide +kernel) (by decide +kernel) rfl rfl (Nat.le_of_ble_eq_true rfl) dX9_init_33 (fun H locs hP hD hS => ?_)
  have hW : Wd D A s.heap ((qn3, .inl (T 0, 128, .inl (fun _ => 0))) :: ((qn2, .inl (T 0, 128, .inl (fun _ => 0))) :: ((qn1, .inl (T 0, 128, .inl (fun _ => 0))) :: ((h0, .inr (9, [.int 0, .ref qn1, .ref qn2, .ref qn3, .null])) :: Z)))) H locs := ⟨hP, hD, hS⟩
  refine lv_aload_n hx hb dX9_init_36 rfl (lv_at hl 0 rfl) ?_
  refine lv_sipush (v := 128) hx hb dX9_init_37 (by decide) ?_
  refine n_newa hx hb hts hK hA hW 128 (by decide) (by decide) (by decide) (Nat.le_of_ble_eq_true rfl) (Nat.le_of_ble_eq_true rfl) dX9_init_40 (fun qn4 H hW => ?_)
  refine va_putF (D := D) (ci := 9) (v := .ref qn4) (ty := .array .int) (C := RX9) (T := TX9) (N := 5) hx hb hts inlX9 tyX9 tyX9_ok nmX9 hown hK hW.1 hW.2.1 hW.2.2 4 rfl rfl 4 (by decide) (hts _ wm5_8) (fun _ h9 => h9) rfl hin (by decide +kernel) (by decide +kernel) rfl rfl (Nat.le_of_ble_eq_true rfl) dX9_init_42 (fun H locs hP hD hS => ?_)
  have hW : Wd D A s.heap ((qn4, .inl (T 0, 128, .inl (fun _ => 0))) :: ((qn3, .inl (T 0, 128, .inl (fun _ => 0))) :: ((qn2, .inl (T 0, 128, .inl (fun _ => 0))) :: ((qn1, .inl (T 0, 128, .inl (fun _ => 0))) :: ((h0, .inr (9, [.int 0, .ref qn1, .ref qn2, .ref qn3, .ref qn4])) :: Z))))) H locs := ⟨hP, hD, hS⟩
  have hW := hW.perm (show ((qn4, .inl (T 0, 128, .inl (fun _ => 0))) :: ((qn3, .inl (T 0, 128, .inl (fun _ => 0))) :: ((qn2, .inl (T 0, 128, .inl (fun _ => 0))) :: ((qn1, .inl (T 0, 128, .inl (fun _ => 0))) :: ((h0, .inr (9, [.int 0, .ref qn1, .ref qn2, .ref qn3, .ref qn4])) :: Z))))).Perm (oc_X9 T (adf [h0, qn1, qn2, qn3, qn4]) z0 ++ Z) from List.Perm.append_right Z (List.reverse_perm (oc_X9 T (adf [h0, qn1, qn2, qn3, qn4]) z0)))
  refine W.widen (k := 4) (n := 512) (Nat.le_of_ble_eq_true rfl) (Nat.le_of_ble_eq_true rfl) ?_
  exact W.vret hx hb hr (fun t ht _ => ⟨⟨(adf [h0, qn1, qn2, qn3, qn4]), rfl, rfl, by rw [ht]; exact hW.1, hW.2.1⟩, hW.2.2.F ht⟩) hW.2.2.2.2 dX9_init_45 hlk
set_option maxHeartbeats 4000000 in
set_option maxRecDepth 100000 in
theorem i_X6 (l : Launch) (D : va_G) (T : Nat → ClassId) (A : Nat → Prop) (h0 : Nat) (Z : va_W) : Met l yX6_init (Cond.code yX6_init cX6_init 1 none :: wsL_law) (rmi 2 14 2127) (Pi D T A ((h0, .inr (6, [.int 0, .null, .null, .null, .null, .null, .null, .int 0, .int 0])) :: Z) [.ref h0]) (Qi D A (fun u : (Nat → Nat) × (Nat → Nat) => u.1 0 = h0 ∧ u.1 106 = u.2 0) (fun u => oc_X6 T u.1 zX6 ++ (oc_X0 T u.2 z0 ++ Z))) 14 2127 A := by
  refine Met.ofW (cc := cX6_init) (maxL := 1) (ret := none) (by decide +kernel) rfl ?_
  intro p e s m args below meth c s₁ B hml hv
  obtain ⟨ha, hP, hK, hD, hN, hA⟩ := hv
  have hx := B.exec
  have hb := B.bytes
  have hr := B.returns
  have hlk := B.notSynchronized
  have hin : meth.name = "<init>" := (name_of_methodNamed B.named B.method).1
  have hts : ∀ w ∈ wsL_law, w.before args s = true := fun w hw => atoms_spec B.pre w (List.mem_cons_of_mem _ hw)
  have hown : s.vm.findClass RX6 = some m.cls := findClass_of_methodNamed B.named
  have hW : Wd D A s.heap ((h0, .inr (6, [.int 0, .null, .null, .null, .null, .null, .null, .int 0, .int 0])) :: Z) s.heap [] := ⟨hP, hD, va_S.rf⟩
  have hl := lv_entry [.ref h0] (n := 1) (Nat.le_of_ble_eq_true rfl)
  refine W.eq (en_eq ha) ?_
  generalize (lg_sl [.ref h0] ++ List.replicate (1 - (lg_sl [.ref h0]).length) Slot.unset).toArray = ls at hl ⊢
  have hl : lv_has ls 1 [(0, .ref h0)] := hl
  clear hP hD B ha
  change W p l e (rmi 2 14 2127) s m args below meth c s.heap [] 0 0 _ (F0 m 0 ls [])
  refine lv_aload_n hx hb dX6_init_0 rfl (lv_at hl 0 rfl) ?_
  refine W.objInit hx hb hown (hts _ wm6_2) (hts _ wm1_9) (hts _ wm1_10) rfl (by rw [hml]; exact hl.1) rfl dX6_init_1 (Nat.le_of_ble_eq_true rfl) (Nat.le_of_ble_eq_true rfl) ?_
  refine W.eq (g2 := F0 m 4 ls []) rfl ?_
  refine lv_aload_n hx hb dX6_init_4 rfl (lv_at hl 0 rfl) ?_
  refine lv_iconst (v := 0) hx hb dX6_init_5 (by decide) ?_
  refine va_put (D := D) (ci := 6) (v := .int 0) (ty := .int) (C := RX6) (T := TX6) (N := 9) hx hb hts inlX6 tyX6 tyX6_ok nmX6 hown hK hW.1 hW.2.1 hW.2.2 0 rfl rfl 0 (by decide) (hts _ wm6_3) (fun _ h9 => h9) rfl (by decide +kernel) rfl rfl (Nat.le_of_ble_eq_true rfl) dX6_init_6 (fun H locs hP hD hS => ?_)
  have hW : Wd D A s.heap ((h0, .inr (6, [.int 0, .null, .null, .null, .null, .null, .null, .int 0, .int 0])) :: Z) H locs := ⟨hP, hD, hS⟩
  refine lv_aload_n hx hb dX6_init_9 rfl (lv_at hl 0 rfl) ?_
  refine lv_bipush (v := 6) hx hb dX6_init_10 (by decide) ?_
  refine n_newa hx hb hts hK hA hW 6 (by decide) (by decide) (by decide) (Nat.le_of_ble_eq_true rfl) (Nat.le_of_ble_eq_true rfl) dX6_init_12 (fun qn1 H hW => ?_)
  refine va_putF (D := D) (ci := 6) (v := .ref qn1) (ty := .array .int) (C := RX6) (T := TX6) (N := 9) hx hb hts inlX6 tyX6 tyX6_ok nmX6 hown hK hW.1 hW.2.1 hW.2.2 1 rfl rfl 1 (by decide) (hts _ wm6_4) (fun _ h9 => h9) rfl hin (by decide +kernel) (by decide +kernel) rfl rfl (Nat.le_of_ble_eq_true rfl) dX6_init_14 (fun H locs hP hD hS => ?_)
  have hW : Wd D A s.heap ((qn1, .inl (T 0, 6, .inl (fun _ => 0))) :: ((h0, .inr (6, [.int 0, .ref qn1, .null, .null, .null, .null, .null, .int 0, .int 0])) :: Z)) H locs := ⟨hP, hD, hS⟩
  refine lv_aload_n hx hb dX6_init_17 rfl (lv_at hl 0 rfl) ?_
  refine lv_bipush (v := 6) hx hb dX6_init_18 (by decide) ?_
  refine n_newa hx hb hts hK hA hW 6 (by decide) (by decide) (by decide) (Nat.le_of_ble_eq_true rfl) (Nat.le_of_ble_eq_true rfl) dX6_init_20 (fun qn2 H hW => ?_)
  refine va_putF (D := D) (ci := 6) (v := .ref qn2) (ty := .array .int) (C := RX6) (T := TX6) (N := 9) hx hb hts inlX6 tyX6 tyX6_ok nmX6 hown hK hW.1 hW.2.1 hW.2.2 2 rfl rfl 2 (by decide) (hts _ wm6_5) (fun _ h9 => h9) rfl hin (by decide +kernel) (by decide +kernel) rfl rfl (Nat.le_of_ble_eq_true rfl) dX6_init_22 (fun H locs hP hD hS => ?_)
  have hW : Wd D A s.heap ((qn2, .inl (T 0, 6, .inl (fun _ => 0))) :: ((qn1, .inl (T 0, 6, .inl (fun _ => 0))) :: ((h0, .inr (6, [.int 0, .ref qn1, .ref qn2, .null, .null, .null, .null, .int 0, .int 0])) :: Z))) H locs := ⟨hP, hD, hS⟩
  refine lv_aload_n hx hb dX6_init_25 rfl (lv_at hl 0 rfl) ?_
  refine lv_bipush (v := 6) hx hb dX6_init_26 (by decide) ?_
  refine n_newa hx hb hts hK hA hW 6 (by decide) (by decide) (by decide) (Nat.le_of_ble_eq_true rfl) (Nat.le_of_ble_eq_true rfl) dX6_init_28 (fun qn3 H hW => ?_)
  refine va_putF (D := D) (ci := 6) (v := .ref qn3) (ty := .array .int) (C := RX6) (T := TX6) (N := 9) hx hb hts inlX6 tyX6 tyX6_ok nmX6 hown hK hW.1 hW.2.1 hW.2.2 3 rfl rfl 3 (by decide) (hts _ wm6_6) (fun _ h9 => h9) rfl hin (by decide +kernel) (by decide +kernel) rfl rfl (Nat.le_of_ble_eq_true rfl) dX6_init_30 (fun H locs hP hD hS => ?_)
  have hW : Wd D A s.heap ((qn3, .inl (T 0, 6, .inl (fun _ => 0))) :: ((qn2, .inl (T 0, 6, .inl (fun _ => 0))) :: ((qn1, .inl (T 0, 6, .inl (fun _ => 0))) :: ((h0, .inr (6, [.int 0, .ref qn1, .ref qn2, .ref qn3, .null, .null, .null, .int 0, .int 0])) :: Z)))) H locs := ⟨hP, hD, hS⟩
  refine lv_aload_n hx hb dX6_init_33 rfl (lv_at hl 0 rfl) ?_
  refine lv_bipush (v := 24) hx hb dX6_init_34 (by decide) ?_
  refine n_newa hx hb hts hK hA hW 24 (by decide) (by decide) (by decide) (Nat.le_of_ble_eq_true rfl) (Nat.le_of_ble_eq_true rfl) dX6_init_36 (fun qn4 H hW => ?_)
  refine va_putF (D := D) (ci := 6) (v := .ref qn4) (ty := .array .int) (C := RX6) (T := TX6) (N := 9) hx hb hts inlX6 tyX6 tyX6_ok nmX6 hown hK hW.1 hW.2.1 hW.2.2 4 rfl rfl 4 (by decide) (hts _ wm6_7) (fun _ h9 => h9) rfl hin (by decide +kernel) (by decide +kernel) rfl rfl (Nat.le_of_ble_eq_true rfl) dX6_init_38 (fun H locs hP hD hS => ?_)
  have hW : Wd D A s.heap ((qn4, .inl (T 0, 24, .inl (fun _ => 0))) :: ((qn3, .inl (T 0, 6, .inl (fun _ => 0))) :: ((qn2, .inl (T 0, 6, .inl (fun _ => 0))) :: ((qn1, .inl (T 0, 6, .inl (fun _ => 0))) :: ((h0, .inr (6, [.int 0, .ref qn1, .ref qn2, .ref qn3, .ref qn4, .null, .null, .int 0, .int 0])) :: Z))))) H locs := ⟨hP, hD, hS⟩
  refine lv_aload_n hx hb dX6_init_41 rfl (lv_at hl 0 rfl) ?_
  refine lv_bipush (v := 24) hx hb dX6_init_42 (by decide) ?_
  refine n_newa hx hb hts hK hA hW 24 (by decide) (by decide) (by decide) (Nat.le_of_ble_eq_true rfl) (Nat.le_of_ble_eq_true rfl) dX6_init_44 (fun qn5 H hW => ?_)
  refine va_putF (D := D) (ci := 6) (v := .ref qn5) (ty := .array .int) (C := RX6) (T := TX6) (N := 9) hx hb hts inlX6 tyX6 tyX6_ok nmX6 hown hK hW.1 hW.2.1 hW.2.2 5 rfl rfl 5 (by decide) (hts _ wm6_8) (fun _ h9 => h9) rfl hin (by decide +kernel) (by decide +kernel) rfl rfl (Nat.le_of_ble_eq_true rfl) dX6_init_46 (fun H locs hP hD hS => ?_)
  have hW : Wd D A s.heap ((qn5, .inl (T 0, 24, .inl (fun _ => 0))) :: ((qn4, .inl (T 0, 24, .inl (fun _ => 0))) :: ((qn3, .inl (T 0, 6, .inl (fun _ => 0))) :: ((qn2, .inl (T 0, 6, .inl (fun _ => 0))) :: ((qn1, .inl (T 0, 6, .inl (fun _ => 0))) :: ((h0, .inr (6, [.int 0, .ref qn1, .ref qn2, .ref qn3, .ref qn4, .ref qn5, .null, .int 0, .int 0])) :: Z)))))) H locs := ⟨hP, hD, hS⟩
  refine lv_aload_n hx hb dX6_init_49 rfl (lv_at hl 0 rfl) ?_
  refine va_new (ci := 0) (fs := [.int 0, .null, .null, .null, .null, .null, .null, .null, .null]) (C := RX0) (T := TX0) (N := 9) hx hb hts inlX0 tyX0 tyX0_ok hown (hts _ wm6_9) (hts _ wm6_10) (hts _ wm6_11) hK hW.1 hW.2.1 hW.2.2 hA rfl (fun j hj => by rcases (show j = 0 ∨ j = 1 ∨ j = 2 ∨ j = 3 ∨ j = 4 ∨ j = 5 ∨ j = 6 ∨ j = 7 ∨ j = 8 by omega) with rfl | rfl | rfl | rfl | rfl | rfl | rfl | rfl | rfl <;> rfl) (Nat.le_of_ble_eq_true rfl) (Nat.le_of_ble_eq_true rfl) dX6_init_50 (fun qn6 H hP hD hS => ?_)
  have hW : Wd D A s.heap ((qn6, .inr (0, [.int 0, .null, .null, .null, .null, .null, .null, .null, .null])) :: ((qn5, .inl (T 0, 24, .inl (fun _ => 0))) :: ((qn4, .inl (T 0, 24, .inl (fun _ => 0))) :: ((qn3, .inl (T 0, 6, .inl (fun _ => 0))) :: ((qn2, .inl (T 0, 6, .inl (fun _ => 0))) :: ((qn1, .inl (T 0, 6, .inl (fun _ => 0))) :: ((h0, .inr (6, [.int 0, .ref qn1, .ref qn2, .ref qn3, .ref qn4, .ref qn5, .null, .int 0, .int 0])) :: Z))))))) H locs := ⟨hP.perm (List.perm_append_singleton _ _), hD.perm (List.perm_append_singleton _ _), hS⟩
  refine lv_dup hx hb dX6_init_53 rfl ?_
  refine n_init (host := "ReadingChart") hx hb hml hown hts hK hN hA hW (i_X0 l D T A qn6 (((qn5, .inl (T 0, 24, .inl (fun _ => 0))) :: ((qn4, .inl (T 0, 24, .inl (fun _ => 0))) :: ((qn3, .inl (T 0, 6, .inl (fun _ => 0))) :: ((qn2, .inl (T 0, 6, .inl (fun _ => 0))) :: ((qn1, .inl (T 0, 6, .inl (fun _ => 0))) :: ((h0, .inr (6, [.int 0, .ref qn1, .ref qn2, .ref qn3, .ref qn4, .ref qn5, .null, .int 0, .int 0])) :: Z)))))))) (hN.2 _ (List.mem_of_getElem? (i := 16) rfl)) wm6_15 wm6_11 wm6_16 rfl ⟨by decide +kernel, by decide +kernel, by decide +kernel⟩ ⟨Nat.le_of_ble_eq_true rfl, Nat.le_of_ble_eq_true rfl⟩ hl.1 (Nat.le_of_ble_eq_true rfl) dX6_init_54 ⟨Nat.le_of_ble_eq_true rfl, Nat.le_of_ble_eq_true rfl⟩ (fun a_6 H locs ha_6 hW => ?_)
  have ea_6 : a_6 0 = qn6 := ha_6
  rw [← ea_6]
  refine va_putF (D := D) (ci := 6) (v := .ref (a_6 0)) (ty := .object "ReadingChart$Chart") (C := RX6) (T := TX6) (N := 9) hx hb hts inlX6 tyX6 tyX6_ok nmX6 hown hK hW.1 hW.2.1 hW.2.2 14 rfl rfl 6 (by decide) (hts _ wm6_12) (fun _ h9 => h9) rfl hin (by decide +kernel) (by decide +kernel) rfl rfl (Nat.le_of_ble_eq_true rfl) dX6_init_57 (fun H locs hP hD hS => ?_)
  have hW : Wd D A s.heap (oc_X0 T a_6 z0 ++ ((qn5, .inl (T 0, 24, .inl (fun _ => 0))) :: ((qn4, .inl (T 0, 24, .inl (fun _ => 0))) :: ((qn3, .inl (T 0, 6, .inl (fun _ => 0))) :: ((qn2, .inl (T 0, 6, .inl (fun _ => 0))) :: ((qn1, .inl (T 0, 6, .inl (fun _ => 0))) :: ((h0, .inr (6, [.int 0, .ref qn1, .ref qn2, .ref qn3, .ref qn4, .ref qn5, .ref (a_6 0), .int 0, .int 0])) :: Z))))))) H locs := ⟨hP, hD, hS⟩
  refine lv_aload_n hx hb dX6_init_60 rfl (lv_at hl 0 rfl) ?_
  refine lv_iconst (v := 0) hx hb dX6_init_61 (by decide) ?_
  refine va_put (D := D) (ci := 6) (v := .int 0) (ty := .boolean) (C := RX6) (T := TX6) (N := 9) hx hb hts inlX6 tyX6 tyX6_ok nmX6 hown hK hW.1 hW.2.1 hW.2.2 14 rfl rfl 7 (by decide) (hts _ wm6_13) (fun _ h9 => h9) rfl (by decide +kernel) rfl rfl (Nat.le_of_ble_eq_true rfl) dX6_init_62 (fun H locs hP hD hS => ?_)
  have hW : Wd D A s.heap (oc_X0 T a_6 z0 ++ ((qn5, .inl (T 0, 24, .inl (fun _ => 0))) :: ((qn4, .inl (T 0, 24, .inl (fun _ => 0))) :: ((qn3, .inl (T 0, 6, .inl (fun _ => 0))) :: ((qn2, .inl (T 0, 6, .inl (fun _ => 0))) :: ((qn1, .inl (T 0, 6, .inl (fun _ => 0))) :: ((h0, .inr (6, [.int 0, .ref qn1, .ref qn2, .ref qn3, .ref qn4, .ref qn5, .ref (a_6 0), .int 0, .int 0])) :: Z))))))) H locs := ⟨hP, hD, hS⟩
  refine lv_aload_n hx hb dX6_init_65 rfl (lv_at hl 0 rfl) ?_
  refine lv_iconst (v := 1) hx hb dX6_init_66 (by decide) ?_
  refine va_put (D := D) (ci := 6) (v := .int 1) (ty := .boolean) (C := RX6) (T := TX6) (N := 9) hx hb hts inlX6 tyX6 tyX6_ok nmX6 hown hK hW.1 hW.2.1 hW.2.2 14 rfl rfl 8 (by decide) (hts _ wm6_14) (fun _ h9 => h9) rfl (by decide +kernel) rfl rfl (Nat.le_of_ble_eq_true rfl) dX6_init_67 (fun H locs hP hD hS => ?_)
  have hW : Wd D A s.heap (oc_X0 T a_6 z0 ++ ((qn5, .inl (T 0, 24, .inl (fun _ => 0))) :: ((qn4, .inl (T 0, 24, .inl (fun _ => 0))) :: ((qn3, .inl (T 0, 6, .inl (fun _ => 0))) :: ((qn2, .inl (T 0, 6, .inl (fun _ => 0))) :: ((qn1, .inl (T 0, 6, .inl (fun _ => 0))) :: ((h0, .inr (6, [.int 0, .ref qn1, .ref qn2, .ref qn3, .ref qn4, .ref qn5, .ref (a_6 0), .int 0, .int 1])) :: Z))))))) H locs := ⟨hP, hD, hS⟩
  have hW := hW.perm (show (oc_X0 T a_6 z0 ++ ((qn5, .inl (T 0, 24, .inl (fun _ => 0))) :: ((qn4, .inl (T 0, 24, .inl (fun _ => 0))) :: ((qn3, .inl (T 0, 6, .inl (fun _ => 0))) :: ((qn2, .inl (T 0, 6, .inl (fun _ => 0))) :: ((qn1, .inl (T 0, 6, .inl (fun _ => 0))) :: ((h0, .inr (6, [.int 0, .ref qn1, .ref qn2, .ref qn3, .ref qn4, .ref qn5, .ref (a_6 0), .int 0, .int 1])) :: Z))))))).Perm (oc_X0 T a_6 z0 ++ ((oc_X6 T (adx [h0, qn1, qn2, qn3, qn4, qn5] (a_6 0)) zX6).reverse ++ Z)) from List.Perm.refl _)
  have hW := hW.perm (List.Perm.append_left _ (List.Perm.append_right Z (List.reverse_perm _)))
  have hW := hW.perm pf1
  refine W.widen (k := 14) (n := 2127) (Nat.le_of_ble_eq_true rfl) (Nat.le_of_ble_eq_true rfl) ?_
  exact W.vret hx hb hr (fun t ht _ => ⟨⟨((adx [h0, qn1, qn2, qn3, qn4, qn5] (a_6 0)), a_6), rfl, ⟨rfl, rfl⟩, by rw [ht]; exact hW.1, hW.2.1⟩, hW.2.2.F ht⟩) hW.2.2.2.2 dX6_init_70 hlk
