def outc (T : Nat → ClassId) (ao : Nat) (g : Nat → Int64) : va_W := [(ao, .inl (T 3, 1, .inr (.inl g)))]
def ncl : List (String × String) := [("java/lang/IllegalStateException", "java/lang/IllegalArgumentException"), ("java/lang/IllegalArgumentException", "java/lang/IndexOutOfBoundsException"), ("java/lang/IllegalStateException", "java/lang/IndexOutOfBoundsException")]
def NC (U : State) : Prop := ∀ q ∈ ncl, va_Nc q.1 q.2 U
def Pw (D : va_G) (T : Nat → ClassId) (A : Nat → Prop) (ws : va_W) (av : List Value) : Array Value → State → Prop := va_Pc av (fun U => va_P D vwCl ws U.heap ∧ va_K D vwCl (tys T) U ∧ va_D A ws ∧ NN U ∧ EX A U U.heap ∧ NC U)
theorem Pw_bl {D : va_G} {T : Nat → ClassId} {A : Nat → Prop} {ws : va_W} {av : List Value} : FrameBlind (Pw D T A ws av) := fun a U g mk q => by
  obtain ⟨q0, qP, qK, qD, qN, qE, qC⟩ := q
  obtain ⟨-, h⟩ := Px_bl a U g mk ⟨q0, qP, qK, qD, qN, qE⟩
  exact ⟨q0, h.1, h.2.1, h.2.2.1, h.2.2.2.1, h.2.2.2.2, fun q hq => va_Nc.moved (u := U) (U := U.calling g mk a) (Vm.Alike.refl U.vm) (qC q hq)⟩
section WROWS
variable {p : Program} {l : Launch} {e : Env} {R : Room} {s : State} {m : MethodId} {args : Array Value} {below : List Frame} {meth : Method} {c : Code} {H : Heap} {locs : List Loc} {cells slots : Nat} {Q : State → Prop} {cc : ByteArray} {pc nL n k k1 d d1 : Nat} {ls : Array Slot} {rest st : List Value} {D : va_G} {T : Nat → ClassId} {A : Nat → Prop} {ws ws9 Z : va_W} {H0 : Heap} {a b : Nat} {r : Int32} {As : List Value} {y : MethodName} {own C : String} {bytes : ByteArray} {maxL index : Nat} {ret : Option FieldType}
theorem w_pre {U : State} {av : List Value} (hK : va_K D vwCl (tys T) s) (hN : NN s) (hE : EX A s H) (hC : NC s) (hW : Wd D A H0 ws H locs) (hU : U.heap = H) (hw : s.WarmedH U.vm) : Pw D T A ws av av.toArray U := ⟨rfl, by rw [hU]; exact hW.1, va_K.moved hw.alike hK, hW.2.1, hN.warm hw, by rw [hU]; exact hE.warm hw, fun q hq => va_Nc.moved hw.alike (hC q hq)⟩
theorem g_last (hx : p.tables.exec = Jvm.exec) (hb : c.code = cc) (hK : va_K D vwCl (tys T) s) {ao : Nat} {g : Nat → Int64} (hW : Wd D A H0 (outc T ao g ++ ws) H locs) {x : Int64} (d : decode cc pc = .ok (.lastore, 1))
    (k : ∀ (H1 : Heap) (locs1 : List Loc), Wd D A H0 (outc T ao (vp_updL g 0 x) ++ ws) H1 locs1 → W p l e R s m args below meth c H1 locs1 cells slots Q (F0 m (pc + 1) ls rest)) : W p l e R s m args below meth c H locs cells slots Q (F0 m pc ls (.long x :: .int 0 :: .ref ao :: rest)) :=
  va_last hx hb hK hW.1 hW.2.1 hW.2.2 0 3 rfl rfl (gd_in (by decide)) d (fun H1 locs1 hP hD hS => k H1 locs1 ⟨hP, hD, hS⟩)
/-- a call that throws, caught here -/
theorem xc_vi (hk : k ≠ 0) (hx : p.tables.exec = Jvm.exec) (hb : c.code = cc) (hml : c.maxLocals = nL) (hown : s.vm.findClass own = some m.cls) (hts : ∀ w ∈ wsL_law, w.before args s = true) (hK : va_K D vwCl (tys T) s) (hN : NN s) (hE : EX A s s.heap) (hW : Wd D A s.heap ws H locs) (cw : CallW R s args own C index y bytes maxL ret (Cond.code y bytes maxL ret :: wsL_law) (rmx d1 k) (ex1 k) (ex6 k) n) (hrc : ∃ (ci : Nat) (q : vw_C) (fs : List Value), vwCl[ci]? = some q ∧ q.1 = C ∧ ws[0]? = some (b, .inr (ci, fs)))
    (hM : vx_Met l y (Cond.code y bytes maxL ret :: wsL_law) (rmx d1 k) (Px D T A ws (.ref b :: As)) (Qxi D A ws9 k r) (XCx D A ws9 k) (ex1 k) (ex6 k) A) (hn : As.length = n) (hsz : ls.size = nL) (hst : st = As.reverse ++ .ref b :: rest) (h8 : (rest.map fun v => v.category).sum ≤ 8) (d : decode cc pc = .ok (.invokevirtual index, 3)) (hf : cells + ex1 k ≤ R.cells ∧ slots + ex6 k ≤ R.slots)
    (kx : ∀ (ce : Cell) (q9 : Addr) (H1 : Heap) (locs1 : List Loc), Wd D A s.heap ws9 H1 locs1 → H1[q9]? = some ce → ce.vm = .none → s.vm.findClass (exN k) = some ce.cls → vx_W p l e R s m args below meth c H1 locs1 (cells + ex1 k) (slots + ex6 k) Q (F0 m pc ls rest) q9) : W p l e R s m args below meth c H locs cells slots Q (F0 m pc ls st) := by
  subst hst
  obtain ⟨ci, q, fs, hc, hq, he⟩ := hrc
  refine vx_calli (vx_runV (As := As) (rest := rest) ⟨hx, hb, hml, hown, hts⟩ hM cw ⟨Px_bl, by rw [← hq]; exact va_recv hK hW.1 hc he, fun U hU hw => x_pre hK hN hE hW hU hw⟩ rfl hn hsz rfl (lv_room h8) d hf) hW.2.2 (fun q _ h => h) (fun q h => h) (fun q _ h => h) (fun E ce q9 u t H1 locs1 ht hvm hp9 hB hz hk9 hS hce hcv hcl => ?_) (fun r2 u t H1 locs1 ht hvm hw hB hz1 hk1 hS => absurd hw.2 hk)
  obtain ⟨rfl, hB⟩ := hB
  exact kx ce q9 H1 locs1 ⟨by rw [← ht]; exact hB.1, hB.2, hS⟩ hce hcv hcl
end WROWS
set_option maxHeartbeats 4000000 in
set_option maxRecDepth 100000 in
theorem wL_word_0 (l : Launch) (hfl : l.stackTraces = false) (D : va_G) (T : Nat → ClassId) (A : Nat → Prop) (ad : Nat → Nat → Nat) (hok : okad ad) (Z : va_W) (ao : Nat) (g : Nat → Int64) (x_K : Nat → Ob) (p1 : Int32) (r : Int32) (x_K9 : Nat → Ob) (h : f_X10_word x_K p1 = some (0, r, x_K9)) : Met l yL_word (Cond.codeWith yL_word cL_word 4 (some .int) [(0, 9, 12, 13), (0, 9, 15, 15)] :: wsL_law) (rmx 7 0) (Pw D T A (outc T ao g ++ (oc_X10 T (ad 0) (bb ad) (x_K 0) ++ (wkL T ad x_K L18 ++ Z))) [.ref (ad 0 0), .int p1, .ref ao]) (Qgi D A (outc T ao (vp_updL g 0 r.toInt64) ++ (oc_X10 T (ad 0) (bb ad) (x_K9 0) ++ (wkL T ad x_K9 L18 ++ Z))) 0) (ex1 0) (ex6 0) A := by
  refine va_MetW (cc := cL_word) (maxL := 4) (ret := (some .int)) (hh := [(0, 9, 12, 13), (0, 9, 15, 15)]) (by decide +kernel) rfl ?_
  intro p e s m args below meth c s₁ B hml hv
  obtain ⟨ha, hP, hK, hD, hN, hE, hC⟩ := hv
  have hx := B.exec
  have hb := B.bytes
  have hr := B.returns
  have hlk := B.notSynchronized
  have hts0 := atoms_spec (ws := Cond.codeWith yL_word cL_word 4 (some .int) [(0, 9, 12, 13), (0, 9, 15, 15)] :: wsL_law) B.pre
  have hts : ∀ w ∈ wsL_law, w.before args s = true := fun w hw => hts0 w (List.mem_cons_of_mem _ hw)
  have htab := vx_table (x := yL_word) B (hts0 _ List.mem_cons_self)
  have hown : s.vm.findClass RL = some m.cls := findClass_of_methodNamed B.named
  have hW : Wd D A s.heap (outc T ao g ++ (oc_X10 T (ad 0) (bb ad) (x_K 0) ++ (wkL T ad x_K L18 ++ Z))) s.heap [] := ⟨hP, hD, va_S.rf⟩
  have hl := lv_entry [.ref (ad 0 0), .int p1, .ref ao] (n := 4) (Nat.le_of_ble_eq_true rfl)
  refine W.eq (en_eq ha) ?_
  generalize (lg_sl [.ref (ad 0 0), .int p1, .ref ao] ++ List.replicate (4 - (lg_sl [.ref (ad 0 0), .int p1, .ref ao]).length) Slot.unset).toArray = ls at hl ⊢
  have hl : lv_has ls 4 [(0, .ref (ad 0 0)), (1, .int p1), (2, .ref ao)] := hl
  clear hP hD B ha
  change W p l e (rmx 7 0) s m args below meth c s.heap [] 0 0 _ (F0 m 0 ls [])
  refine lv_aload_n hx hb dL_word_0 rfl (lv_at hl 2 rfl) ?_
  refine lv_iconst (v := 0) hx hb dL_word_1 (by decide) ?_
  refine lv_aload_n hx hb dL_word_2 rfl (lv_at hl 0 rfl) ?_
  refine lv_iload_n hx hb dL_word_3 rfl (lv_at hl 1 rfl) ?_
  have hW := hW.perm pf2.symm
  refine x0_vi hx hb hml hown hts hK hN hE hW (g_cw (n := 1) hts wm10_2 wm10_3 wm10_4 wm1_2 wm10_5 ⟨rfl, by decide +kernel, by decide +kernel, by decide +kernel⟩ ⟨rfl, rfl⟩ ⟨Nat.le_of_ble_eq_true rfl, Nat.le_of_ble_eq_true rfl⟩) ⟨10, (RX10, TX10, 13), _, rfl, rfl, rfl⟩ (c_X10_word l hfl D T A ad hok (outc T ao g ++ Z) x_K p1 0 r x_K9 h) rfl hl.1 rfl (Nat.le_of_ble_eq_true rfl) dL_word_4 ⟨Nat.zero_le _, Nat.zero_le _⟩ (fun H locs hW => ?_)
  have hW := hW.perm pf2
  refine lv_i2l (v := r.toInt64) hx hb dL_word_7 rfl ?_
  refine g_last hx hb hK hW dL_word_8 (fun H locs hW => ?_)
  refine lv_goto (tgt := 18) hx hb dL_word_9 (by decide) ?_
  refine lv_iconst (v := 0) hx hb dL_word_18 (by decide) ?_
  exact g_reti hx hb hr hlk hW dL_word_19
set_option maxHeartbeats 4000000 in
set_option maxRecDepth 100000 in
theorem wL_word_2 (l : Launch) (hfl : l.stackTraces = false) (D : va_G) (T : Nat → ClassId) (A : Nat → Prop) (ad : Nat → Nat → Nat) (hok : okad ad) (Z : va_W) (ao : Nat) (g : Nat → Int64) (x_K : Nat → Ob) (p1 : Int32) (r : Int32) (x_K9 : Nat → Ob) (h : f_X10_word x_K p1 = some (2, r, x_K9)) : Met l yL_word (Cond.codeWith yL_word cL_word 4 (some .int) [(0, 9, 12, 13), (0, 9, 15, 15)] :: wsL_law) (rmx 7 2) (Pw D T A (outc T ao g ++ (oc_X10 T (ad 0) (bb ad) (x_K 0) ++ (wkL T ad x_K L18 ++ Z))) [.ref (ad 0 0), .int p1, .ref ao]) (Qgi D A (outc T ao g ++ (oc_X10 T (ad 0) (bb ad) (x_K9 0) ++ (wkL T ad x_K9 L18 ++ Z))) 1) (ex1 2) (ex6 2) A := by
  refine va_MetW (cc := cL_word) (maxL := 4) (ret := (some .int)) (hh := [(0, 9, 12, 13), (0, 9, 15, 15)]) (by decide +kernel) rfl ?_
  intro p e s m args below meth c s₁ B hml hv
  obtain ⟨ha, hP, hK, hD, hN, hE, hC⟩ := hv
  have hx := B.exec
  have hb := B.bytes
  have hr := B.returns
  have hlk := B.notSynchronized
  have hts0 := atoms_spec (ws := Cond.codeWith yL_word cL_word 4 (some .int) [(0, 9, 12, 13), (0, 9, 15, 15)] :: wsL_law) B.pre
  have hts : ∀ w ∈ wsL_law, w.before args s = true := fun w hw => hts0 w (List.mem_cons_of_mem _ hw)
  have htab := vx_table (x := yL_word) B (hts0 _ List.mem_cons_self)
  have hown : s.vm.findClass RL = some m.cls := findClass_of_methodNamed B.named
  have hW : Wd D A s.heap (outc T ao g ++ (oc_X10 T (ad 0) (bb ad) (x_K 0) ++ (wkL T ad x_K L18 ++ Z))) s.heap [] := ⟨hP, hD, va_S.rf⟩
  have hl := lv_entry [.ref (ad 0 0), .int p1, .ref ao] (n := 4) (Nat.le_of_ble_eq_true rfl)
  refine W.eq (en_eq ha) ?_
  generalize (lg_sl [.ref (ad 0 0), .int p1, .ref ao] ++ List.replicate (4 - (lg_sl [.ref (ad 0 0), .int p1, .ref ao]).length) Slot.unset).toArray = ls at hl ⊢
  have hl : lv_has ls 4 [(0, .ref (ad 0 0)), (1, .int p1), (2, .ref ao)] := hl
  clear hP hD B ha
  change W p l e (rmx 7 2) s m args below meth c s.heap [] 0 0 _ (F0 m 0 ls [])
  refine lv_aload_n hx hb dL_word_0 rfl (lv_at hl 2 rfl) ?_
  refine lv_iconst (v := 0) hx hb dL_word_1 (by decide) ?_
  refine lv_aload_n hx hb dL_word_2 rfl (lv_at hl 0 rfl) ?_
  refine lv_iload_n hx hb dL_word_3 rfl (lv_at hl 1 rfl) ?_
  have hW := hW.perm pf2.symm
  refine xc_vi (by decide) hx hb hml hown hts hK hN hE hW (g_cw (n := 1) hts wm10_2 wm10_3 wm10_4 wm1_2 wm10_5 ⟨rfl, by decide +kernel, by decide +kernel, by decide +kernel⟩ ⟨rfl, rfl⟩ ⟨Nat.le_of_ble_eq_true rfl, Nat.le_of_ble_eq_true rfl⟩) ⟨10, (RX10, TX10, 13), _, rfl, rfl, rfl⟩ (c_X10_word l hfl D T A ad hok (outc T ao g ++ Z) x_K p1 2 r x_K9 h) rfl hl.1 rfl (Nat.le_of_ble_eq_true rfl) dL_word_4 ⟨Nat.le_of_ble_eq_true rfl, Nat.le_of_ble_eq_true rfl⟩ (fun ce q9 H locs hW hce hcv hcl => ?_)
  have hW := hW.perm pf2
  refine vx_catch hown [] ⟨0, 9, 12, 13⟩ [⟨0, 9, 15, 15⟩] (htab.trans rfl) (fun z hz => absurd hz List.not_mem_nil) (by decide) (by decide) (hts _ wm10_0) (va_Nw.use rfl (hE.2.2.1 (exN 2) (by decide))) hce hcv hcl ?_
  refine lv_astore_n (lv' := [(3, .ref q9), (0, .ref (ad 0 0)), (1, .int p1), (2, .ref ao)]) hx hb dL_word_12 rfl hl (by decide) rfl (fun ls hl => ?_)
  refine lv_iconst (v := 1) hx hb dL_word_13 (by decide) ?_
  exact g_reti hx hb hr hlk hW dL_word_14
set_option maxHeartbeats 4000000 in
set_option maxRecDepth 100000 in
theorem wL_word_3 (l : Launch) (hfl : l.stackTraces = false) (D : va_G) (T : Nat → ClassId) (A : Nat → Prop) (ad : Nat → Nat → Nat) (hok : okad ad) (Z : va_W) (ao : Nat) (g : Nat → Int64) (x_K : Nat → Ob) (p1 : Int32) (r : Int32) (x_K9 : Nat → Ob) (h : f_X10_word x_K p1 = some (3, r, x_K9)) : Met l yL_word (Cond.codeWith yL_word cL_word 4 (some .int) [(0, 9, 12, 13), (0, 9, 15, 15)] :: wsL_law) (rmx 7 3) (Pw D T A (outc T ao g ++ (oc_X10 T (ad 0) (bb ad) (x_K 0) ++ (wkL T ad x_K L18 ++ Z))) [.ref (ad 0 0), .int p1, .ref ao]) (Qgi D A (outc T ao g ++ (oc_X10 T (ad 0) (bb ad) (x_K9 0) ++ (wkL T ad x_K9 L18 ++ Z))) 2) (ex1 3) (ex6 3) A := by
  refine va_MetW (cc := cL_word) (maxL := 4) (ret := (some .int)) (hh := [(0, 9, 12, 13), (0, 9, 15, 15)]) (by decide +kernel) rfl ?_
  intro p e s m args below meth c s₁ B hml hv
  obtain ⟨ha, hP, hK, hD, hN, hE, hC⟩ := hv
  have hx := B.exec
  have hb := B.bytes
  have hr := B.returns
  have hlk := B.notSynchronized
  have hts0 := atoms_spec (ws := Cond.codeWith yL_word cL_word 4 (some .int) [(0, 9, 12, 13), (0, 9, 15, 15)] :: wsL_law) B.pre
  have hts : ∀ w ∈ wsL_law, w.before args s = true := fun w hw => hts0 w (List.mem_cons_of_mem _ hw)
  have htab := vx_table (x := yL_word) B (hts0 _ List.mem_cons_self)
  have hown : s.vm.findClass RL = some m.cls := findClass_of_methodNamed B.named
  have hW : Wd D A s.heap (outc T ao g ++ (oc_X10 T (ad 0) (bb ad) (x_K 0) ++ (wkL T ad x_K L18 ++ Z))) s.heap [] := ⟨hP, hD, va_S.rf⟩
  have hl := lv_entry [.ref (ad 0 0), .int p1, .ref ao] (n := 4) (Nat.le_of_ble_eq_true rfl)
  refine W.eq (en_eq ha) ?_
  generalize (lg_sl [.ref (ad 0 0), .int p1, .ref ao] ++ List.replicate (4 - (lg_sl [.ref (ad 0 0), .int p1, .ref ao]).length) Slot.unset).toArray = ls at hl ⊢
  have hl : lv_has ls 4 [(0, .ref (ad 0 0)), (1, .int p1), (2, .ref ao)] := hl
  clear hP hD B ha
  change W p l e (rmx 7 3) s m args below meth c s.heap [] 0 0 _ (F0 m 0 ls [])
  refine lv_aload_n hx hb dL_word_0 rfl (lv_at hl 2 rfl) ?_
  refine lv_iconst (v := 0) hx hb dL_word_1 (by decide) ?_
  refine lv_aload_n hx hb dL_word_2 rfl (lv_at hl 0 rfl) ?_
  refine lv_iload_n hx hb dL_word_3 rfl (lv_at hl 1 rfl) ?_
  have hW := hW.perm pf2.symm
  refine xc_vi (by decide) hx hb hml hown hts hK hN hE hW (g_cw (n := 1) hts wm10_2 wm10_3 wm10_4 wm1_2 wm10_5 ⟨rfl, by decide +kernel, by decide +kernel, by decide +kernel⟩ ⟨rfl, rfl⟩ ⟨Nat.le_of_ble_eq_true rfl, Nat.le_of_ble_eq_true rfl⟩) ⟨10, (RX10, TX10, 13), _, rfl, rfl, rfl⟩ (c_X10_word l hfl D T A ad hok (outc T ao g ++ Z) x_K p1 3 r x_K9 h) rfl hl.1 rfl (Nat.le_of_ble_eq_true rfl) dL_word_4 ⟨Nat.le_of_ble_eq_true rfl, Nat.le_of_ble_eq_true rfl⟩ (fun ce q9 H locs hW hce hcv hcl => ?_)
  have hW := hW.perm pf2
  refine vx_catch hown [⟨0, 9, 12, 13⟩] ⟨0, 9, 15, 15⟩ [] (htab.trans rfl) (fun z hz => by
    simp only [List.mem_cons, List.not_mem_nil, or_false] at hz
    rcases hz with rfl
    · exact Or.inr ⟨by decide, _, hts _ wm10_0, hC _ (List.mem_of_getElem? (i := 0) rfl)⟩) (by decide) (by decide) (hts _ wm10_1) (va_Nw.use rfl (hE.2.2.1 (exN 3) (by decide))) hce hcv hcl ?_
  refine lv_astore_n (lv' := [(3, .ref q9), (0, .ref (ad 0 0)), (1, .int p1), (2, .ref ao)]) hx hb dL_word_15 rfl hl (by decide) rfl (fun ls hl => ?_)
  refine lv_iconst (v := 2) hx hb dL_word_16 (by decide) ?_
  exact g_reti hx hb hr hlk hW dL_word_17
set_option maxHeartbeats 4000000 in
set_option maxRecDepth 100000 in
theorem wL_reading_0 (l : Launch) (hfl : l.stackTraces = false) (D : va_G) (T : Nat → ClassId) (A : Nat → Prop) (ad : Nat → Nat → Nat) (hok : okad ad) (Z : va_W) (ao : Nat) (g : Nat → Int64) (x_K : Nat → Ob) (p1 : Int32) (p2 : Int32) (p3 : Int32) (p4 : Int32) (p5 : Int32) (p6 : Int32) (r : Int32) (x_K9 : Nat → Ob) (h : f_X10_reading x_K p1 p2 p3 p4 p5 p6 = some (0, r, x_K9)) : Met l yL_reading (Cond.codeWith yL_reading cL_reading 9 (some .int) [(0, 18, 21, 21), (0, 18, 25, 13), (0, 18, 29, 15)] :: wsL_law) (rmx 8 0) (Pw D T A (outc T ao g ++ (oc_X10 T (ad 0) (bb ad) (x_K 0) ++ (wkL T ad x_K L18 ++ Z))) [.ref (ad 0 0), .int p1, .int p2, .int p3, .int p4, .int p5, .int p6, .ref ao]) (Qgi D A (outc T ao (vp_updL g 0 r.toInt64) ++ (oc_X10 T (ad 0) (bb ad) (x_K9 0) ++ (wkL T ad x_K9 L18 ++ Z))) 0) (ex1 0) (ex6 0) A := by
  refine va_MetW (cc := cL_reading) (maxL := 9) (ret := (some .int)) (hh := [(0, 18, 21, 21), (0, 18, 25, 13), (0, 18, 29, 15)]) (by decide +kernel) rfl ?_
  intro p e s m args below meth c s₁ B hml hv
  obtain ⟨ha, hP, hK, hD, hN, hE, hC⟩ := hv
  have hx := B.exec
  have hb := B.bytes
  have hr := B.returns
  have hlk := B.notSynchronized
  have hts0 := atoms_spec (ws := Cond.codeWith yL_reading cL_reading 9 (some .int) [(0, 18, 21, 21), (0, 18, 25, 13), (0, 18, 29, 15)] :: wsL_law) B.pre
  have hts : ∀ w ∈ wsL_law, w.before args s = true := fun w hw => hts0 w (List.mem_cons_of_mem _ hw)
  have htab := vx_table (x := yL_word) B (hts0 _ List.mem_cons_self)
  have hown : s.vm.findClass RL = some m.cls := findClass_of_methodNamed B.named
  have hW : Wd D A s.heap (outc T ao g ++ (oc_X10 T (ad 0) (bb ad) (x_K 0) ++ (wkL T ad x_K L18 ++ Z))) s.heap [] := ⟨hP, hD, va_S.rf⟩
  have hl := lv_entry [.ref (ad 0 0), .int p1, .int p2, .int p3, .int p4, .int p5, .int p6, .ref ao] (n := 9) (Nat.le_of_ble_eq_true rfl)
  refine W.eq (en_eq ha) ?_
  generalize (lg_sl [.ref (ad 0 0), .int p1, .int p2, .int p3, .int p4, .int p5, .int p6, .ref ao] ++ List.replicate (9 - (lg_sl [.ref (ad 0 0), .int p1, .int p2, .int p3, .int p4, .int p5, .int p6, .ref ao]).length) Slot.unset).toArray = ls at hl ⊢
  have hl : lv_has ls 9 [(0, .ref (ad 0 0)), (1, .int p1), (2, .int p2), (3, .int p3), (4, .int p4), (5, .int p5), (6, .int p6), (7, .ref ao)] := hl
  clear hP hD B ha
  change W p l e (rmx 8 0) s m args below meth c s.heap [] 0 0 _ (F0 m 0 ls [])
  refine lv_aload hx hb dL_reading_0 (lv_at hl 7 rfl) ?_
  refine lv_iconst (v := 0) hx hb dL_reading_2 (by decide) ?_
  refine lv_aload_n hx hb dL_reading_3 rfl (lv_at hl 0 rfl) ?_
  refine lv_iload_n hx hb dL_reading_4 rfl (lv_at hl 1 rfl) ?_
  refine lv_iload_n hx hb dL_reading_5 rfl (lv_at hl 2 rfl) ?_
  refine lv_iload_n hx hb dL_reading_6 rfl (lv_at hl 3 rfl) ?_
  refine lv_iload hx hb dL_reading_7 (lv_at hl 4 rfl) ?_
  refine lv_iload hx hb dL_reading_9 (lv_at hl 5 rfl) ?_
  refine lv_iload hx hb dL_reading_11 (lv_at hl 6 rfl) ?_
  have hW := hW.perm pf2.symm
  refine x0_vi hx hb hml hown hts hK hN hE hW (g_cw (n := 6) hts wm11_21 wm11_22 wm11_23 wm1_2 wm12_0 ⟨rfl, by decide +kernel, by decide +kernel, by decide +kernel⟩ ⟨rfl, rfl⟩ ⟨Nat.le_of_ble_eq_true rfl, Nat.le_of_ble_eq_true rfl⟩) ⟨10, (RX10, TX10, 13), _, rfl, rfl, rfl⟩ (c_X10_reading l hfl D T A ad hok (outc T ao g ++ Z) x_K p1 p2 p3 p4 p5 p6 0 r x_K9 h) rfl hl.1 rfl (Nat.le_of_ble_eq_true rfl) dL_reading_13 ⟨Nat.zero_le _, Nat.zero_le _⟩ (fun H locs hW => ?_)
  have hW := hW.perm pf2
  refine lv_i2l (v := r.toInt64) hx hb dL_reading_16 rfl ?_
  refine g_last hx hb hK hW dL_reading_17 (fun H locs hW => ?_)
  refine lv_goto (tgt := 33) hx hb dL_reading_18 (by decide) ?_
  refine lv_iconst (v := 0) hx hb dL_reading_33 (by decide) ?_
  exact g_reti hx hb hr hlk hW dL_reading_34
set_option maxHeartbeats 4000000 in
set_option maxRecDepth 100000 in
theorem wL_reading_1 (l : Launch) (hfl : l.stackTraces = false) (D : va_G) (T : Nat → ClassId) (A : Nat → Prop) (ad : Nat → Nat → Nat) (hok : okad ad) (Z : va_W) (ao : Nat) (g : Nat → Int64) (x_K : Nat → Ob) (p1 : Int32) (p2 : Int32) (p3 : Int32) (p4 : Int32) (p5 : Int32) (p6 : Int32) (r : Int32) (x_K9 : Nat → Ob) (h : f_X10_reading x_K p1 p2 p3 p4 p5 p6 = some (1, r, x_K9)) : Met l yL_reading (Cond.codeWith yL_reading cL_reading 9 (some .int) [(0, 18, 21, 21), (0, 18, 25, 13), (0, 18, 29, 15)] :: wsL_law) (rmx 8 1) (Pw D T A (outc T ao g ++ (oc_X10 T (ad 0) (bb ad) (x_K 0) ++ (wkL T ad x_K L18 ++ Z))) [.ref (ad 0 0), .int p1, .int p2, .int p3, .int p4, .int p5, .int p6, .ref ao]) (Qgi D A (outc T ao g ++ (oc_X10 T (ad 0) (bb ad) (x_K9 0) ++ (wkL T ad x_K9 L18 ++ Z))) 1) (ex1 1) (ex6 1) A := by
  refine va_MetW (cc := cL_reading) (maxL := 9) (ret := (some .int)) (hh := [(0, 18, 21, 21), (0, 18, 25, 13), (0, 18, 29, 15)]) (by decide +kernel) rfl ?_
  intro p e s m args below meth c s₁ B hml hv
  obtain ⟨ha, hP, hK, hD, hN, hE, hC⟩ := hv
  have hx := B.exec
  have hb := B.bytes
  have hr := B.returns
  have hlk := B.notSynchronized
  have hts0 := atoms_spec (ws := Cond.codeWith yL_reading cL_reading 9 (some .int) [(0, 18, 21, 21), (0, 18, 25, 13), (0, 18, 29, 15)] :: wsL_law) B.pre
  have hts : ∀ w ∈ wsL_law, w.before args s = true := fun w hw => hts0 w (List.mem_cons_of_mem _ hw)
  have htab := vx_table (x := yL_word) B (hts0 _ List.mem_cons_self)
  have hown : s.vm.findClass RL = some m.cls := findClass_of_methodNamed B.named
  have hW : Wd D A s.heap (outc T ao g ++ (oc_X10 T (ad 0) (bb ad) (x_K 0) ++ (wkL T ad x_K L18 ++ Z))) s.heap [] := ⟨hP, hD, va_S.rf⟩
  have hl := lv_entry [.ref (ad 0 0), .int p1, .int p2, .int p3, .int p4, .int p5, .int p6, .ref ao] (n := 9) (Nat.le_of_ble_eq_true rfl)
  refine W.eq (en_eq ha) ?_
  generalize (lg_sl [.ref (ad 0 0), .int p1, .int p2, .int p3, .int p4, .int p5, .int p6, .ref ao] ++ List.replicate (9 - (lg_sl [.ref (ad 0 0), .int p1, .int p2, .int p3, .int p4, .int p5, .int p6, .ref ao]).length) Slot.unset).toArray = ls at hl ⊢
  have hl : lv_has ls 9 [(0, .ref (ad 0 0)), (1, .int p1), (2, .int p2), (3, .int p3), (4, .int p4), (5, .int p5), (6, .int p6), (7, .ref ao)] := hl
  clear hP hD B ha
  change W p l e (rmx 8 1) s m args below meth c s.heap [] 0 0 _ (F0 m 0 ls [])
  refine lv_aload hx hb dL_reading_0 (lv_at hl 7 rfl) ?_
  refine lv_iconst (v := 0) hx hb dL_reading_2 (by decide) ?_
  refine lv_aload_n hx hb dL_reading_3 rfl (lv_at hl 0 rfl) ?_
  refine lv_iload_n hx hb dL_reading_4 rfl (lv_at hl 1 rfl) ?_
  refine lv_iload_n hx hb dL_reading_5 rfl (lv_at hl 2 rfl) ?_
  refine lv_iload_n hx hb dL_reading_6 rfl (lv_at hl 3 rfl) ?_
  refine lv_iload hx hb dL_reading_7 (lv_at hl 4 rfl) ?_
  refine lv_iload hx hb dL_reading_9 (lv_at hl 5 rfl) ?_
  refine lv_iload hx hb dL_reading_11 (lv_at hl 6 rfl) ?_
  have hW := hW.perm pf2.symm
  refine xc_vi (by decide) hx hb hml hown hts hK hN hE hW (g_cw (n := 6) hts wm11_21 wm11_22 wm11_23 wm1_2 wm12_0 ⟨rfl, by decide +kernel, by decide +kernel, by decide +kernel⟩ ⟨rfl, rfl⟩ ⟨Nat.le_of_ble_eq_true rfl, Nat.le_of_ble_eq_true rfl⟩) ⟨10, (RX10, TX10, 13), _, rfl, rfl, rfl⟩ (c_X10_reading l hfl D T A ad hok (outc T ao g ++ Z) x_K p1 p2 p3 p4 p5 p6 1 r x_K9 h) rfl hl.1 rfl (Nat.le_of_ble_eq_true rfl) dL_reading_13 ⟨Nat.le_of_ble_eq_true rfl, Nat.le_of_ble_eq_true rfl⟩ (fun ce q9 H locs hW hce hcv hcl => ?_)
  have hW := hW.perm pf2
  refine vx_catch hown [] ⟨0, 18, 21, 21⟩ [⟨0, 18, 25, 13⟩, ⟨0, 18, 29, 15⟩] (htab.trans rfl) (fun z hz => absurd hz List.not_mem_nil) (by decide) (by decide) (hts _ wm11_20) (va_Nw.use rfl (hE.2.2.1 (exN 1) (by decide))) hce hcv hcl ?_
  refine lv_astore (lv' := [(8, .ref q9), (0, .ref (ad 0 0)), (1, .int p1), (2, .int p2), (3, .int p3), (4, .int p4), (5, .int p5), (6, .int p6), (7, .ref ao)]) hx hb dL_reading_21 hl (by decide) rfl (fun ls hl => ?_)
  refine lv_iconst (v := 1) hx hb dL_reading_23 (by decide) ?_
  exact g_reti hx hb hr hlk hW dL_reading_24
set_option maxHeartbeats 4000000 in
set_option maxRecDepth 100000 in
theorem wL_reading_2 (l : Launch) (hfl : l.stackTraces = false) (D : va_G) (T : Nat → ClassId) (A : Nat → Prop) (ad : Nat → Nat → Nat) (hok : okad ad) (Z : va_W) (ao : Nat) (g : Nat → Int64) (x_K : Nat → Ob) (p1 : Int32) (p2 : Int32) (p3 : Int32) (p4 : Int32) (p5 : Int32) (p6 : Int32) (r : Int32) (x_K9 : Nat → Ob) (h : f_X10_reading x_K p1 p2 p3 p4 p5 p6 = some (2, r, x_K9)) : Met l yL_reading (Cond.codeWith yL_reading cL_reading 9 (some .int) [(0, 18, 21, 21), (0, 18, 25, 13), (0, 18, 29, 15)] :: wsL_law) (rmx 8 2) (Pw D T A (outc T ao g ++ (oc_X10 T (ad 0) (bb ad) (x_K 0) ++ (wkL T ad x_K L18 ++ Z))) [.ref (ad 0 0), .int p1, .int p2, .int p3, .int p4, .int p5, .int p6, .ref ao]) (Qgi D A (outc T ao g ++ (oc_X10 T (ad 0) (bb ad) (x_K9 0) ++ (wkL T ad x_K9 L18 ++ Z))) 2) (ex1 2) (ex6 2) A := by
  refine va_MetW (cc := cL_reading) (maxL := 9) (ret := (some .int)) (hh := [(0, 18, 21, 21), (0, 18, 25, 13), (0, 18, 29, 15)]) (by decide +kernel) rfl ?_
  intro p e s m args below meth c s₁ B hml hv
  obtain ⟨ha, hP, hK, hD, hN, hE, hC⟩ := hv
  have hx := B.exec
  have hb := B.bytes
  have hr := B.returns
  have hlk := B.notSynchronized
  have hts0 := atoms_spec (ws := Cond.codeWith yL_reading cL_reading 9 (some .int) [(0, 18, 21, 21), (0, 18, 25, 13), (0, 18, 29, 15)] :: wsL_law) B.pre
  have hts : ∀ w ∈ wsL_law, w.before args s = true := fun w hw => hts0 w (List.mem_cons_of_mem _ hw)
  have htab := vx_table (x := yL_word) B (hts0 _ List.mem_cons_self)
  have hown : s.vm.findClass RL = some m.cls := findClass_of_methodNamed B.named
  have hW : Wd D A s.heap (outc T ao g ++ (oc_X10 T (ad 0) (bb ad) (x_K 0) ++ (wkL T ad x_K L18 ++ Z))) s.heap [] := ⟨hP, hD, va_S.rf⟩
  have hl := lv_entry [.ref (ad 0 0), .int p1, .int p2, .int p3, .int p4, .int p5, .int p6, .ref ao] (n := 9) (Nat.le_of_ble_eq_true rfl)
  refine W.eq (en_eq ha) ?_
  generalize (lg_sl [.ref (ad 0 0), .int p1, .int p2, .int p3, .int p4, .int p5, .int p6, .ref ao] ++ List.replicate (9 - (lg_sl [.ref (ad 0 0), .int p1, .int p2, .int p3, .int p4, .int p5, .int p6, .ref ao]).length) Slot.unset).toArray = ls at hl ⊢
  have hl : lv_has ls 9 [(0, .ref (ad 0 0)), (1, .int p1), (2, .int p2), (3, .int p3), (4, .int p4), (5, .int p5), (6, .int p6), (7, .ref ao)] := hl
  clear hP hD B ha
  change W p l e (rmx 8 2) s m args below meth c s.heap [] 0 0 _ (F0 m 0 ls [])
  refine lv_aload hx hb dL_reading_0 (lv_at hl 7 rfl) ?_
  refine lv_iconst (v := 0) hx hb dL_reading_2 (by decide) ?_
  refine lv_aload_n hx hb dL_reading_3 rfl (lv_at hl 0 rfl) ?_
  refine lv_iload_n hx hb dL_reading_4 rfl (lv_at hl 1 rfl) ?_
  refine lv_iload_n hx hb dL_reading_5 rfl (lv_at hl 2 rfl) ?_
  refine lv_iload_n hx hb dL_reading_6 rfl (lv_at hl 3 rfl) ?_
  refine lv_iload hx hb dL_reading_7 (lv_at hl 4 rfl) ?_
  refine lv_iload hx hb dL_reading_9 (lv_at hl 5 rfl) ?_
  refine lv_iload hx hb dL_reading_11 (lv_at hl 6 rfl) ?_
  have hW := hW.perm pf2.symm
  refine xc_vi (by decide) hx hb hml hown hts hK hN hE hW (g_cw (n := 6) hts wm11_21 wm11_22 wm11_23 wm1_2 wm12_0 ⟨rfl, by decide +kernel, by decide +kernel, by decide +kernel⟩ ⟨rfl, rfl⟩ ⟨Nat.le_of_ble_eq_true rfl, Nat.le_of_ble_eq_true rfl⟩) ⟨10, (RX10, TX10, 13), _, rfl, rfl, rfl⟩ (c_X10_reading l hfl D T A ad hok (outc T ao g ++ Z) x_K p1 p2 p3 p4 p5 p6 2 r x_K9 h) rfl hl.1 rfl (Nat.le_of_ble_eq_true rfl) dL_reading_13 ⟨Nat.le_of_ble_eq_true rfl, Nat.le_of_ble_eq_true rfl⟩ (fun ce q9 H locs hW hce hcv hcl => ?_)
  have hW := hW.perm pf2
  refine vx_catch hown [⟨0, 18, 21, 21⟩] ⟨0, 18, 25, 13⟩ [⟨0, 18, 29, 15⟩] (htab.trans rfl) (fun z hz => by
    simp only [List.mem_cons, List.not_mem_nil, or_false] at hz
    rcases hz with rfl
    · exact Or.inr ⟨by decide, _, hts _ wm11_20, hC _ (List.mem_of_getElem? (i := 1) rfl)⟩) (by decide) (by decide) (hts _ wm10_0) (va_Nw.use rfl (hE.2.2.1 (exN 2) (by decide))) hce hcv hcl ?_
  refine lv_astore (lv' := [(8, .ref q9), (0, .ref (ad 0 0)), (1, .int p1), (2, .int p2), (3, .int p3), (4, .int p4), (5, .int p5), (6, .int p6), (7, .ref ao)]) hx hb dL_reading_25 hl (by decide) rfl (fun ls hl => ?_)
  refine lv_iconst (v := 2) hx hb dL_reading_27 (by decide) ?_
  exact g_reti hx hb hr hlk hW dL_reading_28
set_option maxHeartbeats 4000000 in
set_option maxRecDepth 100000 in
theorem wL_reading_3 (l : Launch) (hfl : l.stackTraces = false) (D : va_G) (T : Nat → ClassId) (A : Nat → Prop) (ad : Nat → Nat → Nat) (hok : okad ad) (Z : va_W) (ao : Nat) (g : Nat → Int64) (x_K : Nat → Ob) (p1 : Int32) (p2 : Int32) (p3 : Int32) (p4 : Int32) (p5 : Int32) (p6 : Int32) (r : Int32) (x_K9 : Nat → Ob) (h : f_X10_reading x_K p1 p2 p3 p4 p5 p6 = some (3, r, x_K9)) : Met l yL_reading (Cond.codeWith yL_reading cL_reading 9 (some .int) [(0, 18, 21, 21), (0, 18, 25, 13), (0, 18, 29, 15)] :: wsL_law) (rmx 8 3) (Pw D T A (outc T ao g ++ (oc_X10 T (ad 0) (bb ad) (x_K 0) ++ (wkL T ad x_K L18 ++ Z))) [.ref (ad 0 0), .int p1, .int p2, .int p3, .int p4, .int p5, .int p6, .ref ao]) (Qgi D A (outc T ao g ++ (oc_X10 T (ad 0) (bb ad) (x_K9 0) ++ (wkL T ad x_K9 L18 ++ Z))) 3) (ex1 3) (ex6 3) A := by
  refine va_MetW (cc := cL_reading) (maxL := 9) (ret := (some .int)) (hh := [(0, 18, 21, 21), (0, 18, 25, 13), (0, 18, 29, 15)]) (by decide +kernel) rfl ?_
  intro p e s m args below meth c s₁ B hml hv
  obtain ⟨ha, hP, hK, hD, hN, hE, hC⟩ := hv
  have hx := B.exec
  have hb := B.bytes
  have hr := B.returns
  have hlk := B.notSynchronized
  have hts0 := atoms_spec (ws := Cond.codeWith yL_reading cL_reading 9 (some .int) [(0, 18, 21, 21), (0, 18, 25, 13), (0, 18, 29, 15)] :: wsL_law) B.pre
  have hts : ∀ w ∈ wsL_law, w.before args s = true := fun w hw => hts0 w (List.mem_cons_of_mem _ hw)
  have htab := vx_table (x := yL_word) B (hts0 _ List.mem_cons_self)
  have hown : s.vm.findClass RL = some m.cls := findClass_of_methodNamed B.named
  have hW : Wd D A s.heap (outc T ao g ++ (oc_X10 T (ad 0) (bb ad) (x_K 0) ++ (wkL T ad x_K L18 ++ Z))) s.heap [] := ⟨hP, hD, va_S.rf⟩
  have hl := lv_entry [.ref (ad 0 0), .int p1, .int p2, .int p3, .int p4, .int p5, .int p6, .ref ao] (n := 9) (Nat.le_of_ble_eq_true rfl)
  refine W.eq (en_eq ha) ?_
  generalize (lg_sl [.ref (ad 0 0), .int p1, .int p2, .int p3, .int p4, .int p5, .int p6, .ref ao] ++ List.replicate (9 - (lg_sl [.ref (ad 0 0), .int p1, .int p2, .int p3, .int p4, .int p5, .int p6, .ref ao]).length) Slot.unset).toArray = ls at hl ⊢
  have hl : lv_has ls 9 [(0, .ref (ad 0 0)), (1, .int p1), (2, .int p2), (3, .int p3), (4, .int p4), (5, .int p5), (6, .int p6), (7, .ref ao)] := hl
  clear hP hD B ha
  change W p l e (rmx 8 3) s m args below meth c s.heap [] 0 0 _ (F0 m 0 ls [])
  refine lv_aload hx hb dL_reading_0 (lv_at hl 7 rfl) ?_
  refine lv_iconst (v := 0) hx hb dL_reading_2 (by decide) ?_
  refine lv_aload_n hx hb dL_reading_3 rfl (lv_at hl 0 rfl) ?_
  refine lv_iload_n hx hb dL_reading_4 rfl (lv_at hl 1 rfl) ?_
  refine lv_iload_n hx hb dL_reading_5 rfl (lv_at hl 2 rfl) ?_
  refine lv_iload_n hx hb dL_reading_6 rfl (lv_at hl 3 rfl) ?_
  refine lv_iload hx hb dL_reading_7 (lv_at hl 4 rfl) ?_
  refine lv_iload hx hb dL_reading_9 (lv_at hl 5 rfl) ?_
  refine lv_iload hx hb dL_reading_11 (lv_at hl 6 rfl) ?_
  have hW := hW.perm pf2.symm
  refine xc_vi (by decide) hx hb hml hown hts hK hN hE hW (g_cw (n := 6) hts wm11_21 wm11_22 wm11_23 wm1_2 wm12_0 ⟨rfl, by decide +kernel, by decide +kernel, by decide +kernel⟩ ⟨rfl, rfl⟩ ⟨Nat.le_of_ble_eq_true rfl, Nat.le_of_ble_eq_true rfl⟩) ⟨10, (RX10, TX10, 13), _, rfl, rfl, rfl⟩ (c_X10_reading l hfl D T A ad hok (outc T ao g ++ Z) x_K p1 p2 p3 p4 p5 p6 3 r x_K9 h) rfl hl.1 rfl (Nat.le_of_ble_eq_true rfl) dL_reading_13 ⟨Nat.le_of_ble_eq_true rfl, Nat.le_of_ble_eq_true rfl⟩ (fun ce q9 H locs hW hce hcv hcl => ?_)
  have hW := hW.perm pf2
  refine vx_catch hown [⟨0, 18, 21, 21⟩, ⟨0, 18, 25, 13⟩] ⟨0, 18, 29, 15⟩ [] (htab.trans rfl) (fun z hz => by
    simp only [List.mem_cons, List.not_mem_nil, or_false] at hz
    rcases hz with rfl | rfl
    · exact Or.inr ⟨by decide, _, hts _ wm11_20, hC _ (List.mem_of_getElem? (i := 2) rfl)⟩
    · exact Or.inr ⟨by decide, _, hts _ wm10_0, hC _ (List.mem_of_getElem? (i := 0) rfl)⟩) (by decide) (by decide) (hts _ wm10_1) (va_Nw.use rfl (hE.2.2.1 (exN 3) (by decide))) hce hcv hcl ?_
  refine lv_astore (lv' := [(8, .ref q9), (0, .ref (ad 0 0)), (1, .int p1), (2, .int p2), (3, .int p3), (4, .int p4), (5, .int p5), (6, .int p6), (7, .ref ao)]) hx hb dL_reading_29 hl (by decide) rfl (fun ls hl => ?_)
  refine lv_iconst (v := 3) hx hb dL_reading_31 (by decide) ?_
  exact g_reti hx hb hr hlk hW dL_reading_32
set_option maxHeartbeats 4000000 in
set_option maxRecDepth 100000 in
theorem wL_guess_0 (l : Launch) (hfl : l.stackTraces = false) (D : va_G) (T : Nat → ClassId) (A : Nat → Prop) (ad : Nat → Nat → Nat) (hok : okad ad) (Z : va_W) (ao : Nat) (g : Nat → Int64) (x_K : Nat → Ob) (p1 : Int32) (p2 : Int32) (p3 : Int32) (p4 : Int32) (p5 : Int32) (r : Int32) (x_K9 : Nat → Ob) (h : f_X10_guess x_K p1 p2 p3 p4 p5 = some (0, r, x_K9)) : Met l yL_guess (Cond.codeWith yL_guess cL_guess 8 (some .int) [(0, 16, 19, 13), (0, 16, 23, 15)] :: wsL_law) (rmx 7 0) (Pw D T A (outc T ao g ++ (oc_X10 T (ad 0) (bb ad) (x_K 0) ++ (wkL T ad x_K L18 ++ Z))) [.ref (ad 0 0), .int p1, .int p2, .int p3, .int p4, .int p5, .ref ao]) (Qgi D A (outc T ao (vp_updL g 0 r.toInt64) ++ (oc_X10 T (ad 0) (bb ad) (x_K9 0) ++ (wkL T ad x_K9 L18 ++ Z))) 0) (ex1 0) (ex6 0) A := by
  refine va_MetW (cc := cL_guess) (maxL := 8) (ret := (some .int)) (hh := [(0, 16, 19, 13), (0, 16, 23, 15)]) (by decide +kernel) rfl ?_
  intro p e s m args below meth c s₁ B hml hv
  obtain ⟨ha, hP, hK, hD, hN, hE, hC⟩ := hv
  have hx := B.exec
  have hb := B.bytes
  have hr := B.returns
  have hlk := B.notSynchronized
  have hts0 := atoms_spec (ws := Cond.codeWith yL_guess cL_guess 8 (some .int) [(0, 16, 19, 13), (0, 16, 23, 15)] :: wsL_law) B.pre
  have hts : ∀ w ∈ wsL_law, w.before args s = true := fun w hw => hts0 w (List.mem_cons_of_mem _ hw)
  have htab := vx_table (x := yL_word) B (hts0 _ List.mem_cons_self)
  have hown : s.vm.findClass RL = some m.cls := findClass_of_methodNamed B.named
  have hW : Wd D A s.heap (outc T ao g ++ (oc_X10 T (ad 0) (bb ad) (x_K 0) ++ (wkL T ad x_K L18 ++ Z))) s.heap [] := ⟨hP, hD, va_S.rf⟩
  have hl := lv_entry [.ref (ad 0 0), .int p1, .int p2, .int p3, .int p4, .int p5, .ref ao] (n := 8) (Nat.le_of_ble_eq_true rfl)
  refine W.eq (en_eq ha) ?_
  generalize (lg_sl [.ref (ad 0 0), .int p1, .int p2, .int p3, .int p4, .int p5, .ref ao] ++ List.replicate (8 - (lg_sl [.ref (ad 0 0), .int p1, .int p2, .int p3, .int p4, .int p5, .ref ao]).length) Slot.unset).toArray = ls at hl ⊢
  have hl : lv_has ls 8 [(0, .ref (ad 0 0)), (1, .int p1), (2, .int p2), (3, .int p3), (4, .int p4), (5, .int p5), (6, .ref ao)] := hl
  clear hP hD B ha
  change W p l e (rmx 7 0) s m args below meth c s.heap [] 0 0 _ (F0 m 0 ls [])
  refine lv_aload hx hb dL_guess_0 (lv_at hl 6 rfl) ?_
  refine lv_iconst (v := 0) hx hb dL_guess_2 (by decide) ?_
  refine lv_aload_n hx hb dL_guess_3 rfl (lv_at hl 0 rfl) ?_
  refine lv_iload_n hx hb dL_guess_4 rfl (lv_at hl 1 rfl) ?_
  refine lv_iload_n hx hb dL_guess_5 rfl (lv_at hl 2 rfl) ?_
  refine lv_iload_n hx hb dL_guess_6 rfl (lv_at hl 3 rfl) ?_
  refine lv_iload hx hb dL_guess_7 (lv_at hl 4 rfl) ?_
  refine lv_iload hx hb dL_guess_9 (lv_at hl 5 rfl) ?_
  have hW := hW.perm pf2.symm
  refine x0_vi hx hb hml hown hts hK hN hE hW (g_cw (n := 5) hts wm14_5 wm14_6 wm14_7 wm1_2 wm14_8 ⟨rfl, by decide +kernel, by decide +kernel, by decide +kernel⟩ ⟨rfl, rfl⟩ ⟨Nat.le_of_ble_eq_true rfl, Nat.le_of_ble_eq_true rfl⟩) ⟨10, (RX10, TX10, 13), _, rfl, rfl, rfl⟩ (c_X10_guess l hfl D T A ad hok (outc T ao g ++ Z) x_K p1 p2 p3 p4 p5 0 r x_K9 h) rfl hl.1 rfl (Nat.le_of_ble_eq_true rfl) dL_guess_11 ⟨Nat.zero_le _, Nat.zero_le _⟩ (fun H locs hW => ?_)
  have hW := hW.perm pf2
  refine lv_i2l (v := r.toInt64) hx hb dL_guess_14 rfl ?_
  refine g_last hx hb hK hW dL_guess_15 (fun H locs hW => ?_)
  refine lv_goto (tgt := 27) hx hb dL_guess_16 (by decide) ?_
  refine lv_iconst (v := 0) hx hb dL_guess_27 (by decide) ?_
  exact g_reti hx hb hr hlk hW dL_guess_28
set_option maxHeartbeats 4000000 in
set_option maxRecDepth 100000 in
theorem wL_guess_2 (l : Launch) (hfl : l.stackTraces = false) (D : va_G) (T : Nat → ClassId) (A : Nat → Prop) (ad : Nat → Nat → Nat) (hok : okad ad) (Z : va_W) (ao : Nat) (g : Nat → Int64) (x_K : Nat → Ob) (p1 : Int32) (p2 : Int32) (p3 : Int32) (p4 : Int32) (p5 : Int32) (r : Int32) (x_K9 : Nat → Ob) (h : f_X10_guess x_K p1 p2 p3 p4 p5 = some (2, r, x_K9)) : Met l yL_guess (Cond.codeWith yL_guess cL_guess 8 (some .int) [(0, 16, 19, 13), (0, 16, 23, 15)] :: wsL_law) (rmx 7 2) (Pw D T A (outc T ao g ++ (oc_X10 T (ad 0) (bb ad) (x_K 0) ++ (wkL T ad x_K L18 ++ Z))) [.ref (ad 0 0), .int p1, .int p2, .int p3, .int p4, .int p5, .ref ao]) (Qgi D A (outc T ao g ++ (oc_X10 T (ad 0) (bb ad) (x_K9 0) ++ (wkL T ad x_K9 L18 ++ Z))) 1) (ex1 2) (ex6 2) A := by
  refine va_MetW (cc := cL_guess) (maxL := 8) (ret := (some .int)) (hh := [(0, 16, 19, 13), (0, 16, 23, 15)]) (by decide +kernel) rfl ?_
  intro p e s m args below meth c s₁ B hml hv
  obtain ⟨ha, hP, hK, hD, hN, hE, hC⟩ := hv
  have hx := B.exec
  have hb := B.bytes
  have hr := B.returns
  have hlk := B.notSynchronized
  have hts0 := atoms_spec (ws := Cond.codeWith yL_guess cL_guess 8 (some .int) [(0, 16, 19, 13), (0, 16, 23, 15)] :: wsL_law) B.pre
  have hts : ∀ w ∈ wsL_law, w.before args s = true := fun w hw => hts0 w (List.mem_cons_of_mem _ hw)
  have htab := vx_table (x := yL_word) B (hts0 _ List.mem_cons_self)
  have hown : s.vm.findClass RL = some m.cls := findClass_of_methodNamed B.named
  have hW : Wd D A s.heap (outc T ao g ++ (oc_X10 T (ad 0) (bb ad) (x_K 0) ++ (wkL T ad x_K L18 ++ Z))) s.heap [] := ⟨hP, hD, va_S.rf⟩
  have hl := lv_entry [.ref (ad 0 0), .int p1, .int p2, .int p3, .int p4, .int p5, .ref ao] (n := 8) (Nat.le_of_ble_eq_true rfl)
  refine W.eq (en_eq ha) ?_
  generalize (lg_sl [.ref (ad 0 0), .int p1, .int p2, .int p3, .int p4, .int p5, .ref ao] ++ List.replicate (8 - (lg_sl [.ref (ad 0 0), .int p1, .int p2, .int p3, .int p4, .int p5, .ref ao]).length) Slot.unset).toArray = ls at hl ⊢
  have hl : lv_has ls 8 [(0, .ref (ad 0 0)), (1, .int p1), (2, .int p2), (3, .int p3), (4, .int p4), (5, .int p5), (6, .ref ao)] := hl
  clear hP hD B ha
  change W p l e (rmx 7 2) s m args below meth c s.heap [] 0 0 _ (F0 m 0 ls [])
  refine lv_aload hx hb dL_guess_0 (lv_at hl 6 rfl) ?_
  refine lv_iconst (v := 0) hx hb dL_guess_2 (by decide) ?_
  refine lv_aload_n hx hb dL_guess_3 rfl (lv_at hl 0 rfl) ?_
  refine lv_iload_n hx hb dL_guess_4 rfl (lv_at hl 1 rfl) ?_
  refine lv_iload_n hx hb dL_guess_5 rfl (lv_at hl 2 rfl) ?_
  refine lv_iload_n hx hb dL_guess_6 rfl (lv_at hl 3 rfl) ?_
  refine lv_iload hx hb dL_guess_7 (lv_at hl 4 rfl) ?_
  refine lv_iload hx hb dL_guess_9 (lv_at hl 5 rfl) ?_
  have hW := hW.perm pf2.symm
  refine xc_vi (by decide) hx hb hml hown hts hK hN hE hW (g_cw (n := 5) hts wm14_5 wm14_6 wm14_7 wm1_2 wm14_8 ⟨rfl, by decide +kernel, by decide +kernel, by decide +kernel⟩ ⟨rfl, rfl⟩ ⟨Nat.le_of_ble_eq_true rfl, Nat.le_of_ble_eq_true rfl⟩) ⟨10, (RX10, TX10, 13), _, rfl, rfl, rfl⟩ (c_X10_guess l hfl D T A ad hok (outc T ao g ++ Z) x_K p1 p2 p3 p4 p5 2 r x_K9 h) rfl hl.1 rfl (Nat.le_of_ble_eq_true rfl) dL_guess_11 ⟨Nat.le_of_ble_eq_true rfl, Nat.le_of_ble_eq_true rfl⟩ (fun ce q9 H locs hW hce hcv hcl => ?_)
  have hW := hW.perm pf2
  refine vx_catch hown [] ⟨0, 16, 19, 13⟩ [⟨0, 16, 23, 15⟩] (htab.trans rfl) (fun z hz => absurd hz List.not_mem_nil) (by decide) (by decide) (hts _ wm10_0) (va_Nw.use rfl (hE.2.2.1 (exN 2) (by decide))) hce hcv hcl ?_
  refine lv_astore (lv' := [(7, .ref q9), (0, .ref (ad 0 0)), (1, .int p1), (2, .int p2), (3, .int p3), (4, .int p4), (5, .int p5), (6, .ref ao)]) hx hb dL_guess_19 hl (by decide) rfl (fun ls hl => ?_)
  refine lv_iconst (v := 1) hx hb dL_guess_21 (by decide) ?_
  exact g_reti hx hb hr hlk hW dL_guess_22
set_option maxHeartbeats 4000000 in
set_option maxRecDepth 100000 in
theorem wL_guess_3 (l : Launch) (hfl : l.stackTraces = false) (D : va_G) (T : Nat → ClassId) (A : Nat → Prop) (ad : Nat → Nat → Nat) (hok : okad ad) (Z : va_W) (ao : Nat) (g : Nat → Int64) (x_K : Nat → Ob) (p1 : Int32) (p2 : Int32) (p3 : Int32) (p4 : Int32) (p5 : Int32) (r : Int32) (x_K9 : Nat → Ob) (h : f_X10_guess x_K p1 p2 p3 p4 p5 = some (3, r, x_K9)) : Met l yL_guess (Cond.codeWith yL_guess cL_guess 8 (some .int) [(0, 16, 19, 13), (0, 16, 23, 15)] :: wsL_law) (rmx 7 3) (Pw D T A (outc T ao g ++ (oc_X10 T (ad 0) (bb ad) (x_K 0) ++ (wkL T ad x_K L18 ++ Z))) [.ref (ad 0 0), .int p1, .int p2, .int p3, .int p4, .int p5, .ref ao]) (Qgi D A (outc T ao g ++ (oc_X10 T (ad 0) (bb ad) (x_K9 0) ++ (wkL T ad x_K9 L18 ++ Z))) 2) (ex1 3) (ex6 3) A := by
  refine va_MetW (cc := cL_guess) (maxL := 8) (ret := (some .int)) (hh := [(0, 16, 19, 13), (0, 16, 23, 15)]) (by decide +kernel) rfl ?_
  intro p e s m args below meth c s₁ B hml hv
  obtain ⟨ha, hP, hK, hD, hN, hE, hC⟩ := hv
  have hx := B.exec
  have hb := B.bytes
  have hr := B.returns
  have hlk := B.notSynchronized
  have hts0 := atoms_spec (ws := Cond.codeWith yL_guess cL_guess 8 (some .int) [(0, 16, 19, 13), (0, 16, 23, 15)] :: wsL_law) B.pre
  have hts : ∀ w ∈ wsL_law, w.before args s = true := fun w hw => hts0 w (List.mem_cons_of_mem _ hw)
  have htab := vx_table (x := yL_word) B (hts0 _ List.mem_cons_self)
  have hown : s.vm.findClass RL = some m.cls := findClass_of_methodNamed B.named
  have hW : Wd D A s.heap (outc T ao g ++ (oc_X10 T (ad 0) (bb ad) (x_K 0) ++ (wkL T ad x_K L18 ++ Z))) s.heap [] := ⟨hP, hD, va_S.rf⟩
  have hl := lv_entry [.ref (ad 0 0), .int p1, .int p2, .int p3, .int p4, .int p5, .ref ao] (n := 8) (Nat.le_of_ble_eq_true rfl)
  refine W.eq (en_eq ha) ?_
  generalize (lg_sl [.ref (ad 0 0), .int p1, .int p2, .int p3, .int p4, .int p5, .ref ao] ++ List.replicate (8 - (lg_sl [.ref (ad 0 0), .int p1, .int p2, .int p3, .int p4, .int p5, .ref ao]).length) Slot.unset).toArray = ls at hl ⊢
  have hl : lv_has ls 8 [(0, .ref (ad 0 0)), (1, .int p1), (2, .int p2), (3, .int p3), (4, .int p4), (5, .int p5), (6, .ref ao)] := hl
  clear hP hD B ha
  change W p l e (rmx 7 3) s m args below meth c s.heap [] 0 0 _ (F0 m 0 ls [])
  refine lv_aload hx hb dL_guess_0 (lv_at hl 6 rfl) ?_
  refine lv_iconst (v := 0) hx hb dL_guess_2 (by decide) ?_
  refine lv_aload_n hx hb dL_guess_3 rfl (lv_at hl 0 rfl) ?_
  refine lv_iload_n hx hb dL_guess_4 rfl (lv_at hl 1 rfl) ?_
  refine lv_iload_n hx hb dL_guess_5 rfl (lv_at hl 2 rfl) ?_
  refine lv_iload_n hx hb dL_guess_6 rfl (lv_at hl 3 rfl) ?_
  refine lv_iload hx hb dL_guess_7 (lv_at hl 4 rfl) ?_
  refine lv_iload hx hb dL_guess_9 (lv_at hl 5 rfl) ?_
  have hW := hW.perm pf2.symm
  refine xc_vi (by decide) hx hb hml hown hts hK hN hE hW (g_cw (n := 5) hts wm14_5 wm14_6 wm14_7 wm1_2 wm14_8 ⟨rfl, by decide +kernel, by decide +kernel, by decide +kernel⟩ ⟨rfl, rfl⟩ ⟨Nat.le_of_ble_eq_true rfl, Nat.le_of_ble_eq_true rfl⟩) ⟨10, (RX10, TX10, 13), _, rfl, rfl, rfl⟩ (c_X10_guess l hfl D T A ad hok (outc T ao g ++ Z) x_K p1 p2 p3 p4 p5 3 r x_K9 h) rfl hl.1 rfl (Nat.le_of_ble_eq_true rfl) dL_guess_11 ⟨Nat.le_of_ble_eq_true rfl, Nat.le_of_ble_eq_true rfl⟩ (fun ce q9 H locs hW hce hcv hcl => ?_)
  have hW := hW.perm pf2
  refine vx_catch hown [⟨0, 16, 19, 13⟩] ⟨0, 16, 23, 15⟩ [] (htab.trans rfl) (fun z hz => by
    simp only [List.mem_cons, List.not_mem_nil, or_false] at hz
    rcases hz with rfl
    · exact Or.inr ⟨by decide, _, hts _ wm10_0, hC _ (List.mem_of_getElem? (i := 0) rfl)⟩) (by decide) (by decide) (hts _ wm10_1) (va_Nw.use rfl (hE.2.2.1 (exN 3) (by decide))) hce hcv hcl ?_
  refine lv_astore (lv' := [(7, .ref q9), (0, .ref (ad 0 0)), (1, .int p1), (2, .int p2), (3, .int p3), (4, .int p4), (5, .int p5), (6, .ref ao)]) hx hb dL_guess_23 hl (by decide) rfl (fun ls hl => ?_)
  refine lv_iconst (v := 2) hx hb dL_guess_25 (by decide) ?_
  exact g_reti hx hb hr hlk hW dL_guess_26
set_option maxHeartbeats 4000000 in
set_option maxRecDepth 100000 in
theorem wL_readings_0 (l : Launch) (hfl : l.stackTraces = false) (D : va_G) (T : Nat → ClassId) (A : Nat → Prop) (ad : Nat → Nat → Nat) (hok : okad ad) (Z : va_W) (ao : Nat) (g : Nat → Int64) (x_K : Nat → Ob) (p1 : Int32) (r : Int32)  (h : f_X10_readings x_K p1 = some (0, r)) : Met l yL_readings (Cond.codeWith yL_readings cL_readings 4 (some .int) [(0, 9, 12, 21)] :: wsL_law) (rmx 8 0) (Pw D T A (outc T ao g ++ (oc_X10 T (ad 0) (bb ad) (x_K 0) ++ (wkL T ad x_K L18 ++ Z))) [.ref (ad 0 0), .int p1, .ref ao]) (Qgi D A (outc T ao (vp_updL g 0 r.toInt64) ++ (oc_X10 T (ad 0) (bb ad) (x_K 0) ++ (wkL T ad x_K L18 ++ Z))) 0) (ex1 0) (ex6 0) A := by
  refine va_MetW (cc := cL_readings) (maxL := 4) (ret := (some .int)) (hh := [(0, 9, 12, 21)]) (by decide +kernel) rfl ?_
  intro p e s m args below meth c s₁ B hml hv
  obtain ⟨ha, hP, hK, hD, hN, hE, hC⟩ := hv
  have hx := B.exec
  have hb := B.bytes
  have hr := B.returns
  have hlk := B.notSynchronized
  have hts0 := atoms_spec (ws := Cond.codeWith yL_readings cL_readings 4 (some .int) [(0, 9, 12, 21)] :: wsL_law) B.pre
  have hts : ∀ w ∈ wsL_law, w.before args s = true := fun w hw => hts0 w (List.mem_cons_of_mem _ hw)
  have htab := vx_table (x := yL_word) B (hts0 _ List.mem_cons_self)
  have hown : s.vm.findClass RL = some m.cls := findClass_of_methodNamed B.named
  have hW : Wd D A s.heap (outc T ao g ++ (oc_X10 T (ad 0) (bb ad) (x_K 0) ++ (wkL T ad x_K L18 ++ Z))) s.heap [] := ⟨hP, hD, va_S.rf⟩
  have hl := lv_entry [.ref (ad 0 0), .int p1, .ref ao] (n := 4) (Nat.le_of_ble_eq_true rfl)
  refine W.eq (en_eq ha) ?_
  generalize (lg_sl [.ref (ad 0 0), .int p1, .ref ao] ++ List.replicate (4 - (lg_sl [.ref (ad 0 0), .int p1, .ref ao]).length) Slot.unset).toArray = ls at hl ⊢
  have hl : lv_has ls 4 [(0, .ref (ad 0 0)), (1, .int p1), (2, .ref ao)] := hl
  clear hP hD B ha
  change W p l e (rmx 8 0) s m args below meth c s.heap [] 0 0 _ (F0 m 0 ls [])
  refine lv_aload_n hx hb dL_readings_0 rfl (lv_at hl 2 rfl) ?_
  refine lv_iconst (v := 0) hx hb dL_readings_1 (by decide) ?_
  refine lv_aload_n hx hb dL_readings_2 rfl (lv_at hl 0 rfl) ?_
  refine lv_iload_n hx hb dL_readings_3 rfl (lv_at hl 1 rfl) ?_
  have hW := hW.perm pf2.symm
  refine x0_vi hx hb hml hown hts hK hN hE hW (g_cw (n := 1) hts wm14_16 wm14_17 wm14_18 wm1_2 wm14_19 ⟨rfl, by decide +kernel, by decide +kernel, by decide +kernel⟩ ⟨rfl, rfl⟩ ⟨Nat.le_of_ble_eq_true rfl, Nat.le_of_ble_eq_true rfl⟩) ⟨10, (RX10, TX10, 13), _, rfl, rfl, rfl⟩ (c_X10_readings l hfl D T A ad hok (outc T ao g ++ Z) x_K p1 0 r h) rfl hl.1 rfl (Nat.le_of_ble_eq_true rfl) dL_readings_4 ⟨Nat.zero_le _, Nat.zero_le _⟩ (fun H locs hW => ?_)
  have hW := hW.perm pf2
  refine lv_i2l (v := r.toInt64) hx hb dL_readings_7 rfl ?_
  refine g_last hx hb hK hW dL_readings_8 (fun H locs hW => ?_)
  refine lv_goto (tgt := 15) hx hb dL_readings_9 (by decide) ?_
  refine lv_iconst (v := 0) hx hb dL_readings_15 (by decide) ?_
  exact g_reti hx hb hr hlk hW dL_readings_16
set_option maxHeartbeats 4000000 in
set_option maxRecDepth 100000 in
theorem wL_readings_1 (l : Launch) (hfl : l.stackTraces = false) (D : va_G) (T : Nat → ClassId) (A : Nat → Prop) (ad : Nat → Nat → Nat) (hok : okad ad) (Z : va_W) (ao : Nat) (g : Nat → Int64) (x_K : Nat → Ob) (p1 : Int32) (r : Int32)  (h : f_X10_readings x_K p1 = some (1, r)) : Met l yL_readings (Cond.codeWith yL_readings cL_readings 4 (some .int) [(0, 9, 12, 21)] :: wsL_law) (rmx 8 1) (Pw D T A (outc T ao g ++ (oc_X10 T (ad 0) (bb ad) (x_K 0) ++ (wkL T ad x_K L18 ++ Z))) [.ref (ad 0 0), .int p1, .ref ao]) (Qgi D A (outc T ao g ++ (oc_X10 T (ad 0) (bb ad) (x_K 0) ++ (wkL T ad x_K L18 ++ Z))) 1) (ex1 1) (ex6 1) A := by
  refine va_MetW (cc := cL_readings) (maxL := 4) (ret := (some .int)) (hh := [(0, 9, 12, 21)]) (by decide +kernel) rfl ?_
  intro p e s m args below meth c s₁ B hml hv
  obtain ⟨ha, hP, hK, hD, hN, hE, hC⟩ := hv
  have hx := B.exec
  have hb := B.bytes
  have hr := B.returns
  have hlk := B.notSynchronized
  have hts0 := atoms_spec (ws := Cond.codeWith yL_readings cL_readings 4 (some .int) [(0, 9, 12, 21)] :: wsL_law) B.pre
  have hts : ∀ w ∈ wsL_law, w.before args s = true := fun w hw => hts0 w (List.mem_cons_of_mem _ hw)
  have htab := vx_table (x := yL_word) B (hts0 _ List.mem_cons_self)
  have hown : s.vm.findClass RL = some m.cls := findClass_of_methodNamed B.named
  have hW : Wd D A s.heap (outc T ao g ++ (oc_X10 T (ad 0) (bb ad) (x_K 0) ++ (wkL T ad x_K L18 ++ Z))) s.heap [] := ⟨hP, hD, va_S.rf⟩
  have hl := lv_entry [.ref (ad 0 0), .int p1, .ref ao] (n := 4) (Nat.le_of_ble_eq_true rfl)
  refine W.eq (en_eq ha) ?_
  generalize (lg_sl [.ref (ad 0 0), .int p1, .ref ao] ++ List.replicate (4 - (lg_sl [.ref (ad 0 0), .int p1, .ref ao]).length) Slot.unset).toArray = ls at hl ⊢
  have hl : lv_has ls 4 [(0, .ref (ad 0 0)), (1, .int p1), (2, .ref ao)] := hl
  clear hP hD B ha
  change W p l e (rmx 8 1) s m args below meth c s.heap [] 0 0 _ (F0 m 0 ls [])
  refine lv_aload_n hx hb dL_readings_0 rfl (lv_at hl 2 rfl) ?_
  refine lv_iconst (v := 0) hx hb dL_readings_1 (by decide) ?_
  refine lv_aload_n hx hb dL_readings_2 rfl (lv_at hl 0 rfl) ?_
  refine lv_iload_n hx hb dL_readings_3 rfl (lv_at hl 1 rfl) ?_
  have hW := hW.perm pf2.symm
  refine xc_vi (by decide) hx hb hml hown hts hK hN hE hW (g_cw (n := 1) hts wm14_16 wm14_17 wm14_18 wm1_2 wm14_19 ⟨rfl, by decide +kernel, by decide +kernel, by decide +kernel⟩ ⟨rfl, rfl⟩ ⟨Nat.le_of_ble_eq_true rfl, Nat.le_of_ble_eq_true rfl⟩) ⟨10, (RX10, TX10, 13), _, rfl, rfl, rfl⟩ (c_X10_readings l hfl D T A ad hok (outc T ao g ++ Z) x_K p1 1 r h) rfl hl.1 rfl (Nat.le_of_ble_eq_true rfl) dL_readings_4 ⟨Nat.le_of_ble_eq_true rfl, Nat.le_of_ble_eq_true rfl⟩ (fun ce q9 H locs hW hce hcv hcl => ?_)
  have hW := hW.perm pf2
  refine vx_catch hown [] ⟨0, 9, 12, 21⟩ [] (htab.trans rfl) (fun z hz => absurd hz List.not_mem_nil) (by decide) (by decide) (hts _ wm11_20) (va_Nw.use rfl (hE.2.2.1 (exN 1) (by decide))) hce hcv hcl ?_
  refine lv_astore_n (lv' := [(3, .ref q9), (0, .ref (ad 0 0)), (1, .int p1), (2, .ref ao)]) hx hb dL_readings_12 rfl hl (by decide) rfl (fun ls hl => ?_)
  refine lv_iconst (v := 1) hx hb dL_readings_13 (by decide) ?_
  exact g_reti hx hb hr hlk hW dL_readings_14
set_option maxHeartbeats 4000000 in
set_option maxRecDepth 100000 in
theorem wL_sure_0 (l : Launch) (hfl : l.stackTraces = false) (D : va_G) (T : Nat → ClassId) (A : Nat → Prop) (ad : Nat → Nat → Nat) (hok : okad ad) (Z : va_W) (ao : Nat) (g : Nat → Int64) (x_K : Nat → Ob) (p1 : Int32) (p2 : Int32) (p3 : Int32) (r : Int32) (x_K9 : Nat → Ob) (h : f_X10_sure x_K p1 p2 p3 = some (0, r, x_K9)) : Met l yL_sure (Cond.codeWith yL_sure cL_sure 6 (some .int) [(0, 12, 15, 13), (0, 12, 19, 15)] :: wsL_law) (rmx 7 0) (Pw D T A (outc T ao g ++ (oc_X10 T (ad 0) (bb ad) (x_K 0) ++ (wkL T ad x_K L18 ++ Z))) [.ref (ad 0 0), .int p1, .int p2, .int p3, .ref ao]) (Qgi D A (outc T ao (vp_updL g 0 r.toInt64) ++ (oc_X10 T (ad 0) (bb ad) (x_K9 0) ++ (wkL T ad x_K9 L18 ++ Z))) 0) (ex1 0) (ex6 0) A := by
  refine va_MetW (cc := cL_sure) (maxL := 6) (ret := (some .int)) (hh := [(0, 12, 15, 13), (0, 12, 19, 15)]) (by decide +kernel) rfl ?_
  intro p e s m args below meth c s₁ B hml hv
  obtain ⟨ha, hP, hK, hD, hN, hE, hC⟩ := hv
  have hx := B.exec
  have hb := B.bytes
  have hr := B.returns
  have hlk := B.notSynchronized
  have hts0 := atoms_spec (ws := Cond.codeWith yL_sure cL_sure 6 (some .int) [(0, 12, 15, 13), (0, 12, 19, 15)] :: wsL_law) B.pre
  have hts : ∀ w ∈ wsL_law, w.before args s = true := fun w hw => hts0 w (List.mem_cons_of_mem _ hw)
  have htab := vx_table (x := yL_word) B (hts0 _ List.mem_cons_self)
  have hown : s.vm.findClass RL = some m.cls := findClass_of_methodNamed B.named
  have hW : Wd D A s.heap (outc T ao g ++ (oc_X10 T (ad 0) (bb ad) (x_K 0) ++ (wkL T ad x_K L18 ++ Z))) s.heap [] := ⟨hP, hD, va_S.rf⟩
  have hl := lv_entry [.ref (ad 0 0), .int p1, .int p2, .int p3, .ref ao] (n := 6) (Nat.le_of_ble_eq_true rfl)
  refine W.eq (en_eq ha) ?_
  generalize (lg_sl [.ref (ad 0 0), .int p1, .int p2, .int p3, .ref ao] ++ List.replicate (6 - (lg_sl [.ref (ad 0 0), .int p1, .int p2, .int p3, .ref ao]).length) Slot.unset).toArray = ls at hl ⊢
  have hl : lv_has ls 6 [(0, .ref (ad 0 0)), (1, .int p1), (2, .int p2), (3, .int p3), (4, .ref ao)] := hl
  clear hP hD B ha
  change W p l e (rmx 7 0) s m args below meth c s.heap [] 0 0 _ (F0 m 0 ls [])
  refine lv_aload hx hb dL_sure_0 (lv_at hl 4 rfl) ?_
  refine lv_iconst (v := 0) hx hb dL_sure_2 (by decide) ?_
  refine lv_aload_n hx hb dL_sure_3 rfl (lv_at hl 0 rfl) ?_
  refine lv_iload_n hx hb dL_sure_4 rfl (lv_at hl 1 rfl) ?_
  refine lv_iload_n hx hb dL_sure_5 rfl (lv_at hl 2 rfl) ?_
  refine lv_iload_n hx hb dL_sure_6 rfl (lv_at hl 3 rfl) ?_
  have hW := hW.perm pf2.symm
  refine x0_vi hx hb hml hown hts hK hN hE hW (g_cw (n := 3) hts wm15_19 wm15_20 wm15_21 wm1_2 wm15_22 ⟨rfl, by decide +kernel, by decide +kernel, by decide +kernel⟩ ⟨rfl, rfl⟩ ⟨Nat.le_of_ble_eq_true rfl, Nat.le_of_ble_eq_true rfl⟩) ⟨10, (RX10, TX10, 13), _, rfl, rfl, rfl⟩ (c_X10_sure l hfl D T A ad hok (outc T ao g ++ Z) x_K p1 p2 p3 0 r x_K9 h) rfl hl.1 rfl (Nat.le_of_ble_eq_true rfl) dL_sure_7 ⟨Nat.zero_le _, Nat.zero_le _⟩ (fun H locs hW => ?_)
  have hW := hW.perm pf2
  refine lv_i2l (v := r.toInt64) hx hb dL_sure_10 rfl ?_
  refine g_last hx hb hK hW dL_sure_11 (fun H locs hW => ?_)
  refine lv_goto (tgt := 23) hx hb dL_sure_12 (by decide) ?_
  refine lv_iconst (v := 0) hx hb dL_sure_23 (by decide) ?_
  exact g_reti hx hb hr hlk hW dL_sure_24
set_option maxHeartbeats 4000000 in
set_option maxRecDepth 100000 in
theorem wL_sure_2 (l : Launch) (hfl : l.stackTraces = false) (D : va_G) (T : Nat → ClassId) (A : Nat → Prop) (ad : Nat → Nat → Nat) (hok : okad ad) (Z : va_W) (ao : Nat) (g : Nat → Int64) (x_K : Nat → Ob) (p1 : Int32) (p2 : Int32) (p3 : Int32) (r : Int32) (x_K9 : Nat → Ob) (h : f_X10_sure x_K p1 p2 p3 = some (2, r, x_K9)) : Met l yL_sure (Cond.codeWith yL_sure cL_sure 6 (some .int) [(0, 12, 15, 13), (0, 12, 19, 15)] :: wsL_law) (rmx 7 2) (Pw D T A (outc T ao g ++ (oc_X10 T (ad 0) (bb ad) (x_K 0) ++ (wkL T ad x_K L18 ++ Z))) [.ref (ad 0 0), .int p1, .int p2, .int p3, .ref ao]) (Qgi D A (outc T ao g ++ (oc_X10 T (ad 0) (bb ad) (x_K9 0) ++ (wkL T ad x_K9 L18 ++ Z))) 1) (ex1 2) (ex6 2) A := by
  refine va_MetW (cc := cL_sure) (maxL := 6) (ret := (some .int)) (hh := [(0, 12, 15, 13), (0, 12, 19, 15)]) (by decide +kernel) rfl ?_
  intro p e s m args below meth c s₁ B hml hv
  obtain ⟨ha, hP, hK, hD, hN, hE, hC⟩ := hv
  have hx := B.exec
  have hb := B.bytes
  have hr := B.returns
  have hlk := B.notSynchronized
  have hts0 := atoms_spec (ws := Cond.codeWith yL_sure cL_sure 6 (some .int) [(0, 12, 15, 13), (0, 12, 19, 15)] :: wsL_law) B.pre
  have hts : ∀ w ∈ wsL_law, w.before args s = true := fun w hw => hts0 w (List.mem_cons_of_mem _ hw)
  have htab := vx_table (x := yL_word) B (hts0 _ List.mem_cons_self)
  have hown : s.vm.findClass RL = some m.cls := findClass_of_methodNamed B.named
  have hW : Wd D A s.heap (outc T ao g ++ (oc_X10 T (ad 0) (bb ad) (x_K 0) ++ (wkL T ad x_K L18 ++ Z))) s.heap [] := ⟨hP, hD, va_S.rf⟩
  have hl := lv_entry [.ref (ad 0 0), .int p1, .int p2, .int p3, .ref ao] (n := 6) (Nat.le_of_ble_eq_true rfl)
  refine W.eq (en_eq ha) ?_
  generalize (lg_sl [.ref (ad 0 0), .int p1, .int p2, .int p3, .ref ao] ++ List.replicate (6 - (lg_sl [.ref (ad 0 0), .int p1, .int p2, .int p3, .ref ao]).length) Slot.unset).toArray = ls at hl ⊢
  have hl : lv_has ls 6 [(0, .ref (ad 0 0)), (1, .int p1), (2, .int p2), (3, .int p3), (4, .ref ao)] := hl
  clear hP hD B ha
  change W p l e (rmx 7 2) s m args below meth c s.heap [] 0 0 _ (F0 m 0 ls [])
  refine lv_aload hx hb dL_sure_0 (lv_at hl 4 rfl) ?_
  refine lv_iconst (v := 0) hx hb dL_sure_2 (by decide) ?_
  refine lv_aload_n hx hb dL_sure_3 rfl (lv_at hl 0 rfl) ?_
  refine lv_iload_n hx hb dL_sure_4 rfl (lv_at hl 1 rfl) ?_
  refine lv_iload_n hx hb dL_sure_5 rfl (lv_at hl 2 rfl) ?_
  refine lv_iload_n hx hb dL_sure_6 rfl (lv_at hl 3 rfl) ?_
  have hW := hW.perm pf2.symm
  refine xc_vi (by decide) hx hb hml hown hts hK hN hE hW (g_cw (n := 3) hts wm15_19 wm15_20 wm15_21 wm1_2 wm15_22 ⟨rfl, by decide +kernel, by decide +kernel, by decide +kernel⟩ ⟨rfl, rfl⟩ ⟨Nat.le_of_ble_eq_true rfl, Nat.le_of_ble_eq_true rfl⟩) ⟨10, (RX10, TX10, 13), _, rfl, rfl, rfl⟩ (c_X10_sure l hfl D T A ad hok (outc T ao g ++ Z) x_K p1 p2 p3 2 r x_K9 h) rfl hl.1 rfl (Nat.le_of_ble_eq_true rfl) dL_sure_7 ⟨Nat.le_of_ble_eq_true rfl, Nat.le_of_ble_eq_true rfl⟩ (fun ce q9 H locs hW hce hcv hcl => ?_)
  have hW := hW.perm pf2
  refine vx_catch hown [] ⟨0, 12, 15, 13⟩ [⟨0, 12, 19, 15⟩] (htab.trans rfl) (fun z hz => absurd hz List.not_mem_nil) (by decide) (by decide) (hts _ wm10_0) (va_Nw.use rfl (hE.2.2.1 (exN 2) (by decide))) hce hcv hcl ?_
  refine lv_astore (lv' := [(5, .ref q9), (0, .ref (ad 0 0)), (1, .int p1), (2, .int p2), (3, .int p3), (4, .ref ao)]) hx hb dL_sure_15 hl (by decide) rfl (fun ls hl => ?_)
  refine lv_iconst (v := 1) hx hb dL_sure_17 (by decide) ?_
  exact g_reti hx hb hr hlk hW dL_sure_18
set_option maxHeartbeats 4000000 in
set_option maxRecDepth 100000 in
theorem wL_sure_3 (l : Launch) (hfl : l.stackTraces = false) (D : va_G) (T : Nat → ClassId) (A : Nat → Prop) (ad : Nat → Nat → Nat) (hok : okad ad) (Z : va_W) (ao : Nat) (g : Nat → Int64) (x_K : Nat → Ob) (p1 : Int32) (p2 : Int32) (p3 : Int32) (r : Int32) (x_K9 : Nat → Ob) (h : f_X10_sure x_K p1 p2 p3 = some (3, r, x_K9)) : Met l yL_sure (Cond.codeWith yL_sure cL_sure 6 (some .int) [(0, 12, 15, 13), (0, 12, 19, 15)] :: wsL_law) (rmx 7 3) (Pw D T A (outc T ao g ++ (oc_X10 T (ad 0) (bb ad) (x_K 0) ++ (wkL T ad x_K L18 ++ Z))) [.ref (ad 0 0), .int p1, .int p2, .int p3, .ref ao]) (Qgi D A (outc T ao g ++ (oc_X10 T (ad 0) (bb ad) (x_K9 0) ++ (wkL T ad x_K9 L18 ++ Z))) 2) (ex1 3) (ex6 3) A := by
  refine va_MetW (cc := cL_sure) (maxL := 6) (ret := (some .int)) (hh := [(0, 12, 15, 13), (0, 12, 19, 15)]) (by decide +kernel) rfl ?_
  intro p e s m args below meth c s₁ B hml hv
  obtain ⟨ha, hP, hK, hD, hN, hE, hC⟩ := hv
  have hx := B.exec
  have hb := B.bytes
  have hr := B.returns
  have hlk := B.notSynchronized
  have hts0 := atoms_spec (ws := Cond.codeWith yL_sure cL_sure 6 (some .int) [(0, 12, 15, 13), (0, 12, 19, 15)] :: wsL_law) B.pre
  have hts : ∀ w ∈ wsL_law, w.before args s = true := fun w hw => hts0 w (List.mem_cons_of_mem _ hw)
  have htab := vx_table (x := yL_word) B (hts0 _ List.mem_cons_self)
  have hown : s.vm.findClass RL = some m.cls := findClass_of_methodNamed B.named
  have hW : Wd D A s.heap (outc T ao g ++ (oc_X10 T (ad 0) (bb ad) (x_K 0) ++ (wkL T ad x_K L18 ++ Z))) s.heap [] := ⟨hP, hD, va_S.rf⟩
  have hl := lv_entry [.ref (ad 0 0), .int p1, .int p2, .int p3, .ref ao] (n := 6) (Nat.le_of_ble_eq_true rfl)
  refine W.eq (en_eq ha) ?_
  generalize (lg_sl [.ref (ad 0 0), .int p1, .int p2, .int p3, .ref ao] ++ List.replicate (6 - (lg_sl [.ref (ad 0 0), .int p1, .int p2, .int p3, .ref ao]).length) Slot.unset).toArray = ls at hl ⊢
  have hl : lv_has ls 6 [(0, .ref (ad 0 0)), (1, .int p1), (2, .int p2), (3, .int p3), (4, .ref ao)] := hl
  clear hP hD B ha
  change W p l e (rmx 7 3) s m args below meth c s.heap [] 0 0 _ (F0 m 0 ls [])
  refine lv_aload hx hb dL_sure_0 (lv_at hl 4 rfl) ?_
  refine lv_iconst (v := 0) hx hb dL_sure_2 (by decide) ?_
  refine lv_aload_n hx hb dL_sure_3 rfl (lv_at hl 0 rfl) ?_
  refine lv_iload_n hx hb dL_sure_4 rfl (lv_at hl 1 rfl) ?_
  refine lv_iload_n hx hb dL_sure_5 rfl (lv_at hl 2 rfl) ?_
  refine lv_iload_n hx hb dL_sure_6 rfl (lv_at hl 3 rfl) ?_
  have hW := hW.perm pf2.symm
  refine xc_vi (by decide) hx hb hml hown hts hK hN hE hW (g_cw (n := 3) hts wm15_19 wm15_20 wm15_21 wm1_2 wm15_22 ⟨rfl, by decide +kernel, by decide +kernel, by decide +kernel⟩ ⟨rfl, rfl⟩ ⟨Nat.le_of_ble_eq_true rfl, Nat.le_of_ble_eq_true rfl⟩) ⟨10, (RX10, TX10, 13), _, rfl, rfl, rfl⟩ (c_X10_sure l hfl D T A ad hok (outc T ao g ++ Z) x_K p1 p2 p3 3 r x_K9 h) rfl hl.1 rfl (Nat.le_of_ble_eq_true rfl) dL_sure_7 ⟨Nat.le_of_ble_eq_true rfl, Nat.le_of_ble_eq_true rfl⟩ (fun ce q9 H locs hW hce hcv hcl => ?_)
  have hW := hW.perm pf2
  refine vx_catch hown [⟨0, 12, 15, 13⟩] ⟨0, 12, 19, 15⟩ [] (htab.trans rfl) (fun z hz => by
    simp only [List.mem_cons, List.not_mem_nil, or_false] at hz
    rcases hz with rfl
    · exact Or.inr ⟨by decide, _, hts _ wm10_0, hC _ (List.mem_of_getElem? (i := 0) rfl)⟩) (by decide) (by decide) (hts _ wm10_1) (va_Nw.use rfl (hE.2.2.1 (exN 3) (by decide))) hce hcv hcl ?_
  refine lv_astore (lv' := [(5, .ref q9), (0, .ref (ad 0 0)), (1, .int p1), (2, .int p2), (3, .int p3), (4, .ref ao)]) hx hb dL_sure_19 hl (by decide) rfl (fun ls hl => ?_)
  refine lv_iconst (v := 2) hx hb dL_sure_21 (by decide) ?_
  exact g_reti hx hb hr hlk hW dL_sure_22
set_option maxHeartbeats 4000000 in
set_option maxRecDepth 100000 in
theorem wL_seen_0 (l : Launch) (hfl : l.stackTraces = false) (D : va_G) (T : Nat → ClassId) (A : Nat → Prop) (ad : Nat → Nat → Nat) (hok : okad ad) (Z : va_W) (ao : Nat) (g : Nat → Int64) (x_K : Nat → Ob) (p1 : Int32) (p2 : Int32) (p3 : Int32) (p4 : Int32) (r : Int32) (x_K9 : Nat → Ob) (h : f_X10_seen x_K p1 p2 p3 p4 = some (0, r, x_K9)) : Met l yL_seen (Cond.codeWith yL_seen cL_seen 7 (some .int) [(0, 14, 17, 13), (0, 14, 21, 15)] :: wsL_law) (rmx 7 0) (Pw D T A (outc T ao g ++ (oc_X10 T (ad 0) (bb ad) (x_K 0) ++ (wkL T ad x_K L18 ++ Z))) [.ref (ad 0 0), .int p1, .int p2, .int p3, .int p4, .ref ao]) (Qgi D A (outc T ao (vp_updL g 0 r.toInt64) ++ (oc_X10 T (ad 0) (bb ad) (x_K9 0) ++ (wkL T ad x_K9 L18 ++ Z))) 0) (ex1 0) (ex6 0) A := by
  refine va_MetW (cc := cL_seen) (maxL := 7) (ret := (some .int)) (hh := [(0, 14, 17, 13), (0, 14, 21, 15)]) (by decide +kernel) rfl ?_
  intro p e s m args below meth c s₁ B hml hv
  obtain ⟨ha, hP, hK, hD, hN, hE, hC⟩ := hv
  have hx := B.exec
  have hb := B.bytes
  have hr := B.returns
  have hlk := B.notSynchronized
  have hts0 := atoms_spec (ws := Cond.codeWith yL_seen cL_seen 7 (some .int) [(0, 14, 17, 13), (0, 14, 21, 15)] :: wsL_law) B.pre
  have hts : ∀ w ∈ wsL_law, w.before args s = true := fun w hw => hts0 w (List.mem_cons_of_mem _ hw)
  have htab := vx_table (x := yL_word) B (hts0 _ List.mem_cons_self)
  have hown : s.vm.findClass RL = some m.cls := findClass_of_methodNamed B.named
  have hW : Wd D A s.heap (outc T ao g ++ (oc_X10 T (ad 0) (bb ad) (x_K 0) ++ (wkL T ad x_K L18 ++ Z))) s.heap [] := ⟨hP, hD, va_S.rf⟩
  have hl := lv_entry [.ref (ad 0 0), .int p1, .int p2, .int p3, .int p4, .ref ao] (n := 7) (Nat.le_of_ble_eq_true rfl)
  refine W.eq (en_eq ha) ?_
  generalize (lg_sl [.ref (ad 0 0), .int p1, .int p2, .int p3, .int p4, .ref ao] ++ List.replicate (7 - (lg_sl [.ref (ad 0 0), .int p1, .int p2, .int p3, .int p4, .ref ao]).length) Slot.unset).toArray = ls at hl ⊢
  have hl : lv_has ls 7 [(0, .ref (ad 0 0)), (1, .int p1), (2, .int p2), (3, .int p3), (4, .int p4), (5, .ref ao)] := hl
  clear hP hD B ha
  change W p l e (rmx 7 0) s m args below meth c s.heap [] 0 0 _ (F0 m 0 ls [])
  refine lv_aload hx hb dL_seen_0 (lv_at hl 5 rfl) ?_
  refine lv_iconst (v := 0) hx hb dL_seen_2 (by decide) ?_
  refine lv_aload_n hx hb dL_seen_3 rfl (lv_at hl 0 rfl) ?_
  refine lv_iload_n hx hb dL_seen_4 rfl (lv_at hl 1 rfl) ?_
  refine lv_iload_n hx hb dL_seen_5 rfl (lv_at hl 2 rfl) ?_
  refine lv_iload_n hx hb dL_seen_6 rfl (lv_at hl 3 rfl) ?_
  refine lv_iload hx hb dL_seen_7 (lv_at hl 4 rfl) ?_
  have hW := hW.perm pf2.symm
  refine x0_vi hx hb hml hown hts hK hN hE hW (g_cw (n := 4) hts wm16_23 wm17_0 wm17_1 wm1_2 wm17_2 ⟨rfl, by decide +kernel, by decide +kernel, by decide +kernel⟩ ⟨rfl, rfl⟩ ⟨Nat.le_of_ble_eq_true rfl, Nat.le_of_ble_eq_true rfl⟩) ⟨10, (RX10, TX10, 13), _, rfl, rfl, rfl⟩ (c_X10_seen l hfl D T A ad hok (outc T ao g ++ Z) x_K p1 p2 p3 p4 0 r x_K9 h) rfl hl.1 rfl (Nat.le_of_ble_eq_true rfl) dL_seen_9 ⟨Nat.zero_le _, Nat.zero_le _⟩ (fun H locs hW => ?_)
  have hW := hW.perm pf2
  refine lv_i2l (v := r.toInt64) hx hb dL_seen_12 rfl ?_
  refine g_last hx hb hK hW dL_seen_13 (fun H locs hW => ?_)
  refine lv_goto (tgt := 25) hx hb dL_seen_14 (by decide) ?_
  refine lv_iconst (v := 0) hx hb dL_seen_25 (by decide) ?_
  exact g_reti hx hb hr hlk hW dL_seen_26
set_option maxHeartbeats 4000000 in
set_option maxRecDepth 100000 in
theorem wL_seen_2 (l : Launch) (hfl : l.stackTraces = false) (D : va_G) (T : Nat → ClassId) (A : Nat → Prop) (ad : Nat → Nat → Nat) (hok : okad ad) (Z : va_W) (ao : Nat) (g : Nat → Int64) (x_K : Nat → Ob) (p1 : Int32) (p2 : Int32) (p3 : Int32) (p4 : Int32) (r : Int32) (x_K9 : Nat → Ob) (h : f_X10_seen x_K p1 p2 p3 p4 = some (2, r, x_K9)) : Met l yL_seen (Cond.codeWith yL_seen cL_seen 7 (some .int) [(0, 14, 17, 13), (0, 14, 21, 15)] :: wsL_law) (rmx 7 2) (Pw D T A (outc T ao g ++ (oc_X10 T (ad 0) (bb ad) (x_K 0) ++ (wkL T ad x_K L18 ++ Z))) [.ref (ad 0 0), .int p1, .int p2, .int p3, .int p4, .ref ao]) (Qgi D A (outc T ao g ++ (oc_X10 T (ad 0) (bb ad) (x_K9 0) ++ (wkL T ad x_K9 L18 ++ Z))) 1) (ex1 2) (ex6 2) A := by
  refine va_MetW (cc := cL_seen) (maxL := 7) (ret := (some .int)) (hh := [(0, 14, 17, 13), (0, 14, 21, 15)]) (by decide +kernel) rfl ?_
  intro p e s m args below meth c s₁ B hml hv
  obtain ⟨ha, hP, hK, hD, hN, hE, hC⟩ := hv
  have hx := B.exec
  have hb := B.bytes
  have hr := B.returns
  have hlk := B.notSynchronized
  have hts0 := atoms_spec (ws := Cond.codeWith yL_seen cL_seen 7 (some .int) [(0, 14, 17, 13), (0, 14, 21, 15)] :: wsL_law) B.pre
  have hts : ∀ w ∈ wsL_law, w.before args s = true := fun w hw => hts0 w (List.mem_cons_of_mem _ hw)
  have htab := vx_table (x := yL_word) B (hts0 _ List.mem_cons_self)
  have hown : s.vm.findClass RL = some m.cls := findClass_of_methodNamed B.named
  have hW : Wd D A s.heap (outc T ao g ++ (oc_X10 T (ad 0) (bb ad) (x_K 0) ++ (wkL T ad x_K L18 ++ Z))) s.heap [] := ⟨hP, hD, va_S.rf⟩
  have hl := lv_entry [.ref (ad 0 0), .int p1, .int p2, .int p3, .int p4, .ref ao] (n := 7) (Nat.le_of_ble_eq_true rfl)
  refine W.eq (en_eq ha) ?_
  generalize (lg_sl [.ref (ad 0 0), .int p1, .int p2, .int p3, .int p4, .ref ao] ++ List.replicate (7 - (lg_sl [.ref (ad 0 0), .int p1, .int p2, .int p3, .int p4, .ref ao]).length) Slot.unset).toArray = ls at hl ⊢
  have hl : lv_has ls 7 [(0, .ref (ad 0 0)), (1, .int p1), (2, .int p2), (3, .int p3), (4, .int p4), (5, .ref ao)] := hl
  clear hP hD B ha
  change W p l e (rmx 7 2) s m args below meth c s.heap [] 0 0 _ (F0 m 0 ls [])
  refine lv_aload hx hb dL_seen_0 (lv_at hl 5 rfl) ?_
  refine lv_iconst (v := 0) hx hb dL_seen_2 (by decide) ?_
  refine lv_aload_n hx hb dL_seen_3 rfl (lv_at hl 0 rfl) ?_
  refine lv_iload_n hx hb dL_seen_4 rfl (lv_at hl 1 rfl) ?_
  refine lv_iload_n hx hb dL_seen_5 rfl (lv_at hl 2 rfl) ?_
  refine lv_iload_n hx hb dL_seen_6 rfl (lv_at hl 3 rfl) ?_
  refine lv_iload hx hb dL_seen_7 (lv_at hl 4 rfl) ?_
  have hW := hW.perm pf2.symm
  refine xc_vi (by decide) hx hb hml hown hts hK hN hE hW (g_cw (n := 4) hts wm16_23 wm17_0 wm17_1 wm1_2 wm17_2 ⟨rfl, by decide +kernel, by decide +kernel, by decide +kernel⟩ ⟨rfl, rfl⟩ ⟨Nat.le_of_ble_eq_true rfl, Nat.le_of_ble_eq_true rfl⟩) ⟨10, (RX10, TX10, 13), _, rfl, rfl, rfl⟩ (c_X10_seen l hfl D T A ad hok (outc T ao g ++ Z) x_K p1 p2 p3 p4 2 r x_K9 h) rfl hl.1 rfl (Nat.le_of_ble_eq_true rfl) dL_seen_9 ⟨Nat.le_of_ble_eq_true rfl, Nat.le_of_ble_eq_true rfl⟩ (fun ce q9 H locs hW hce hcv hcl => ?_)
  have hW := hW.perm pf2
  refine vx_catch hown [] ⟨0, 14, 17, 13⟩ [⟨0, 14, 21, 15⟩] (htab.trans rfl) (fun z hz => absurd hz List.not_mem_nil) (by decide) (by decide) (hts _ wm10_0) (va_Nw.use rfl (hE.2.2.1 (exN 2) (by decide))) hce hcv hcl ?_
  refine lv_astore (lv' := [(6, .ref q9), (0, .ref (ad 0 0)), (1, .int p1), (2, .int p2), (3, .int p3), (4, .int p4), (5, .ref ao)]) hx hb dL_seen_17 hl (by decide) rfl (fun ls hl => ?_)
  refine lv_iconst (v := 1) hx hb dL_seen_19 (by decide) ?_
  exact g_reti hx hb hr hlk hW dL_seen_20
set_option maxHeartbeats 4000000 in
set_option maxRecDepth 100000 in
theorem wL_seen_3 (l : Launch) (hfl : l.stackTraces = false) (D : va_G) (T : Nat → ClassId) (A : Nat → Prop) (ad : Nat → Nat → Nat) (hok : okad ad) (Z : va_W) (ao : Nat) (g : Nat → Int64) (x_K : Nat → Ob) (p1 : Int32) (p2 : Int32) (p3 : Int32) (p4 : Int32) (r : Int32) (x_K9 : Nat → Ob) (h : f_X10_seen x_K p1 p2 p3 p4 = some (3, r, x_K9)) : Met l yL_seen (Cond.codeWith yL_seen cL_seen 7 (some .int) [(0, 14, 17, 13), (0, 14, 21, 15)] :: wsL_law) (rmx 7 3) (Pw D T A (outc T ao g ++ (oc_X10 T (ad 0) (bb ad) (x_K 0) ++ (wkL T ad x_K L18 ++ Z))) [.ref (ad 0 0), .int p1, .int p2, .int p3, .int p4, .ref ao]) (Qgi D A (outc T ao g ++ (oc_X10 T (ad 0) (bb ad) (x_K9 0) ++ (wkL T ad x_K9 L18 ++ Z))) 2) (ex1 3) (ex6 3) A := by
  refine va_MetW (cc := cL_seen) (maxL := 7) (ret := (some .int)) (hh := [(0, 14, 17, 13), (0, 14, 21, 15)]) (by decide +kernel) rfl ?_
  intro p e s m args below meth c s₁ B hml hv
  obtain ⟨ha, hP, hK, hD, hN, hE, hC⟩ := hv
  have hx := B.exec
  have hb := B.bytes
  have hr := B.returns
  have hlk := B.notSynchronized
  have hts0 := atoms_spec (ws := Cond.codeWith yL_seen cL_seen 7 (some .int) [(0, 14, 17, 13), (0, 14, 21, 15)] :: wsL_law) B.pre
  have hts : ∀ w ∈ wsL_law, w.before args s = true := fun w hw => hts0 w (List.mem_cons_of_mem _ hw)
  have htab := vx_table (x := yL_word) B (hts0 _ List.mem_cons_self)
  have hown : s.vm.findClass RL = some m.cls := findClass_of_methodNamed B.named
  have hW : Wd D A s.heap (outc T ao g ++ (oc_X10 T (ad 0) (bb ad) (x_K 0) ++ (wkL T ad x_K L18 ++ Z))) s.heap [] := ⟨hP, hD, va_S.rf⟩
  have hl := lv_entry [.ref (ad 0 0), .int p1, .int p2, .int p3, .int p4, .ref ao] (n := 7) (Nat.le_of_ble_eq_true rfl)
  refine W.eq (en_eq ha) ?_
  generalize (lg_sl [.ref (ad 0 0), .int p1, .int p2, .int p3, .int p4, .ref ao] ++ List.replicate (7 - (lg_sl [.ref (ad 0 0), .int p1, .int p2, .int p3, .int p4, .ref ao]).length) Slot.unset).toArray = ls at hl ⊢
  have hl : lv_has ls 7 [(0, .ref (ad 0 0)), (1, .int p1), (2, .int p2), (3, .int p3), (4, .int p4), (5, .ref ao)] := hl
  clear hP hD B ha
  change W p l e (rmx 7 3) s m args below meth c s.heap [] 0 0 _ (F0 m 0 ls [])
  refine lv_aload hx hb dL_seen_0 (lv_at hl 5 rfl) ?_
  refine lv_iconst (v := 0) hx hb dL_seen_2 (by decide) ?_
  refine lv_aload_n hx hb dL_seen_3 rfl (lv_at hl 0 rfl) ?_
  refine lv_iload_n hx hb dL_seen_4 rfl (lv_at hl 1 rfl) ?_
  refine lv_iload_n hx hb dL_seen_5 rfl (lv_at hl 2 rfl) ?_
  refine lv_iload_n hx hb dL_seen_6 rfl (lv_at hl 3 rfl) ?_
  refine lv_iload hx hb dL_seen_7 (lv_at hl 4 rfl) ?_
  have hW := hW.perm pf2.symm
  refine xc_vi (by decide) hx hb hml hown hts hK hN hE hW (g_cw (n := 4) hts wm16_23 wm17_0 wm17_1 wm1_2 wm17_2 ⟨rfl, by decide +kernel, by decide +kernel, by decide +kernel⟩ ⟨rfl, rfl⟩ ⟨Nat.le_of_ble_eq_true rfl, Nat.le_of_ble_eq_true rfl⟩) ⟨10, (RX10, TX10, 13), _, rfl, rfl, rfl⟩ (c_X10_seen l hfl D T A ad hok (outc T ao g ++ Z) x_K p1 p2 p3 p4 3 r x_K9 h) rfl hl.1 rfl (Nat.le_of_ble_eq_true rfl) dL_seen_9 ⟨Nat.le_of_ble_eq_true rfl, Nat.le_of_ble_eq_true rfl⟩ (fun ce q9 H locs hW hce hcv hcl => ?_)
  have hW := hW.perm pf2
  refine vx_catch hown [⟨0, 14, 17, 13⟩] ⟨0, 14, 21, 15⟩ [] (htab.trans rfl) (fun z hz => by
    simp only [List.mem_cons, List.not_mem_nil, or_false] at hz
    rcases hz with rfl
    · exact Or.inr ⟨by decide, _, hts _ wm10_0, hC _ (List.mem_of_getElem? (i := 0) rfl)⟩) (by decide) (by decide) (hts _ wm10_1) (va_Nw.use rfl (hE.2.2.1 (exN 3) (by decide))) hce hcv hcl ?_
  refine lv_astore (lv' := [(6, .ref q9), (0, .ref (ad 0 0)), (1, .int p1), (2, .int p2), (3, .int p3), (4, .int p4), (5, .ref ao)]) hx hb dL_seen_21 hl (by decide) rfl (fun ls hl => ?_)
  refine lv_iconst (v := 2) hx hb dL_seen_23 (by decide) ?_
  exact g_reti hx hb hr hlk hW dL_seen_24
set_option maxHeartbeats 4000000 in
set_option maxRecDepth 100000 in
theorem wL_rule_0 (l : Launch) (hfl : l.stackTraces = false) (D : va_G) (T : Nat → ClassId) (A : Nat → Prop) (ad : Nat → Nat → Nat) (hok : okad ad) (Z : va_W) (ao : Nat) (g : Nat → Int64) (x_K : Nat → Ob) (p1 : Int32) (p2 : Int32) (p3 : Int32) (p4 : Int32) (r : Int32) (x_K9 : Nat → Ob) (h : f_X10_rule x_K p1 p2 p3 p4 = some (0, r, x_K9)) : Met l yL_rule (Cond.codeWith yL_rule cL_rule 7 (some .int) [(0, 14, 17, 13), (0, 14, 21, 15)] :: wsL_law) (rmx 7 0) (Pw D T A (outc T ao g ++ (oc_X10 T (ad 0) (bb ad) (x_K 0) ++ (wkL T ad x_K L18 ++ Z))) [.ref (ad 0 0), .int p1, .int p2, .int p3, .int p4, .ref ao]) (Qgi D A (outc T ao (vp_updL g 0 r.toInt64) ++ (oc_X10 T (ad 0) (bb ad) (x_K9 0) ++ (wkL T ad x_K9 L18 ++ Z))) 0) (ex1 0) (ex6 0) A := by
  refine va_MetW (cc := cL_rule) (maxL := 7) (ret := (some .int)) (hh := [(0, 14, 17, 13), (0, 14, 21, 15)]) (by decide +kernel) rfl ?_
  intro p e s m args below meth c s₁ B hml hv
  obtain ⟨ha, hP, hK, hD, hN, hE, hC⟩ := hv
  have hx := B.exec
  have hb := B.bytes
  have hr := B.returns
  have hlk := B.notSynchronized
  have hts0 := atoms_spec (ws := Cond.codeWith yL_rule cL_rule 7 (some .int) [(0, 14, 17, 13), (0, 14, 21, 15)] :: wsL_law) B.pre
  have hts : ∀ w ∈ wsL_law, w.before args s = true := fun w hw => hts0 w (List.mem_cons_of_mem _ hw)
  have htab := vx_table (x := yL_word) B (hts0 _ List.mem_cons_self)
  have hown : s.vm.findClass RL = some m.cls := findClass_of_methodNamed B.named
  have hW : Wd D A s.heap (outc T ao g ++ (oc_X10 T (ad 0) (bb ad) (x_K 0) ++ (wkL T ad x_K L18 ++ Z))) s.heap [] := ⟨hP, hD, va_S.rf⟩
  have hl := lv_entry [.ref (ad 0 0), .int p1, .int p2, .int p3, .int p4, .ref ao] (n := 7) (Nat.le_of_ble_eq_true rfl)
  refine W.eq (en_eq ha) ?_
  generalize (lg_sl [.ref (ad 0 0), .int p1, .int p2, .int p3, .int p4, .ref ao] ++ List.replicate (7 - (lg_sl [.ref (ad 0 0), .int p1, .int p2, .int p3, .int p4, .ref ao]).length) Slot.unset).toArray = ls at hl ⊢
  have hl : lv_has ls 7 [(0, .ref (ad 0 0)), (1, .int p1), (2, .int p2), (3, .int p3), (4, .int p4), (5, .ref ao)] := hl
  clear hP hD B ha
  change W p l e (rmx 7 0) s m args below meth c s.heap [] 0 0 _ (F0 m 0 ls [])
  refine lv_aload hx hb dL_rule_0 (lv_at hl 5 rfl) ?_
  refine lv_iconst (v := 0) hx hb dL_rule_2 (by decide) ?_
  refine lv_aload_n hx hb dL_rule_3 rfl (lv_at hl 0 rfl) ?_
  refine lv_iload_n hx hb dL_rule_4 rfl (lv_at hl 1 rfl) ?_
  refine lv_iload_n hx hb dL_rule_5 rfl (lv_at hl 2 rfl) ?_
  refine lv_iload_n hx hb dL_rule_6 rfl (lv_at hl 3 rfl) ?_
  refine lv_iload hx hb dL_rule_7 (lv_at hl 4 rfl) ?_
  have hW := hW.perm pf2.symm
  refine x0_vi hx hb hml hown hts hK hN hE hW (g_cw (n := 4) hts wm17_17 wm17_18 wm17_19 wm1_2 wm17_20 ⟨rfl, by decide +kernel, by decide +kernel, by decide +kernel⟩ ⟨rfl, rfl⟩ ⟨Nat.le_of_ble_eq_true rfl, Nat.le_of_ble_eq_true rfl⟩) ⟨10, (RX10, TX10, 13), _, rfl, rfl, rfl⟩ (c_X10_rule l hfl D T A ad hok (outc T ao g ++ Z) x_K p1 p2 p3 p4 0 r x_K9 h) rfl hl.1 rfl (Nat.le_of_ble_eq_true rfl) dL_rule_9 ⟨Nat.zero_le _, Nat.zero_le _⟩ (fun H locs hW => ?_)
  have hW := hW.perm pf2
  refine lv_i2l (v := r.toInt64) hx hb dL_rule_12 rfl ?_
  refine g_last hx hb hK hW dL_rule_13 (fun H locs hW => ?_)
  refine lv_goto (tgt := 25) hx hb dL_rule_14 (by decide) ?_
  refine lv_iconst (v := 0) hx hb dL_rule_25 (by decide) ?_
  exact g_reti hx hb hr hlk hW dL_rule_26
set_option maxHeartbeats 4000000 in
set_option maxRecDepth 100000 in
theorem wL_rule_2 (l : Launch) (hfl : l.stackTraces = false) (D : va_G) (T : Nat → ClassId) (A : Nat → Prop) (ad : Nat → Nat → Nat) (hok : okad ad) (Z : va_W) (ao : Nat) (g : Nat → Int64) (x_K : Nat → Ob) (p1 : Int32) (p2 : Int32) (p3 : Int32) (p4 : Int32) (r : Int32) (x_K9 : Nat → Ob) (h : f_X10_rule x_K p1 p2 p3 p4 = some (2, r, x_K9)) : Met l yL_rule (Cond.codeWith yL_rule cL_rule 7 (some .int) [(0, 14, 17, 13), (0, 14, 21, 15)] :: wsL_law) (rmx 7 2) (Pw D T A (outc T ao g ++ (oc_X10 T (ad 0) (bb ad) (x_K 0) ++ (wkL T ad x_K L18 ++ Z))) [.ref (ad 0 0), .int p1, .int p2, .int p3, .int p4, .ref ao]) (Qgi D A (outc T ao g ++ (oc_X10 T (ad 0) (bb ad) (x_K9 0) ++ (wkL T ad x_K9 L18 ++ Z))) 1) (ex1 2) (ex6 2) A := by
  refine va_MetW (cc := cL_rule) (maxL := 7) (ret := (some .int)) (hh := [(0, 14, 17, 13), (0, 14, 21, 15)]) (by decide +kernel) rfl ?_
  intro p e s m args below meth c s₁ B hml hv
  obtain ⟨ha, hP, hK, hD, hN, hE, hC⟩ := hv
  have hx := B.exec
  have hb := B.bytes
  have hr := B.returns
  have hlk := B.notSynchronized
  have hts0 := atoms_spec (ws := Cond.codeWith yL_rule cL_rule 7 (some .int) [(0, 14, 17, 13), (0, 14, 21, 15)] :: wsL_law) B.pre
  have hts : ∀ w ∈ wsL_law, w.before args s = true := fun w hw => hts0 w (List.mem_cons_of_mem _ hw)
  have htab := vx_table (x := yL_word) B (hts0 _ List.mem_cons_self)
  have hown : s.vm.findClass RL = some m.cls := findClass_of_methodNamed B.named
  have hW : Wd D A s.heap (outc T ao g ++ (oc_X10 T (ad 0) (bb ad) (x_K 0) ++ (wkL T ad x_K L18 ++ Z))) s.heap [] := ⟨hP, hD, va_S.rf⟩
  have hl := lv_entry [.ref (ad 0 0), .int p1, .int p2, .int p3, .int p4, .ref ao] (n := 7) (Nat.le_of_ble_eq_true rfl)
  refine W.eq (en_eq ha) ?_
  generalize (lg_sl [.ref (ad 0 0), .int p1, .int p2, .int p3, .int p4, .ref ao] ++ List.replicate (7 - (lg_sl [.ref (ad 0 0), .int p1, .int p2, .int p3, .int p4, .ref ao]).length) Slot.unset).toArray = ls at hl ⊢
  have hl : lv_has ls 7 [(0, .ref (ad 0 0)), (1, .int p1), (2, .int p2), (3, .int p3), (4, .int p4), (5, .ref ao)] := hl
  clear hP hD B ha
  change W p l e (rmx 7 2) s m args below meth c s.heap [] 0 0 _ (F0 m 0 ls [])
  refine lv_aload hx hb dL_rule_0 (lv_at hl 5 rfl) ?_
  refine lv_iconst (v := 0) hx hb dL_rule_2 (by decide) ?_
  refine lv_aload_n hx hb dL_rule_3 rfl (lv_at hl 0 rfl) ?_
  refine lv_iload_n hx hb dL_rule_4 rfl (lv_at hl 1 rfl) ?_
  refine lv_iload_n hx hb dL_rule_5 rfl (lv_at hl 2 rfl) ?_
  refine lv_iload_n hx hb dL_rule_6 rfl (lv_at hl 3 rfl) ?_
  refine lv_iload hx hb dL_rule_7 (lv_at hl 4 rfl) ?_
  have hW := hW.perm pf2.symm
  refine xc_vi (by decide) hx hb hml hown hts hK hN hE hW (g_cw (n := 4) hts wm17_17 wm17_18 wm17_19 wm1_2 wm17_20 ⟨rfl, by decide +kernel, by decide +kernel, by decide +kernel⟩ ⟨rfl, rfl⟩ ⟨Nat.le_of_ble_eq_true rfl, Nat.le_of_ble_eq_true rfl⟩) ⟨10, (RX10, TX10, 13), _, rfl, rfl, rfl⟩ (c_X10_rule l hfl D T A ad hok (outc T ao g ++ Z) x_K p1 p2 p3 p4 2 r x_K9 h) rfl hl.1 rfl (Nat.le_of_ble_eq_true rfl) dL_rule_9 ⟨Nat.le_of_ble_eq_true rfl, Nat.le_of_ble_eq_true rfl⟩ (fun ce q9 H locs hW hce hcv hcl => ?_)
  have hW := hW.perm pf2
  refine vx_catch hown [] ⟨0, 14, 17, 13⟩ [⟨0, 14, 21, 15⟩] (htab.trans rfl) (fun z hz => absurd hz List.not_mem_nil) (by decide) (by decide) (hts _ wm10_0) (va_Nw.use rfl (hE.2.2.1 (exN 2) (by decide))) hce hcv hcl ?_
  refine lv_astore (lv' := [(6, .ref q9), (0, .ref (ad 0 0)), (1, .int p1), (2, .int p2), (3, .int p3), (4, .int p4), (5, .ref ao)]) hx hb dL_rule_17 hl (by decide) rfl (fun ls hl => ?_)
  refine lv_iconst (v := 1) hx hb dL_rule_19 (by decide) ?_
  exact g_reti hx hb hr hlk hW dL_rule_20
set_option maxHeartbeats 4000000 in
set_option maxRecDepth 100000 in
theorem wL_rule_3 (l : Launch) (hfl : l.stackTraces = false) (D : va_G) (T : Nat → ClassId) (A : Nat → Prop) (ad : Nat → Nat → Nat) (hok : okad ad) (Z : va_W) (ao : Nat) (g : Nat → Int64) (x_K : Nat → Ob) (p1 : Int32) (p2 : Int32) (p3 : Int32) (p4 : Int32) (r : Int32) (x_K9 : Nat → Ob) (h : f_X10_rule x_K p1 p2 p3 p4 = some (3, r, x_K9)) : Met l yL_rule (Cond.codeWith yL_rule cL_rule 7 (some .int) [(0, 14, 17, 13), (0, 14, 21, 15)] :: wsL_law) (rmx 7 3) (Pw D T A (outc T ao g ++ (oc_X10 T (ad 0) (bb ad) (x_K 0) ++ (wkL T ad x_K L18 ++ Z))) [.ref (ad 0 0), .int p1, .int p2, .int p3, .int p4, .ref ao]) (Qgi D A (outc T ao g ++ (oc_X10 T (ad 0) (bb ad) (x_K9 0) ++ (wkL T ad x_K9 L18 ++ Z))) 2) (ex1 3) (ex6 3) A := by
  refine va_MetW (cc := cL_rule) (maxL := 7) (ret := (some .int)) (hh := [(0, 14, 17, 13), (0, 14, 21, 15)]) (by decide +kernel) rfl ?_
  intro p e s m args below meth c s₁ B hml hv
  obtain ⟨ha, hP, hK, hD, hN, hE, hC⟩ := hv
  have hx := B.exec
  have hb := B.bytes
  have hr := B.returns
  have hlk := B.notSynchronized
  have hts0 := atoms_spec (ws := Cond.codeWith yL_rule cL_rule 7 (some .int) [(0, 14, 17, 13), (0, 14, 21, 15)] :: wsL_law) B.pre
  have hts : ∀ w ∈ wsL_law, w.before args s = true := fun w hw => hts0 w (List.mem_cons_of_mem _ hw)
  have htab := vx_table (x := yL_word) B (hts0 _ List.mem_cons_self)
  have hown : s.vm.findClass RL = some m.cls := findClass_of_methodNamed B.named
  have hW : Wd D A s.heap (outc T ao g ++ (oc_X10 T (ad 0) (bb ad) (x_K 0) ++ (wkL T ad x_K L18 ++ Z))) s.heap [] := ⟨hP, hD, va_S.rf⟩
  have hl := lv_entry [.ref (ad 0 0), .int p1, .int p2, .int p3, .int p4, .ref ao] (n := 7) (Nat.le_of_ble_eq_true rfl)
  refine W.eq (en_eq ha) ?_
  generalize (lg_sl [.ref (ad 0 0), .int p1, .int p2, .int p3, .int p4, .ref ao] ++ List.replicate (7 - (lg_sl [.ref (ad 0 0), .int p1, .int p2, .int p3, .int p4, .ref ao]).length) Slot.unset).toArray = ls at hl ⊢
  have hl : lv_has ls 7 [(0, .ref (ad 0 0)), (1, .int p1), (2, .int p2), (3, .int p3), (4, .int p4), (5, .ref ao)] := hl
  clear hP hD B ha
  change W p l e (rmx 7 3) s m args below meth c s.heap [] 0 0 _ (F0 m 0 ls [])
  refine lv_aload hx hb dL_rule_0 (lv_at hl 5 rfl) ?_
  refine lv_iconst (v := 0) hx hb dL_rule_2 (by decide) ?_
  refine lv_aload_n hx hb dL_rule_3 rfl (lv_at hl 0 rfl) ?_
  refine lv_iload_n hx hb dL_rule_4 rfl (lv_at hl 1 rfl) ?_
  refine lv_iload_n hx hb dL_rule_5 rfl (lv_at hl 2 rfl) ?_
  refine lv_iload_n hx hb dL_rule_6 rfl (lv_at hl 3 rfl) ?_
  refine lv_iload hx hb dL_rule_7 (lv_at hl 4 rfl) ?_
  have hW := hW.perm pf2.symm
  refine xc_vi (by decide) hx hb hml hown hts hK hN hE hW (g_cw (n := 4) hts wm17_17 wm17_18 wm17_19 wm1_2 wm17_20 ⟨rfl, by decide +kernel, by decide +kernel, by decide +kernel⟩ ⟨rfl, rfl⟩ ⟨Nat.le_of_ble_eq_true rfl, Nat.le_of_ble_eq_true rfl⟩) ⟨10, (RX10, TX10, 13), _, rfl, rfl, rfl⟩ (c_X10_rule l hfl D T A ad hok (outc T ao g ++ Z) x_K p1 p2 p3 p4 3 r x_K9 h) rfl hl.1 rfl (Nat.le_of_ble_eq_true rfl) dL_rule_9 ⟨Nat.le_of_ble_eq_true rfl, Nat.le_of_ble_eq_true rfl⟩ (fun ce q9 H locs hW hce hcv hcl => ?_)
  have hW := hW.perm pf2
  refine vx_catch hown [⟨0, 14, 17, 13⟩] ⟨0, 14, 21, 15⟩ [] (htab.trans rfl) (fun z hz => by
    simp only [List.mem_cons, List.not_mem_nil, or_false] at hz
    rcases hz with rfl
    · exact Or.inr ⟨by decide, _, hts _ wm10_0, hC _ (List.mem_of_getElem? (i := 0) rfl)⟩) (by decide) (by decide) (hts _ wm10_1) (va_Nw.use rfl (hE.2.2.1 (exN 3) (by decide))) hce hcv hcl ?_
  refine lv_astore (lv' := [(6, .ref q9), (0, .ref (ad 0 0)), (1, .int p1), (2, .int p2), (3, .int p3), (4, .int p4), (5, .ref ao)]) hx hb dL_rule_21 hl (by decide) rfl (fun ls hl => ?_)
  refine lv_iconst (v := 2) hx hb dL_rule_23 (by decide) ?_
  exact g_reti hx hb hr hlk hW dL_rule_24
set_option maxHeartbeats 4000000 in
set_option maxRecDepth 100000 in
theorem wL_equate_0 (l : Launch) (hfl : l.stackTraces = false) (D : va_G) (T : Nat → ClassId) (A : Nat → Prop) (ad : Nat → Nat → Nat) (hok : okad ad) (Z : va_W) (ao : Nat) (g : Nat → Int64) (x_K : Nat → Ob) (p1 : Int32) (p2 : Int32) (p3 : Int32) (p4 : Int32) (p5 : Int32) (r : Int32) (x_K9 : Nat → Ob) (h : f_X10_equate x_K p1 p2 p3 p4 p5 = some (0, r, x_K9)) : Met l yL_equate (Cond.codeWith yL_equate cL_equate 8 (some .int) [(0, 16, 19, 21), (0, 16, 23, 13), (0, 16, 27, 15)] :: wsL_law) (rmx 7 0) (Pw D T A (outc T ao g ++ (oc_X10 T (ad 0) (bb ad) (x_K 0) ++ (wkL T ad x_K L18 ++ Z))) [.ref (ad 0 0), .int p1, .int p2, .int p3, .int p4, .int p5, .ref ao]) (Qgi D A (outc T ao (vp_updL g 0 r.toInt64) ++ (oc_X10 T (ad 0) (bb ad) (x_K9 0) ++ (wkL T ad x_K9 L18 ++ Z))) 0) (ex1 0) (ex6 0) A := by
  refine va_MetW (cc := cL_equate) (maxL := 8) (ret := (some .int)) (hh := [(0, 16, 19, 21), (0, 16, 23, 13), (0, 16, 27, 15)]) (by decide +kernel) rfl ?_
  intro p e s m args below meth c s₁ B hml hv
  obtain ⟨ha, hP, hK, hD, hN, hE, hC⟩ := hv
  have hx := B.exec
  have hb := B.bytes
  have hr := B.returns
  have hlk := B.notSynchronized
  have hts0 := atoms_spec (ws := Cond.codeWith yL_equate cL_equate 8 (some .int) [(0, 16, 19, 21), (0, 16, 23, 13), (0, 16, 27, 15)] :: wsL_law) B.pre
  have hts : ∀ w ∈ wsL_law, w.before args s = true := fun w hw => hts0 w (List.mem_cons_of_mem _ hw)
  have htab := vx_table (x := yL_word) B (hts0 _ List.mem_cons_self)
  have hown : s.vm.findClass RL = some m.cls := findClass_of_methodNamed B.named
  have hW : Wd D A s.heap (outc T ao g ++ (oc_X10 T (ad 0) (bb ad) (x_K 0) ++ (wkL T ad x_K L18 ++ Z))) s.heap [] := ⟨hP, hD, va_S.rf⟩
  have hl := lv_entry [.ref (ad 0 0), .int p1, .int p2, .int p3, .int p4, .int p5, .ref ao] (n := 8) (Nat.le_of_ble_eq_true rfl)
  refine W.eq (en_eq ha) ?_
  generalize (lg_sl [.ref (ad 0 0), .int p1, .int p2, .int p3, .int p4, .int p5, .ref ao] ++ List.replicate (8 - (lg_sl [.ref (ad 0 0), .int p1, .int p2, .int p3, .int p4, .int p5, .ref ao]).length) Slot.unset).toArray = ls at hl ⊢
  have hl : lv_has ls 8 [(0, .ref (ad 0 0)), (1, .int p1), (2, .int p2), (3, .int p3), (4, .int p4), (5, .int p5), (6, .ref ao)] := hl
  clear hP hD B ha
  change W p l e (rmx 7 0) s m args below meth c s.heap [] 0 0 _ (F0 m 0 ls [])
  refine lv_aload hx hb dL_equate_0 (lv_at hl 6 rfl) ?_
  refine lv_iconst (v := 0) hx hb dL_equate_2 (by decide) ?_
  refine lv_aload_n hx hb dL_equate_3 rfl (lv_at hl 0 rfl) ?_
  refine lv_iload_n hx hb dL_equate_4 rfl (lv_at hl 1 rfl) ?_
  refine lv_iload_n hx hb dL_equate_5 rfl (lv_at hl 2 rfl) ?_
  refine lv_iload_n hx hb dL_equate_6 rfl (lv_at hl 3 rfl) ?_
  refine lv_iload hx hb dL_equate_7 (lv_at hl 4 rfl) ?_
  refine lv_iload hx hb dL_equate_9 (lv_at hl 5 rfl) ?_
  have hW := hW.perm pf2.symm
  refine x0_vi hx hb hml hown hts hK hN hE hW (g_cw (n := 5) hts wm19_1 wm19_2 wm19_3 wm1_2 wm19_4 ⟨rfl, by decide +kernel, by decide +kernel, by decide +kernel⟩ ⟨rfl, rfl⟩ ⟨Nat.le_of_ble_eq_true rfl, Nat.le_of_ble_eq_true rfl⟩) ⟨10, (RX10, TX10, 13), _, rfl, rfl, rfl⟩ (c_X10_equate l hfl D T A ad hok (outc T ao g ++ Z) x_K p1 p2 p3 p4 p5 0 r x_K9 h) rfl hl.1 rfl (Nat.le_of_ble_eq_true rfl) dL_equate_11 ⟨Nat.zero_le _, Nat.zero_le _⟩ (fun H locs hW => ?_)
  have hW := hW.perm pf2
  refine lv_i2l (v := r.toInt64) hx hb dL_equate_14 rfl ?_
  refine g_last hx hb hK hW dL_equate_15 (fun H locs hW => ?_)
  refine lv_goto (tgt := 31) hx hb dL_equate_16 (by decide) ?_
  refine lv_iconst (v := 0) hx hb dL_equate_31 (by decide) ?_
  exact g_reti hx hb hr hlk hW dL_equate_32
set_option maxHeartbeats 4000000 in
set_option maxRecDepth 100000 in
theorem wL_equate_1 (l : Launch) (hfl : l.stackTraces = false) (D : va_G) (T : Nat → ClassId) (A : Nat → Prop) (ad : Nat → Nat → Nat) (hok : okad ad) (Z : va_W) (ao : Nat) (g : Nat → Int64) (x_K : Nat → Ob) (p1 : Int32) (p2 : Int32) (p3 : Int32) (p4 : Int32) (p5 : Int32) (r : Int32) (x_K9 : Nat → Ob) (h : f_X10_equate x_K p1 p2 p3 p4 p5 = some (1, r, x_K9)) : Met l yL_equate (Cond.codeWith yL_equate cL_equate 8 (some .int) [(0, 16, 19, 21), (0, 16, 23, 13), (0, 16, 27, 15)] :: wsL_law) (rmx 7 1) (Pw D T A (outc T ao g ++ (oc_X10 T (ad 0) (bb ad) (x_K 0) ++ (wkL T ad x_K L18 ++ Z))) [.ref (ad 0 0), .int p1, .int p2, .int p3, .int p4, .int p5, .ref ao]) (Qgi D A (outc T ao g ++ (oc_X10 T (ad 0) (bb ad) (x_K9 0) ++ (wkL T ad x_K9 L18 ++ Z))) 1) (ex1 1) (ex6 1) A := by
  refine va_MetW (cc := cL_equate) (maxL := 8) (ret := (some .int)) (hh := [(0, 16, 19, 21), (0, 16, 23, 13), (0, 16, 27, 15)]) (by decide +kernel) rfl ?_
  intro p e s m args below meth c s₁ B hml hv
  obtain ⟨ha, hP, hK, hD, hN, hE, hC⟩ := hv
  have hx := B.exec
  have hb := B.bytes
  have hr := B.returns
  have hlk := B.notSynchronized
  have hts0 := atoms_spec (ws := Cond.codeWith yL_equate cL_equate 8 (some .int) [(0, 16, 19, 21), (0, 16, 23, 13), (0, 16, 27, 15)] :: wsL_law) B.pre
  have hts : ∀ w ∈ wsL_law, w.before args s = true := fun w hw => hts0 w (List.mem_cons_of_mem _ hw)
  have htab := vx_table (x := yL_word) B (hts0 _ List.mem_cons_self)
  have hown : s.vm.findClass RL = some m.cls := findClass_of_methodNamed B.named
  have hW : Wd D A s.heap (outc T ao g ++ (oc_X10 T (ad 0) (bb ad) (x_K 0) ++ (wkL T ad x_K L18 ++ Z))) s.heap [] := ⟨hP, hD, va_S.rf⟩
  have hl := lv_entry [.ref (ad 0 0), .int p1, .int p2, .int p3, .int p4, .int p5, .ref ao] (n := 8) (Nat.le_of_ble_eq_true rfl)
  refine W.eq (en_eq ha) ?_
  generalize (lg_sl [.ref (ad 0 0), .int p1, .int p2, .int p3, .int p4, .int p5, .ref ao] ++ List.replicate (8 - (lg_sl [.ref (ad 0 0), .int p1, .int p2, .int p3, .int p4, .int p5, .ref ao]).length) Slot.unset).toArray = ls at hl ⊢
  have hl : lv_has ls 8 [(0, .ref (ad 0 0)), (1, .int p1), (2, .int p2), (3, .int p3), (4, .int p4), (5, .int p5), (6, .ref ao)] := hl
  clear hP hD B ha
  change W p l e (rmx 7 1) s m args below meth c s.heap [] 0 0 _ (F0 m 0 ls [])
  refine lv_aload hx hb dL_equate_0 (lv_at hl 6 rfl) ?_
  refine lv_iconst (v := 0) hx hb dL_equate_2 (by decide) ?_
  refine lv_aload_n hx hb dL_equate_3 rfl (lv_at hl 0 rfl) ?_
  refine lv_iload_n hx hb dL_equate_4 rfl (lv_at hl 1 rfl) ?_
  refine lv_iload_n hx hb dL_equate_5 rfl (lv_at hl 2 rfl) ?_
  refine lv_iload_n hx hb dL_equate_6 rfl (lv_at hl 3 rfl) ?_
  refine lv_iload hx hb dL_equate_7 (lv_at hl 4 rfl) ?_
  refine lv_iload hx hb dL_equate_9 (lv_at hl 5 rfl) ?_
  have hW := hW.perm pf2.symm
  refine xc_vi (by decide) hx hb hml hown hts hK hN hE hW (g_cw (n := 5) hts wm19_1 wm19_2 wm19_3 wm1_2 wm19_4 ⟨rfl, by decide +kernel, by decide +kernel, by decide +kernel⟩ ⟨rfl, rfl⟩ ⟨Nat.le_of_ble_eq_true rfl, Nat.le_of_ble_eq_true rfl⟩) ⟨10, (RX10, TX10, 13), _, rfl, rfl, rfl⟩ (c_X10_equate l hfl D T A ad hok (outc T ao g ++ Z) x_K p1 p2 p3 p4 p5 1 r x_K9 h) rfl hl.1 rfl (Nat.le_of_ble_eq_true rfl) dL_equate_11 ⟨Nat.le_of_ble_eq_true rfl, Nat.le_of_ble_eq_true rfl⟩ (fun ce q9 H locs hW hce hcv hcl => ?_)
  have hW := hW.perm pf2
  refine vx_catch hown [] ⟨0, 16, 19, 21⟩ [⟨0, 16, 23, 13⟩, ⟨0, 16, 27, 15⟩] (htab.trans rfl) (fun z hz => absurd hz List.not_mem_nil) (by decide) (by decide) (hts _ wm11_20) (va_Nw.use rfl (hE.2.2.1 (exN 1) (by decide))) hce hcv hcl ?_
  refine lv_astore (lv' := [(7, .ref q9), (0, .ref (ad 0 0)), (1, .int p1), (2, .int p2), (3, .int p3), (4, .int p4), (5, .int p5), (6, .ref ao)]) hx hb dL_equate_19 hl (by decide) rfl (fun ls hl => ?_)
  refine lv_iconst (v := 1) hx hb dL_equate_21 (by decide) ?_
  exact g_reti hx hb hr hlk hW dL_equate_22
set_option maxHeartbeats 4000000 in
set_option maxRecDepth 100000 in
theorem wL_equate_2 (l : Launch) (hfl : l.stackTraces = false) (D : va_G) (T : Nat → ClassId) (A : Nat → Prop) (ad : Nat → Nat → Nat) (hok : okad ad) (Z : va_W) (ao : Nat) (g : Nat → Int64) (x_K : Nat → Ob) (p1 : Int32) (p2 : Int32) (p3 : Int32) (p4 : Int32) (p5 : Int32) (r : Int32) (x_K9 : Nat → Ob) (h : f_X10_equate x_K p1 p2 p3 p4 p5 = some (2, r, x_K9)) : Met l yL_equate (Cond.codeWith yL_equate cL_equate 8 (some .int) [(0, 16, 19, 21), (0, 16, 23, 13), (0, 16, 27, 15)] :: wsL_law) (rmx 7 2) (Pw D T A (outc T ao g ++ (oc_X10 T (ad 0) (bb ad) (x_K 0) ++ (wkL T ad x_K L18 ++ Z))) [.ref (ad 0 0), .int p1, .int p2, .int p3, .int p4, .int p5, .ref ao]) (Qgi D A (outc T ao g ++ (oc_X10 T (ad 0) (bb ad) (x_K9 0) ++ (wkL T ad x_K9 L18 ++ Z))) 2) (ex1 2) (ex6 2) A := by
  refine va_MetW (cc := cL_equate) (maxL := 8) (ret := (some .int)) (hh := [(0, 16, 19, 21), (0, 16, 23, 13), (0, 16, 27, 15)]) (by decide +kernel) rfl ?_
  intro p e s m args below meth c s₁ B hml hv
  obtain ⟨ha, hP, hK, hD, hN, hE, hC⟩ := hv
  have hx := B.exec
  have hb := B.bytes
  have hr := B.returns
  have hlk := B.notSynchronized
  have hts0 := atoms_spec (ws := Cond.codeWith yL_equate cL_equate 8 (some .int) [(0, 16, 19, 21), (0, 16, 23, 13), (0, 16, 27, 15)] :: wsL_law) B.pre
  have hts : ∀ w ∈ wsL_law, w.before args s = true := fun w hw => hts0 w (List.mem_cons_of_mem _ hw)
  have htab := vx_table (x := yL_word) B (hts0 _ List.mem_cons_self)
  have hown : s.vm.findClass RL = some m.cls := findClass_of_methodNamed B.named
  have hW : Wd D A s.heap (outc T ao g ++ (oc_X10 T (ad 0) (bb ad) (x_K 0) ++ (wkL T ad x_K L18 ++ Z))) s.heap [] := ⟨hP, hD, va_S.rf⟩
  have hl := lv_entry [.ref (ad 0 0), .int p1, .int p2, .int p3, .int p4, .int p5, .ref ao] (n := 8) (Nat.le_of_ble_eq_true rfl)
  refine W.eq (en_eq ha) ?_
  generalize (lg_sl [.ref (ad 0 0), .int p1, .int p2, .int p3, .int p4, .int p5, .ref ao] ++ List.replicate (8 - (lg_sl [.ref (ad 0 0), .int p1, .int p2, .int p3, .int p4, .int p5, .ref ao]).length) Slot.unset).toArray = ls at hl ⊢
  have hl : lv_has ls 8 [(0, .ref (ad 0 0)), (1, .int p1), (2, .int p2), (3, .int p3), (4, .int p4), (5, .int p5), (6, .ref ao)] := hl
  clear hP hD B ha
  change W p l e (rmx 7 2) s m args below meth c s.heap [] 0 0 _ (F0 m 0 ls [])
  refine lv_aload hx hb dL_equate_0 (lv_at hl 6 rfl) ?_
  refine lv_iconst (v := 0) hx hb dL_equate_2 (by decide) ?_
  refine lv_aload_n hx hb dL_equate_3 rfl (lv_at hl 0 rfl) ?_
  refine lv_iload_n hx hb dL_equate_4 rfl (lv_at hl 1 rfl) ?_
  refine lv_iload_n hx hb dL_equate_5 rfl (lv_at hl 2 rfl) ?_
  refine lv_iload_n hx hb dL_equate_6 rfl (lv_at hl 3 rfl) ?_
  refine lv_iload hx hb dL_equate_7 (lv_at hl 4 rfl) ?_
  refine lv_iload hx hb dL_equate_9 (lv_at hl 5 rfl) ?_
  have hW := hW.perm pf2.symm
  refine xc_vi (by decide) hx hb hml hown hts hK hN hE hW (g_cw (n := 5) hts wm19_1 wm19_2 wm19_3 wm1_2 wm19_4 ⟨rfl, by decide +kernel, by decide +kernel, by decide +kernel⟩ ⟨rfl, rfl⟩ ⟨Nat.le_of_ble_eq_true rfl, Nat.le_of_ble_eq_true rfl⟩) ⟨10, (RX10, TX10, 13), _, rfl, rfl, rfl⟩ (c_X10_equate l hfl D T A ad hok (outc T ao g ++ Z) x_K p1 p2 p3 p4 p5 2 r x_K9 h) rfl hl.1 rfl (Nat.le_of_ble_eq_true rfl) dL_equate_11 ⟨Nat.le_of_ble_eq_true rfl, Nat.le_of_ble_eq_true rfl⟩ (fun ce q9 H locs hW hce hcv hcl => ?_)
  have hW := hW.perm pf2
  refine vx_catch hown [⟨0, 16, 19, 21⟩] ⟨0, 16, 23, 13⟩ [⟨0, 16, 27, 15⟩] (htab.trans rfl) (fun z hz => by
    simp only [List.mem_cons, List.not_mem_nil, or_false] at hz
    rcases hz with rfl
    · exact Or.inr ⟨by decide, _, hts _ wm11_20, hC _ (List.mem_of_getElem? (i := 1) rfl)⟩) (by decide) (by decide) (hts _ wm10_0) (va_Nw.use rfl (hE.2.2.1 (exN 2) (by decide))) hce hcv hcl ?_
  refine lv_astore (lv' := [(7, .ref q9), (0, .ref (ad 0 0)), (1, .int p1), (2, .int p2), (3, .int p3), (4, .int p4), (5, .int p5), (6, .ref ao)]) hx hb dL_equate_23 hl (by decide) rfl (fun ls hl => ?_)
  refine lv_iconst (v := 2) hx hb dL_equate_25 (by decide) ?_
  exact g_reti hx hb hr hlk hW dL_equate_26
set_option maxHeartbeats 4000000 in
set_option maxRecDepth 100000 in
theorem wL_equate_3 (l : Launch) (hfl : l.stackTraces = false) (D : va_G) (T : Nat → ClassId) (A : Nat → Prop) (ad : Nat → Nat → Nat) (hok : okad ad) (Z : va_W) (ao : Nat) (g : Nat → Int64) (x_K : Nat → Ob) (p1 : Int32) (p2 : Int32) (p3 : Int32) (p4 : Int32) (p5 : Int32) (r : Int32) (x_K9 : Nat → Ob) (h : f_X10_equate x_K p1 p2 p3 p4 p5 = some (3, r, x_K9)) : Met l yL_equate (Cond.codeWith yL_equate cL_equate 8 (some .int) [(0, 16, 19, 21), (0, 16, 23, 13), (0, 16, 27, 15)] :: wsL_law) (rmx 7 3) (Pw D T A (outc T ao g ++ (oc_X10 T (ad 0) (bb ad) (x_K 0) ++ (wkL T ad x_K L18 ++ Z))) [.ref (ad 0 0), .int p1, .int p2, .int p3, .int p4, .int p5, .ref ao]) (Qgi D A (outc T ao g ++ (oc_X10 T (ad 0) (bb ad) (x_K9 0) ++ (wkL T ad x_K9 L18 ++ Z))) 3) (ex1 3) (ex6 3) A := by
  refine va_MetW (cc := cL_equate) (maxL := 8) (ret := (some .int)) (hh := [(0, 16, 19, 21), (0, 16, 23, 13), (0, 16, 27, 15)]) (by decide +kernel) rfl ?_
  intro p e s m args below meth c s₁ B hml hv
  obtain ⟨ha, hP, hK, hD, hN, hE, hC⟩ := hv
  have hx := B.exec
  have hb := B.bytes
  have hr := B.returns
  have hlk := B.notSynchronized
  have hts0 := atoms_spec (ws := Cond.codeWith yL_equate cL_equate 8 (some .int) [(0, 16, 19, 21), (0, 16, 23, 13), (0, 16, 27, 15)] :: wsL_law) B.pre
  have hts : ∀ w ∈ wsL_law, w.before args s = true := fun w hw => hts0 w (List.mem_cons_of_mem _ hw)
  have htab := vx_table (x := yL_word) B (hts0 _ List.mem_cons_self)
  have hown : s.vm.findClass RL = some m.cls := findClass_of_methodNamed B.named
  have hW : Wd D A s.heap (outc T ao g ++ (oc_X10 T (ad 0) (bb ad) (x_K 0) ++ (wkL T ad x_K L18 ++ Z))) s.heap [] := ⟨hP, hD, va_S.rf⟩
  have hl := lv_entry [.ref (ad 0 0), .int p1, .int p2, .int p3, .int p4, .int p5, .ref ao] (n := 8) (Nat.le_of_ble_eq_true rfl)
  refine W.eq (en_eq ha) ?_
  generalize (lg_sl [.ref (ad 0 0), .int p1, .int p2, .int p3, .int p4, .int p5, .ref ao] ++ List.replicate (8 - (lg_sl [.ref (ad 0 0), .int p1, .int p2, .int p3, .int p4, .int p5, .ref ao]).length) Slot.unset).toArray = ls at hl ⊢
  have hl : lv_has ls 8 [(0, .ref (ad 0 0)), (1, .int p1), (2, .int p2), (3, .int p3), (4, .int p4), (5, .int p5), (6, .ref ao)] := hl
  clear hP hD B ha
  change W p l e (rmx 7 3) s m args below meth c s.heap [] 0 0 _ (F0 m 0 ls [])
  refine lv_aload hx hb dL_equate_0 (lv_at hl 6 rfl) ?_
  refine lv_iconst (v := 0) hx hb dL_equate_2 (by decide) ?_
  refine lv_aload_n hx hb dL_equate_3 rfl (lv_at hl 0 rfl) ?_
  refine lv_iload_n hx hb dL_equate_4 rfl (lv_at hl 1 rfl) ?_
  refine lv_iload_n hx hb dL_equate_5 rfl (lv_at hl 2 rfl) ?_
  refine lv_iload_n hx hb dL_equate_6 rfl (lv_at hl 3 rfl) ?_
  refine lv_iload hx hb dL_equate_7 (lv_at hl 4 rfl) ?_
  refine lv_iload hx hb dL_equate_9 (lv_at hl 5 rfl) ?_
  have hW := hW.perm pf2.symm
  refine xc_vi (by decide) hx hb hml hown hts hK hN hE hW (g_cw (n := 5) hts wm19_1 wm19_2 wm19_3 wm1_2 wm19_4 ⟨rfl, by decide +kernel, by decide +kernel, by decide +kernel⟩ ⟨rfl, rfl⟩ ⟨Nat.le_of_ble_eq_true rfl, Nat.le_of_ble_eq_true rfl⟩) ⟨10, (RX10, TX10, 13), _, rfl, rfl, rfl⟩ (c_X10_equate l hfl D T A ad hok (outc T ao g ++ Z) x_K p1 p2 p3 p4 p5 3 r x_K9 h) rfl hl.1 rfl (Nat.le_of_ble_eq_true rfl) dL_equate_11 ⟨Nat.le_of_ble_eq_true rfl, Nat.le_of_ble_eq_true rfl⟩ (fun ce q9 H locs hW hce hcv hcl => ?_)
  have hW := hW.perm pf2
  refine vx_catch hown [⟨0, 16, 19, 21⟩, ⟨0, 16, 23, 13⟩] ⟨0, 16, 27, 15⟩ [] (htab.trans rfl) (fun z hz => by
    simp only [List.mem_cons, List.not_mem_nil, or_false] at hz
    rcases hz with rfl | rfl
    · exact Or.inr ⟨by decide, _, hts _ wm11_20, hC _ (List.mem_of_getElem? (i := 2) rfl)⟩
    · exact Or.inr ⟨by decide, _, hts _ wm10_0, hC _ (List.mem_of_getElem? (i := 0) rfl)⟩) (by decide) (by decide) (hts _ wm10_1) (va_Nw.use rfl (hE.2.2.1 (exN 3) (by decide))) hce hcv hcl ?_
  refine lv_astore (lv' := [(7, .ref q9), (0, .ref (ad 0 0)), (1, .int p1), (2, .int p2), (3, .int p3), (4, .int p4), (5, .int p5), (6, .ref ao)]) hx hb dL_equate_27 hl (by decide) rfl (fun ls hl => ?_)
  refine lv_iconst (v := 3) hx hb dL_equate_29 (by decide) ?_
  exact g_reti hx hb hr hlk hW dL_equate_30
set_option maxHeartbeats 4000000 in
set_option maxRecDepth 100000 in
theorem wL_append_0 (l : Launch) (hfl : l.stackTraces = false) (D : va_G) (T : Nat → ClassId) (A : Nat → Prop) (ad : Nat → Nat → Nat) (hok : okad ad) (Z : va_W) (ao : Nat) (g : Nat → Int64) (x_K : Nat → Ob) (p1 : Int32) (p2 : Int32) (r : Int32) (x_K9 : Nat → Ob) (h : f_X10_append x_K p1 p2 = some (0, r, x_K9)) : Met l yL_append (Cond.codeWith yL_append cL_append 5 (some .int) [(0, 10, 13, 21), (0, 10, 17, 15)] :: wsL_law) (rmx 8 0) (Pw D T A (outc T ao g ++ (oc_X10 T (ad 0) (bb ad) (x_K 0) ++ (wkL T ad x_K L18 ++ Z))) [.ref (ad 0 0), .int p1, .int p2, .ref ao]) (Qgi D A (outc T ao (vp_updL g 0 r.toInt64) ++ (oc_X10 T (ad 0) (bb ad) (x_K9 0) ++ (wkL T ad x_K9 L18 ++ Z))) 0) (ex1 0) (ex6 0) A := by
  refine va_MetW (cc := cL_append) (maxL := 5) (ret := (some .int)) (hh := [(0, 10, 13, 21), (0, 10, 17, 15)]) (by decide +kernel) rfl ?_
  intro p e s m args below meth c s₁ B hml hv
  obtain ⟨ha, hP, hK, hD, hN, hE, hC⟩ := hv
  have hx := B.exec
  have hb := B.bytes
  have hr := B.returns
  have hlk := B.notSynchronized
  have hts0 := atoms_spec (ws := Cond.codeWith yL_append cL_append 5 (some .int) [(0, 10, 13, 21), (0, 10, 17, 15)] :: wsL_law) B.pre
  have hts : ∀ w ∈ wsL_law, w.before args s = true := fun w hw => hts0 w (List.mem_cons_of_mem _ hw)
  have htab := vx_table (x := yL_word) B (hts0 _ List.mem_cons_self)
  have hown : s.vm.findClass RL = some m.cls := findClass_of_methodNamed B.named
  have hW : Wd D A s.heap (outc T ao g ++ (oc_X10 T (ad 0) (bb ad) (x_K 0) ++ (wkL T ad x_K L18 ++ Z))) s.heap [] := ⟨hP, hD, va_S.rf⟩
  have hl := lv_entry [.ref (ad 0 0), .int p1, .int p2, .ref ao] (n := 5) (Nat.le_of_ble_eq_true rfl)
  refine W.eq (en_eq ha) ?_
  generalize (lg_sl [.ref (ad 0 0), .int p1, .int p2, .ref ao] ++ List.replicate (5 - (lg_sl [.ref (ad 0 0), .int p1, .int p2, .ref ao]).length) Slot.unset).toArray = ls at hl ⊢
  have hl : lv_has ls 5 [(0, .ref (ad 0 0)), (1, .int p1), (2, .int p2), (3, .ref ao)] := hl
  clear hP hD B ha
  change W p l e (rmx 8 0) s m args below meth c s.heap [] 0 0 _ (F0 m 0 ls [])
  refine lv_aload_n hx hb dL_append_0 rfl (lv_at hl 3 rfl) ?_
  refine lv_iconst (v := 0) hx hb dL_append_1 (by decide) ?_
  refine lv_aload_n hx hb dL_append_2 rfl (lv_at hl 0 rfl) ?_
  refine lv_iload_n hx hb dL_append_3 rfl (lv_at hl 1 rfl) ?_
  refine lv_iload_n hx hb dL_append_4 rfl (lv_at hl 2 rfl) ?_
  have hW := hW.perm pf2.symm
  refine x0_vi hx hb hml hown hts hK hN hE hW (g_cw (n := 2) hts wm20_6 wm20_7 wm20_8 wm1_2 wm20_9 ⟨rfl, by decide +kernel, by decide +kernel, by decide +kernel⟩ ⟨rfl, rfl⟩ ⟨Nat.le_of_ble_eq_true rfl, Nat.le_of_ble_eq_true rfl⟩) ⟨10, (RX10, TX10, 13), _, rfl, rfl, rfl⟩ (c_X10_append l hfl D T A ad hok (outc T ao g ++ Z) x_K p1 p2 0 r x_K9 h) rfl hl.1 rfl (Nat.le_of_ble_eq_true rfl) dL_append_5 ⟨Nat.zero_le _, Nat.zero_le _⟩ (fun H locs hW => ?_)
  have hW := hW.perm pf2
  refine lv_i2l (v := r.toInt64) hx hb dL_append_8 rfl ?_
  refine g_last hx hb hK hW dL_append_9 (fun H locs hW => ?_)
  refine lv_goto (tgt := 21) hx hb dL_append_10 (by decide) ?_
  refine lv_iconst (v := 0) hx hb dL_append_21 (by decide) ?_
  exact g_reti hx hb hr hlk hW dL_append_22
set_option maxHeartbeats 4000000 in
set_option maxRecDepth 100000 in
theorem wL_append_1 (l : Launch) (hfl : l.stackTraces = false) (D : va_G) (T : Nat → ClassId) (A : Nat → Prop) (ad : Nat → Nat → Nat) (hok : okad ad) (Z : va_W) (ao : Nat) (g : Nat → Int64) (x_K : Nat → Ob) (p1 : Int32) (p2 : Int32) (r : Int32) (x_K9 : Nat → Ob) (h : f_X10_append x_K p1 p2 = some (1, r, x_K9)) : Met l yL_append (Cond.codeWith yL_append cL_append 5 (some .int) [(0, 10, 13, 21), (0, 10, 17, 15)] :: wsL_law) (rmx 8 1) (Pw D T A (outc T ao g ++ (oc_X10 T (ad 0) (bb ad) (x_K 0) ++ (wkL T ad x_K L18 ++ Z))) [.ref (ad 0 0), .int p1, .int p2, .ref ao]) (Qgi D A (outc T ao g ++ (oc_X10 T (ad 0) (bb ad) (x_K9 0) ++ (wkL T ad x_K9 L18 ++ Z))) 1) (ex1 1) (ex6 1) A := by
  refine va_MetW (cc := cL_append) (maxL := 5) (ret := (some .int)) (hh := [(0, 10, 13, 21), (0, 10, 17, 15)]) (by decide +kernel) rfl ?_
  intro p e s m args below meth c s₁ B hml hv
  obtain ⟨ha, hP, hK, hD, hN, hE, hC⟩ := hv
  have hx := B.exec
  have hb := B.bytes
  have hr := B.returns
  have hlk := B.notSynchronized
  have hts0 := atoms_spec (ws := Cond.codeWith yL_append cL_append 5 (some .int) [(0, 10, 13, 21), (0, 10, 17, 15)] :: wsL_law) B.pre
  have hts : ∀ w ∈ wsL_law, w.before args s = true := fun w hw => hts0 w (List.mem_cons_of_mem _ hw)
  have htab := vx_table (x := yL_word) B (hts0 _ List.mem_cons_self)
  have hown : s.vm.findClass RL = some m.cls := findClass_of_methodNamed B.named
  have hW : Wd D A s.heap (outc T ao g ++ (oc_X10 T (ad 0) (bb ad) (x_K 0) ++ (wkL T ad x_K L18 ++ Z))) s.heap [] := ⟨hP, hD, va_S.rf⟩
  have hl := lv_entry [.ref (ad 0 0), .int p1, .int p2, .ref ao] (n := 5) (Nat.le_of_ble_eq_true rfl)
  refine W.eq (en_eq ha) ?_
  generalize (lg_sl [.ref (ad 0 0), .int p1, .int p2, .ref ao] ++ List.replicate (5 - (lg_sl [.ref (ad 0 0), .int p1, .int p2, .ref ao]).length) Slot.unset).toArray = ls at hl ⊢
  have hl : lv_has ls 5 [(0, .ref (ad 0 0)), (1, .int p1), (2, .int p2), (3, .ref ao)] := hl
  clear hP hD B ha
  change W p l e (rmx 8 1) s m args below meth c s.heap [] 0 0 _ (F0 m 0 ls [])
  refine lv_aload_n hx hb dL_append_0 rfl (lv_at hl 3 rfl) ?_
  refine lv_iconst (v := 0) hx hb dL_append_1 (by decide) ?_
  refine lv_aload_n hx hb dL_append_2 rfl (lv_at hl 0 rfl) ?_
  refine lv_iload_n hx hb dL_append_3 rfl (lv_at hl 1 rfl) ?_
  refine lv_iload_n hx hb dL_append_4 rfl (lv_at hl 2 rfl) ?_
  have hW := hW.perm pf2.symm
  refine xc_vi (by decide) hx hb hml hown hts hK hN hE hW (g_cw (n := 2) hts wm20_6 wm20_7 wm20_8 wm1_2 wm20_9 ⟨rfl, by decide +kernel, by decide +kernel, by decide +kernel⟩ ⟨rfl, rfl⟩ ⟨Nat.le_of_ble_eq_true rfl, Nat.le_of_ble_eq_true rfl⟩) ⟨10, (RX10, TX10, 13), _, rfl, rfl, rfl⟩ (c_X10_append l hfl D T A ad hok (outc T ao g ++ Z) x_K p1 p2 1 r x_K9 h) rfl hl.1 rfl (Nat.le_of_ble_eq_true rfl) dL_append_5 ⟨Nat.le_of_ble_eq_true rfl, Nat.le_of_ble_eq_true rfl⟩ (fun ce q9 H locs hW hce hcv hcl => ?_)
  have hW := hW.perm pf2
  refine vx_catch hown [] ⟨0, 10, 13, 21⟩ [⟨0, 10, 17, 15⟩] (htab.trans rfl) (fun z hz => absurd hz List.not_mem_nil) (by decide) (by decide) (hts _ wm11_20) (va_Nw.use rfl (hE.2.2.1 (exN 1) (by decide))) hce hcv hcl ?_
  refine lv_astore (lv' := [(4, .ref q9), (0, .ref (ad 0 0)), (1, .int p1), (2, .int p2), (3, .ref ao)]) hx hb dL_append_13 hl (by decide) rfl (fun ls hl => ?_)
  refine lv_iconst (v := 1) hx hb dL_append_15 (by decide) ?_
  exact g_reti hx hb hr hlk hW dL_append_16
set_option maxHeartbeats 4000000 in
set_option maxRecDepth 100000 in
theorem wL_append_3 (l : Launch) (hfl : l.stackTraces = false) (D : va_G) (T : Nat → ClassId) (A : Nat → Prop) (ad : Nat → Nat → Nat) (hok : okad ad) (Z : va_W) (ao : Nat) (g : Nat → Int64) (x_K : Nat → Ob) (p1 : Int32) (p2 : Int32) (r : Int32) (x_K9 : Nat → Ob) (h : f_X10_append x_K p1 p2 = some (3, r, x_K9)) : Met l yL_append (Cond.codeWith yL_append cL_append 5 (some .int) [(0, 10, 13, 21), (0, 10, 17, 15)] :: wsL_law) (rmx 8 3) (Pw D T A (outc T ao g ++ (oc_X10 T (ad 0) (bb ad) (x_K 0) ++ (wkL T ad x_K L18 ++ Z))) [.ref (ad 0 0), .int p1, .int p2, .ref ao]) (Qgi D A (outc T ao g ++ (oc_X10 T (ad 0) (bb ad) (x_K9 0) ++ (wkL T ad x_K9 L18 ++ Z))) 2) (ex1 3) (ex6 3) A := by
  refine va_MetW (cc := cL_append) (maxL := 5) (ret := (some .int)) (hh := [(0, 10, 13, 21), (0, 10, 17, 15)]) (by decide +kernel) rfl ?_
  intro p e s m args below meth c s₁ B hml hv
  obtain ⟨ha, hP, hK, hD, hN, hE, hC⟩ := hv
  have hx := B.exec
  have hb := B.bytes
  have hr := B.returns
  have hlk := B.notSynchronized
  have hts0 := atoms_spec (ws := Cond.codeWith yL_append cL_append 5 (some .int) [(0, 10, 13, 21), (0, 10, 17, 15)] :: wsL_law) B.pre
  have hts : ∀ w ∈ wsL_law, w.before args s = true := fun w hw => hts0 w (List.mem_cons_of_mem _ hw)
  have htab := vx_table (x := yL_word) B (hts0 _ List.mem_cons_self)
  have hown : s.vm.findClass RL = some m.cls := findClass_of_methodNamed B.named
  have hW : Wd D A s.heap (outc T ao g ++ (oc_X10 T (ad 0) (bb ad) (x_K 0) ++ (wkL T ad x_K L18 ++ Z))) s.heap [] := ⟨hP, hD, va_S.rf⟩
  have hl := lv_entry [.ref (ad 0 0), .int p1, .int p2, .ref ao] (n := 5) (Nat.le_of_ble_eq_true rfl)
  refine W.eq (en_eq ha) ?_
  generalize (lg_sl [.ref (ad 0 0), .int p1, .int p2, .ref ao] ++ List.replicate (5 - (lg_sl [.ref (ad 0 0), .int p1, .int p2, .ref ao]).length) Slot.unset).toArray = ls at hl ⊢
  have hl : lv_has ls 5 [(0, .ref (ad 0 0)), (1, .int p1), (2, .int p2), (3, .ref ao)] := hl
  clear hP hD B ha
  change W p l e (rmx 8 3) s m args below meth c s.heap [] 0 0 _ (F0 m 0 ls [])
  refine lv_aload_n hx hb dL_append_0 rfl (lv_at hl 3 rfl) ?_
  refine lv_iconst (v := 0) hx hb dL_append_1 (by decide) ?_
  refine lv_aload_n hx hb dL_append_2 rfl (lv_at hl 0 rfl) ?_
  refine lv_iload_n hx hb dL_append_3 rfl (lv_at hl 1 rfl) ?_
  refine lv_iload_n hx hb dL_append_4 rfl (lv_at hl 2 rfl) ?_
  have hW := hW.perm pf2.symm
  refine xc_vi (by decide) hx hb hml hown hts hK hN hE hW (g_cw (n := 2) hts wm20_6 wm20_7 wm20_8 wm1_2 wm20_9 ⟨rfl, by decide +kernel, by decide +kernel, by decide +kernel⟩ ⟨rfl, rfl⟩ ⟨Nat.le_of_ble_eq_true rfl, Nat.le_of_ble_eq_true rfl⟩) ⟨10, (RX10, TX10, 13), _, rfl, rfl, rfl⟩ (c_X10_append l hfl D T A ad hok (outc T ao g ++ Z) x_K p1 p2 3 r x_K9 h) rfl hl.1 rfl (Nat.le_of_ble_eq_true rfl) dL_append_5 ⟨Nat.le_of_ble_eq_true rfl, Nat.le_of_ble_eq_true rfl⟩ (fun ce q9 H locs hW hce hcv hcl => ?_)
  have hW := hW.perm pf2
  refine vx_catch hown [⟨0, 10, 13, 21⟩] ⟨0, 10, 17, 15⟩ [] (htab.trans rfl) (fun z hz => by
    simp only [List.mem_cons, List.not_mem_nil, or_false] at hz
    rcases hz with rfl
    · exact Or.inr ⟨by decide, _, hts _ wm11_20, hC _ (List.mem_of_getElem? (i := 2) rfl)⟩) (by decide) (by decide) (hts _ wm10_1) (va_Nw.use rfl (hE.2.2.1 (exN 3) (by decide))) hce hcv hcl ?_
  refine lv_astore (lv' := [(4, .ref q9), (0, .ref (ad 0 0)), (1, .int p1), (2, .int p2), (3, .ref ao)]) hx hb dL_append_17 hl (by decide) rfl (fun ls hl => ?_)
  refine lv_iconst (v := 2) hx hb dL_append_19 (by decide) ?_
  exact g_reti hx hb hr hlk hW dL_append_20
set_option maxHeartbeats 4000000 in
set_option maxRecDepth 100000 in
theorem wL_change_0 (l : Launch) (hfl : l.stackTraces = false) (D : va_G) (T : Nat → ClassId) (A : Nat → Prop) (ad : Nat → Nat → Nat) (hok : okad ad) (Z : va_W) (ao : Nat) (g : Nat → Int64) (x_K : Nat → Ob) (p1 : Int32) (p2 : Int32) (p3 : Int32) (r : Int32) (x_K9 : Nat → Ob) (h : f_X10_change x_K p1 p2 p3 = some (0, r, x_K9)) : Met l yL_change (Cond.codeWith yL_change cL_change 6 (some .int) [(0, 12, 15, 21)] :: wsL_law) (rmx 8 0) (Pw D T A (outc T ao g ++ (oc_X10 T (ad 0) (bb ad) (x_K 0) ++ (wkL T ad x_K L18 ++ Z))) [.ref (ad 0 0), .int p1, .int p2, .int p3, .ref ao]) (Qgi D A (outc T ao (vp_updL g 0 r.toInt64) ++ (oc_X10 T (ad 0) (bb ad) (x_K9 0) ++ (wkL T ad x_K9 L18 ++ Z))) 0) (ex1 0) (ex6 0) A := by
  refine va_MetW (cc := cL_change) (maxL := 6) (ret := (some .int)) (hh := [(0, 12, 15, 21)]) (by decide +kernel) rfl ?_
  intro p e s m args below meth c s₁ B hml hv
  obtain ⟨ha, hP, hK, hD, hN, hE, hC⟩ := hv
  have hx := B.exec
  have hb := B.bytes
  have hr := B.returns
  have hlk := B.notSynchronized
  have hts0 := atoms_spec (ws := Cond.codeWith yL_change cL_change 6 (some .int) [(0, 12, 15, 21)] :: wsL_law) B.pre
  have hts : ∀ w ∈ wsL_law, w.before args s = true := fun w hw => hts0 w (List.mem_cons_of_mem _ hw)
  have htab := vx_table (x := yL_word) B (hts0 _ List.mem_cons_self)
  have hown : s.vm.findClass RL = some m.cls := findClass_of_methodNamed B.named
  have hW : Wd D A s.heap (outc T ao g ++ (oc_X10 T (ad 0) (bb ad) (x_K 0) ++ (wkL T ad x_K L18 ++ Z))) s.heap [] := ⟨hP, hD, va_S.rf⟩
  have hl := lv_entry [.ref (ad 0 0), .int p1, .int p2, .int p3, .ref ao] (n := 6) (Nat.le_of_ble_eq_true rfl)
  refine W.eq (en_eq ha) ?_
  generalize (lg_sl [.ref (ad 0 0), .int p1, .int p2, .int p3, .ref ao] ++ List.replicate (6 - (lg_sl [.ref (ad 0 0), .int p1, .int p2, .int p3, .ref ao]).length) Slot.unset).toArray = ls at hl ⊢
  have hl : lv_has ls 6 [(0, .ref (ad 0 0)), (1, .int p1), (2, .int p2), (3, .int p3), (4, .ref ao)] := hl
  clear hP hD B ha
  change W p l e (rmx 8 0) s m args below meth c s.heap [] 0 0 _ (F0 m 0 ls [])
  refine lv_aload hx hb dL_change_0 (lv_at hl 4 rfl) ?_
  refine lv_iconst (v := 0) hx hb dL_change_2 (by decide) ?_
  refine lv_aload_n hx hb dL_change_3 rfl (lv_at hl 0 rfl) ?_
  refine lv_iload_n hx hb dL_change_4 rfl (lv_at hl 1 rfl) ?_
  refine lv_iload_n hx hb dL_change_5 rfl (lv_at hl 2 rfl) ?_
  refine lv_iload_n hx hb dL_change_6 rfl (lv_at hl 3 rfl) ?_
  have hW := hW.perm pf2.symm
  refine x0_vi hx hb hml hown hts hK hN hE hW (g_cw (n := 3) hts wm21_8 wm21_9 wm21_10 wm1_2 wm21_11 ⟨rfl, by decide +kernel, by decide +kernel, by decide +kernel⟩ ⟨rfl, rfl⟩ ⟨Nat.le_of_ble_eq_true rfl, Nat.le_of_ble_eq_true rfl⟩) ⟨10, (RX10, TX10, 13), _, rfl, rfl, rfl⟩ (c_X10_change l hfl D T A ad hok (outc T ao g ++ Z) x_K p1 p2 p3 0 r x_K9 h) rfl hl.1 rfl (Nat.le_of_ble_eq_true rfl) dL_change_7 ⟨Nat.zero_le _, Nat.zero_le _⟩ (fun H locs hW => ?_)
  have hW := hW.perm pf2
  refine lv_i2l (v := r.toInt64) hx hb dL_change_10 rfl ?_
  refine g_last hx hb hK hW dL_change_11 (fun H locs hW => ?_)
  refine lv_goto (tgt := 19) hx hb dL_change_12 (by decide) ?_
  refine lv_iconst (v := 0) hx hb dL_change_19 (by decide) ?_
  exact g_reti hx hb hr hlk hW dL_change_20
set_option maxHeartbeats 4000000 in
set_option maxRecDepth 100000 in
theorem wL_change_1 (l : Launch) (hfl : l.stackTraces = false) (D : va_G) (T : Nat → ClassId) (A : Nat → Prop) (ad : Nat → Nat → Nat) (hok : okad ad) (Z : va_W) (ao : Nat) (g : Nat → Int64) (x_K : Nat → Ob) (p1 : Int32) (p2 : Int32) (p3 : Int32) (r : Int32) (x_K9 : Nat → Ob) (h : f_X10_change x_K p1 p2 p3 = some (1, r, x_K9)) : Met l yL_change (Cond.codeWith yL_change cL_change 6 (some .int) [(0, 12, 15, 21)] :: wsL_law) (rmx 8 1) (Pw D T A (outc T ao g ++ (oc_X10 T (ad 0) (bb ad) (x_K 0) ++ (wkL T ad x_K L18 ++ Z))) [.ref (ad 0 0), .int p1, .int p2, .int p3, .ref ao]) (Qgi D A (outc T ao g ++ (oc_X10 T (ad 0) (bb ad) (x_K9 0) ++ (wkL T ad x_K9 L18 ++ Z))) 1) (ex1 1) (ex6 1) A := by
  refine va_MetW (cc := cL_change) (maxL := 6) (ret := (some .int)) (hh := [(0, 12, 15, 21)]) (by decide +kernel) rfl ?_
  intro p e s m args below meth c s₁ B hml hv
  obtain ⟨ha, hP, hK, hD, hN, hE, hC⟩ := hv
  have hx := B.exec
  have hb := B.bytes
  have hr := B.returns
  have hlk := B.notSynchronized
  have hts0 := atoms_spec (ws := Cond.codeWith yL_change cL_change 6 (some .int) [(0, 12, 15, 21)] :: wsL_law) B.pre
  have hts : ∀ w ∈ wsL_law, w.before args s = true := fun w hw => hts0 w (List.mem_cons_of_mem _ hw)
  have htab := vx_table (x := yL_word) B (hts0 _ List.mem_cons_self)
  have hown : s.vm.findClass RL = some m.cls := findClass_of_methodNamed B.named
  have hW : Wd D A s.heap (outc T ao g ++ (oc_X10 T (ad 0) (bb ad) (x_K 0) ++ (wkL T ad x_K L18 ++ Z))) s.heap [] := ⟨hP, hD, va_S.rf⟩
  have hl := lv_entry [.ref (ad 0 0), .int p1, .int p2, .int p3, .ref ao] (n := 6) (Nat.le_of_ble_eq_true rfl)
  refine W.eq (en_eq ha) ?_
  generalize (lg_sl [.ref (ad 0 0), .int p1, .int p2, .int p3, .ref ao] ++ List.replicate (6 - (lg_sl [.ref (ad 0 0), .int p1, .int p2, .int p3, .ref ao]).length) Slot.unset).toArray = ls at hl ⊢
  have hl : lv_has ls 6 [(0, .ref (ad 0 0)), (1, .int p1), (2, .int p2), (3, .int p3), (4, .ref ao)] := hl
  clear hP hD B ha
  change W p l e (rmx 8 1) s m args below meth c s.heap [] 0 0 _ (F0 m 0 ls [])
  refine lv_aload hx hb dL_change_0 (lv_at hl 4 rfl) ?_
  refine lv_iconst (v := 0) hx hb dL_change_2 (by decide) ?_
  refine lv_aload_n hx hb dL_change_3 rfl (lv_at hl 0 rfl) ?_
  refine lv_iload_n hx hb dL_change_4 rfl (lv_at hl 1 rfl) ?_
  refine lv_iload_n hx hb dL_change_5 rfl (lv_at hl 2 rfl) ?_
  refine lv_iload_n hx hb dL_change_6 rfl (lv_at hl 3 rfl) ?_
  have hW := hW.perm pf2.symm
  refine xc_vi (by decide) hx hb hml hown hts hK hN hE hW (g_cw (n := 3) hts wm21_8 wm21_9 wm21_10 wm1_2 wm21_11 ⟨rfl, by decide +kernel, by decide +kernel, by decide +kernel⟩ ⟨rfl, rfl⟩ ⟨Nat.le_of_ble_eq_true rfl, Nat.le_of_ble_eq_true rfl⟩) ⟨10, (RX10, TX10, 13), _, rfl, rfl, rfl⟩ (c_X10_change l hfl D T A ad hok (outc T ao g ++ Z) x_K p1 p2 p3 1 r x_K9 h) rfl hl.1 rfl (Nat.le_of_ble_eq_true rfl) dL_change_7 ⟨Nat.le_of_ble_eq_true rfl, Nat.le_of_ble_eq_true rfl⟩ (fun ce q9 H locs hW hce hcv hcl => ?_)
  have hW := hW.perm pf2
  refine vx_catch hown [] ⟨0, 12, 15, 21⟩ [] (htab.trans rfl) (fun z hz => absurd hz List.not_mem_nil) (by decide) (by decide) (hts _ wm11_20) (va_Nw.use rfl (hE.2.2.1 (exN 1) (by decide))) hce hcv hcl ?_
  refine lv_astore (lv' := [(5, .ref q9), (0, .ref (ad 0 0)), (1, .int p1), (2, .int p2), (3, .int p3), (4, .ref ao)]) hx hb dL_change_15 hl (by decide) rfl (fun ls hl => ?_)
  refine lv_iconst (v := 1) hx hb dL_change_17 (by decide) ?_
  exact g_reti hx hb hr hlk hW dL_change_18
set_option maxHeartbeats 4000000 in
set_option maxRecDepth 100000 in
theorem wL_remove_0 (l : Launch) (hfl : l.stackTraces = false) (D : va_G) (T : Nat → ClassId) (A : Nat → Prop) (ad : Nat → Nat → Nat) (hok : okad ad) (Z : va_W) (ao : Nat) (g : Nat → Int64) (x_K : Nat → Ob) (p1 : Int32) (p2 : Int32) (r : Int32) (x_K9 : Nat → Ob) (h : f_X10_remove x_K p1 p2 = some (0, r, x_K9)) : Met l yL_remove (Cond.codeWith yL_remove cL_remove 5 (some .int) [(0, 10, 13, 21)] :: wsL_law) (rmx 8 0) (Pw D T A (outc T ao g ++ (oc_X10 T (ad 0) (bb ad) (x_K 0) ++ (wkL T ad x_K L18 ++ Z))) [.ref (ad 0 0), .int p1, .int p2, .ref ao]) (Qgi D A (outc T ao (vp_updL g 0 r.toInt64) ++ (oc_X10 T (ad 0) (bb ad) (x_K9 0) ++ (wkL T ad x_K9 L18 ++ Z))) 0) (ex1 0) (ex6 0) A := by
  refine va_MetW (cc := cL_remove) (maxL := 5) (ret := (some .int)) (hh := [(0, 10, 13, 21)]) (by decide +kernel) rfl ?_
  intro p e s m args below meth c s₁ B hml hv
  obtain ⟨ha, hP, hK, hD, hN, hE, hC⟩ := hv
  have hx := B.exec
  have hb := B.bytes
  have hr := B.returns
  have hlk := B.notSynchronized
  have hts0 := atoms_spec (ws := Cond.codeWith yL_remove cL_remove 5 (some .int) [(0, 10, 13, 21)] :: wsL_law) B.pre
  have hts : ∀ w ∈ wsL_law, w.before args s = true := fun w hw => hts0 w (List.mem_cons_of_mem _ hw)
  have htab := vx_table (x := yL_word) B (hts0 _ List.mem_cons_self)
  have hown : s.vm.findClass RL = some m.cls := findClass_of_methodNamed B.named
  have hW : Wd D A s.heap (outc T ao g ++ (oc_X10 T (ad 0) (bb ad) (x_K 0) ++ (wkL T ad x_K L18 ++ Z))) s.heap [] := ⟨hP, hD, va_S.rf⟩
  have hl := lv_entry [.ref (ad 0 0), .int p1, .int p2, .ref ao] (n := 5) (Nat.le_of_ble_eq_true rfl)
  refine W.eq (en_eq ha) ?_
  generalize (lg_sl [.ref (ad 0 0), .int p1, .int p2, .ref ao] ++ List.replicate (5 - (lg_sl [.ref (ad 0 0), .int p1, .int p2, .ref ao]).length) Slot.unset).toArray = ls at hl ⊢
  have hl : lv_has ls 5 [(0, .ref (ad 0 0)), (1, .int p1), (2, .int p2), (3, .ref ao)] := hl
  clear hP hD B ha
  change W p l e (rmx 8 0) s m args below meth c s.heap [] 0 0 _ (F0 m 0 ls [])
  refine lv_aload_n hx hb dL_remove_0 rfl (lv_at hl 3 rfl) ?_
  refine lv_iconst (v := 0) hx hb dL_remove_1 (by decide) ?_
  refine lv_aload_n hx hb dL_remove_2 rfl (lv_at hl 0 rfl) ?_
  refine lv_iload_n hx hb dL_remove_3 rfl (lv_at hl 1 rfl) ?_
  refine lv_iload_n hx hb dL_remove_4 rfl (lv_at hl 2 rfl) ?_
  have hW := hW.perm pf2.symm
  refine x0_vi hx hb hml hown hts hK hN hE hW (g_cw (n := 2) hts wm22_10 wm22_11 wm22_12 wm1_2 wm22_13 ⟨rfl, by decide +kernel, by decide +kernel, by decide +kernel⟩ ⟨rfl, rfl⟩ ⟨Nat.le_of_ble_eq_true rfl, Nat.le_of_ble_eq_true rfl⟩) ⟨10, (RX10, TX10, 13), _, rfl, rfl, rfl⟩ (c_X10_remove l hfl D T A ad hok (outc T ao g ++ Z) x_K p1 p2 0 r x_K9 h) rfl hl.1 rfl (Nat.le_of_ble_eq_true rfl) dL_remove_5 ⟨Nat.zero_le _, Nat.zero_le _⟩ (fun H locs hW => ?_)
  have hW := hW.perm pf2
  refine lv_i2l (v := r.toInt64) hx hb dL_remove_8 rfl ?_
  refine g_last hx hb hK hW dL_remove_9 (fun H locs hW => ?_)
  refine lv_goto (tgt := 17) hx hb dL_remove_10 (by decide) ?_
  refine lv_iconst (v := 0) hx hb dL_remove_17 (by decide) ?_
  exact g_reti hx hb hr hlk hW dL_remove_18
set_option maxHeartbeats 4000000 in
set_option maxRecDepth 100000 in
theorem wL_remove_1 (l : Launch) (hfl : l.stackTraces = false) (D : va_G) (T : Nat → ClassId) (A : Nat → Prop) (ad : Nat → Nat → Nat) (hok : okad ad) (Z : va_W) (ao : Nat) (g : Nat → Int64) (x_K : Nat → Ob) (p1 : Int32) (p2 : Int32) (r : Int32) (x_K9 : Nat → Ob) (h : f_X10_remove x_K p1 p2 = some (1, r, x_K9)) : Met l yL_remove (Cond.codeWith yL_remove cL_remove 5 (some .int) [(0, 10, 13, 21)] :: wsL_law) (rmx 8 1) (Pw D T A (outc T ao g ++ (oc_X10 T (ad 0) (bb ad) (x_K 0) ++ (wkL T ad x_K L18 ++ Z))) [.ref (ad 0 0), .int p1, .int p2, .ref ao]) (Qgi D A (outc T ao g ++ (oc_X10 T (ad 0) (bb ad) (x_K9 0) ++ (wkL T ad x_K9 L18 ++ Z))) 1) (ex1 1) (ex6 1) A := by
  refine va_MetW (cc := cL_remove) (maxL := 5) (ret := (some .int)) (hh := [(0, 10, 13, 21)]) (by decide +kernel) rfl ?_
  intro p e s m args below meth c s₁ B hml hv
  obtain ⟨ha, hP, hK, hD, hN, hE, hC⟩ := hv
  have hx := B.exec
  have hb := B.bytes
  have hr := B.returns
  have hlk := B.notSynchronized
  have hts0 := atoms_spec (ws := Cond.codeWith yL_remove cL_remove 5 (some .int) [(0, 10, 13, 21)] :: wsL_law) B.pre
  have hts : ∀ w ∈ wsL_law, w.before args s = true := fun w hw => hts0 w (List.mem_cons_of_mem _ hw)
  have htab := vx_table (x := yL_word) B (hts0 _ List.mem_cons_self)
  have hown : s.vm.findClass RL = some m.cls := findClass_of_methodNamed B.named
  have hW : Wd D A s.heap (outc T ao g ++ (oc_X10 T (ad 0) (bb ad) (x_K 0) ++ (wkL T ad x_K L18 ++ Z))) s.heap [] := ⟨hP, hD, va_S.rf⟩
  have hl := lv_entry [.ref (ad 0 0), .int p1, .int p2, .ref ao] (n := 5) (Nat.le_of_ble_eq_true rfl)
  refine W.eq (en_eq ha) ?_
  generalize (lg_sl [.ref (ad 0 0), .int p1, .int p2, .ref ao] ++ List.replicate (5 - (lg_sl [.ref (ad 0 0), .int p1, .int p2, .ref ao]).length) Slot.unset).toArray = ls at hl ⊢
  have hl : lv_has ls 5 [(0, .ref (ad 0 0)), (1, .int p1), (2, .int p2), (3, .ref ao)] := hl
  clear hP hD B ha
  change W p l e (rmx 8 1) s m args below meth c s.heap [] 0 0 _ (F0 m 0 ls [])
  refine lv_aload_n hx hb dL_remove_0 rfl (lv_at hl 3 rfl) ?_
  refine lv_iconst (v := 0) hx hb dL_remove_1 (by decide) ?_
  refine lv_aload_n hx hb dL_remove_2 rfl (lv_at hl 0 rfl) ?_
  refine lv_iload_n hx hb dL_remove_3 rfl (lv_at hl 1 rfl) ?_
  refine lv_iload_n hx hb dL_remove_4 rfl (lv_at hl 2 rfl) ?_
  have hW := hW.perm pf2.symm
  refine xc_vi (by decide) hx hb hml hown hts hK hN hE hW (g_cw (n := 2) hts wm22_10 wm22_11 wm22_12 wm1_2 wm22_13 ⟨rfl, by decide +kernel, by decide +kernel, by decide +kernel⟩ ⟨rfl, rfl⟩ ⟨Nat.le_of_ble_eq_true rfl, Nat.le_of_ble_eq_true rfl⟩) ⟨10, (RX10, TX10, 13), _, rfl, rfl, rfl⟩ (c_X10_remove l hfl D T A ad hok (outc T ao g ++ Z) x_K p1 p2 1 r x_K9 h) rfl hl.1 rfl (Nat.le_of_ble_eq_true rfl) dL_remove_5 ⟨Nat.le_of_ble_eq_true rfl, Nat.le_of_ble_eq_true rfl⟩ (fun ce q9 H locs hW hce hcv hcl => ?_)
  have hW := hW.perm pf2
  refine vx_catch hown [] ⟨0, 10, 13, 21⟩ [] (htab.trans rfl) (fun z hz => absurd hz List.not_mem_nil) (by decide) (by decide) (hts _ wm11_20) (va_Nw.use rfl (hE.2.2.1 (exN 1) (by decide))) hce hcv hcl ?_
  refine lv_astore (lv' := [(4, .ref q9), (0, .ref (ad 0 0)), (1, .int p1), (2, .int p2), (3, .ref ao)]) hx hb dL_remove_13 hl (by decide) rfl (fun ls hl => ?_)
  refine lv_iconst (v := 1) hx hb dL_remove_15 (by decide) ?_
  exact g_reti hx hb hr hlk hW dL_remove_16
set_option maxHeartbeats 4000000 in
set_option maxRecDepth 100000 in
theorem wL_length_0 (l : Launch) (hfl : l.stackTraces = false) (D : va_G) (T : Nat → ClassId) (A : Nat → Prop) (ad : Nat → Nat → Nat) (hok : okad ad) (Z : va_W) (ao : Nat) (g : Nat → Int64) (x_K : Nat → Ob) (p1 : Int32) (r : Int32)  (h : f_X10_length x_K p1 = some (0, r)) : Met l yL_length (Cond.codeWith yL_length cL_length 4 (some .int) [(0, 9, 12, 21)] :: wsL_law) (rmx 8 0) (Pw D T A (outc T ao g ++ (oc_X10 T (ad 0) (bb ad) (x_K 0) ++ (wkL T ad x_K L18 ++ Z))) [.ref (ad 0 0), .int p1, .ref ao]) (Qgi D A (outc T ao (vp_updL g 0 r.toInt64) ++ (oc_X10 T (ad 0) (bb ad) (x_K 0) ++ (wkL T ad x_K L18 ++ Z))) 0) (ex1 0) (ex6 0) A := by
  refine va_MetW (cc := cL_length) (maxL := 4) (ret := (some .int)) (hh := [(0, 9, 12, 21)]) (by decide +kernel) rfl ?_
  intro p e s m args below meth c s₁ B hml hv
  obtain ⟨ha, hP, hK, hD, hN, hE, hC⟩ := hv
  have hx := B.exec
  have hb := B.bytes
  have hr := B.returns
  have hlk := B.notSynchronized
  have hts0 := atoms_spec (ws := Cond.codeWith yL_length cL_length 4 (some .int) [(0, 9, 12, 21)] :: wsL_law) B.pre
  have hts : ∀ w ∈ wsL_law, w.before args s = true := fun w hw => hts0 w (List.mem_cons_of_mem _ hw)
  have htab := vx_table (x := yL_word) B (hts0 _ List.mem_cons_self)
  have hown : s.vm.findClass RL = some m.cls := findClass_of_methodNamed B.named
  have hW : Wd D A s.heap (outc T ao g ++ (oc_X10 T (ad 0) (bb ad) (x_K 0) ++ (wkL T ad x_K L18 ++ Z))) s.heap [] := ⟨hP, hD, va_S.rf⟩
  have hl := lv_entry [.ref (ad 0 0), .int p1, .ref ao] (n := 4) (Nat.le_of_ble_eq_true rfl)
  refine W.eq (en_eq ha) ?_
  generalize (lg_sl [.ref (ad 0 0), .int p1, .ref ao] ++ List.replicate (4 - (lg_sl [.ref (ad 0 0), .int p1, .ref ao]).length) Slot.unset).toArray = ls at hl ⊢
  have hl : lv_has ls 4 [(0, .ref (ad 0 0)), (1, .int p1), (2, .ref ao)] := hl
  clear hP hD B ha
  change W p l e (rmx 8 0) s m args below meth c s.heap [] 0 0 _ (F0 m 0 ls [])
  refine lv_aload_n hx hb dL_length_0 rfl (lv_at hl 2 rfl) ?_
  refine lv_iconst (v := 0) hx hb dL_length_1 (by decide) ?_
  refine lv_aload_n hx hb dL_length_2 rfl (lv_at hl 0 rfl) ?_
  refine lv_iload_n hx hb dL_length_3 rfl (lv_at hl 1 rfl) ?_
  have hW := hW.perm pf2.symm
  refine x0_vi hx hb hml hown hts hK hN hE hW (g_cw (n := 1) hts wm23_1 wm23_2 wm23_3 wm1_2 wm23_4 ⟨rfl, by decide +kernel, by decide +kernel, by decide +kernel⟩ ⟨rfl, rfl⟩ ⟨Nat.le_of_ble_eq_true rfl, Nat.le_of_ble_eq_true rfl⟩) ⟨10, (RX10, TX10, 13), _, rfl, rfl, rfl⟩ (c_X10_length l hfl D T A ad hok (outc T ao g ++ Z) x_K p1 0 r h) rfl hl.1 rfl (Nat.le_of_ble_eq_true rfl) dL_length_4 ⟨Nat.zero_le _, Nat.zero_le _⟩ (fun H locs hW => ?_)
  have hW := hW.perm pf2
  refine lv_i2l (v := r.toInt64) hx hb dL_length_7 rfl ?_
  refine g_last hx hb hK hW dL_length_8 (fun H locs hW => ?_)
  refine lv_goto (tgt := 15) hx hb dL_length_9 (by decide) ?_
  refine lv_iconst (v := 0) hx hb dL_length_15 (by decide) ?_
  exact g_reti hx hb hr hlk hW dL_length_16
set_option maxHeartbeats 4000000 in
set_option maxRecDepth 100000 in
theorem wL_length_1 (l : Launch) (hfl : l.stackTraces = false) (D : va_G) (T : Nat → ClassId) (A : Nat → Prop) (ad : Nat → Nat → Nat) (hok : okad ad) (Z : va_W) (ao : Nat) (g : Nat → Int64) (x_K : Nat → Ob) (p1 : Int32) (r : Int32)  (h : f_X10_length x_K p1 = some (1, r)) : Met l yL_length (Cond.codeWith yL_length cL_length 4 (some .int) [(0, 9, 12, 21)] :: wsL_law) (rmx 8 1) (Pw D T A (outc T ao g ++ (oc_X10 T (ad 0) (bb ad) (x_K 0) ++ (wkL T ad x_K L18 ++ Z))) [.ref (ad 0 0), .int p1, .ref ao]) (Qgi D A (outc T ao g ++ (oc_X10 T (ad 0) (bb ad) (x_K 0) ++ (wkL T ad x_K L18 ++ Z))) 1) (ex1 1) (ex6 1) A := by
  refine va_MetW (cc := cL_length) (maxL := 4) (ret := (some .int)) (hh := [(0, 9, 12, 21)]) (by decide +kernel) rfl ?_
  intro p e s m args below meth c s₁ B hml hv
  obtain ⟨ha, hP, hK, hD, hN, hE, hC⟩ := hv
  have hx := B.exec
  have hb := B.bytes
  have hr := B.returns
  have hlk := B.notSynchronized
  have hts0 := atoms_spec (ws := Cond.codeWith yL_length cL_length 4 (some .int) [(0, 9, 12, 21)] :: wsL_law) B.pre
  have hts : ∀ w ∈ wsL_law, w.before args s = true := fun w hw => hts0 w (List.mem_cons_of_mem _ hw)
  have htab := vx_table (x := yL_word) B (hts0 _ List.mem_cons_self)
  have hown : s.vm.findClass RL = some m.cls := findClass_of_methodNamed B.named
  have hW : Wd D A s.heap (outc T ao g ++ (oc_X10 T (ad 0) (bb ad) (x_K 0) ++ (wkL T ad x_K L18 ++ Z))) s.heap [] := ⟨hP, hD, va_S.rf⟩
  have hl := lv_entry [.ref (ad 0 0), .int p1, .ref ao] (n := 4) (Nat.le_of_ble_eq_true rfl)
  refine W.eq (en_eq ha) ?_
  generalize (lg_sl [.ref (ad 0 0), .int p1, .ref ao] ++ List.replicate (4 - (lg_sl [.ref (ad 0 0), .int p1, .ref ao]).length) Slot.unset).toArray = ls at hl ⊢
  have hl : lv_has ls 4 [(0, .ref (ad 0 0)), (1, .int p1), (2, .ref ao)] := hl
  clear hP hD B ha
  change W p l e (rmx 8 1) s m args below meth c s.heap [] 0 0 _ (F0 m 0 ls [])
  refine lv_aload_n hx hb dL_length_0 rfl (lv_at hl 2 rfl) ?_
  refine lv_iconst (v := 0) hx hb dL_length_1 (by decide) ?_
  refine lv_aload_n hx hb dL_length_2 rfl (lv_at hl 0 rfl) ?_
  refine lv_iload_n hx hb dL_length_3 rfl (lv_at hl 1 rfl) ?_
  have hW := hW.perm pf2.symm
  refine xc_vi (by decide) hx hb hml hown hts hK hN hE hW (g_cw (n := 1) hts wm23_1 wm23_2 wm23_3 wm1_2 wm23_4 ⟨rfl, by decide +kernel, by decide +kernel, by decide +kernel⟩ ⟨rfl, rfl⟩ ⟨Nat.le_of_ble_eq_true rfl, Nat.le_of_ble_eq_true rfl⟩) ⟨10, (RX10, TX10, 13), _, rfl, rfl, rfl⟩ (c_X10_length l hfl D T A ad hok (outc T ao g ++ Z) x_K p1 1 r h) rfl hl.1 rfl (Nat.le_of_ble_eq_true rfl) dL_length_4 ⟨Nat.le_of_ble_eq_true rfl, Nat.le_of_ble_eq_true rfl⟩ (fun ce q9 H locs hW hce hcv hcl => ?_)
  have hW := hW.perm pf2
  refine vx_catch hown [] ⟨0, 9, 12, 21⟩ [] (htab.trans rfl) (fun z hz => absurd hz List.not_mem_nil) (by decide) (by decide) (hts _ wm11_20) (va_Nw.use rfl (hE.2.2.1 (exN 1) (by decide))) hce hcv hcl ?_
  refine lv_astore_n (lv' := [(3, .ref q9), (0, .ref (ad 0 0)), (1, .int p1), (2, .ref ao)]) hx hb dL_length_12 rfl hl (by decide) rfl (fun ls hl => ?_)
  refine lv_iconst (v := 1) hx hb dL_length_13 (by decide) ?_
  exact g_reti hx hb hr hlk hW dL_length_14
set_option maxHeartbeats 4000000 in
set_option maxRecDepth 100000 in
theorem wL_wordAt_0 (l : Launch) (hfl : l.stackTraces = false) (D : va_G) (T : Nat → ClassId) (A : Nat → Prop) (ad : Nat → Nat → Nat) (hok : okad ad) (Z : va_W) (ao : Nat) (g : Nat → Int64) (x_K : Nat → Ob) (p1 : Int32) (p2 : Int32) (r : Int32)  (h : f_X10_wordAt x_K p1 p2 = some (0, r)) : Met l yL_wordAt (Cond.codeWith yL_wordAt cL_wordAt 5 (some .int) [(0, 10, 13, 21)] :: wsL_law) (rmx 8 0) (Pw D T A (outc T ao g ++ (oc_X10 T (ad 0) (bb ad) (x_K 0) ++ (wkL T ad x_K L18 ++ Z))) [.ref (ad 0 0), .int p1, .int p2, .ref ao]) (Qgi D A (outc T ao (vp_updL g 0 r.toInt64) ++ (oc_X10 T (ad 0) (bb ad) (x_K 0) ++ (wkL T ad x_K L18 ++ Z))) 0) (ex1 0) (ex6 0) A := by
  refine va_MetW (cc := cL_wordAt) (maxL := 5) (ret := (some .int)) (hh := [(0, 10, 13, 21)]) (by decide +kernel) rfl ?_
  intro p e s m args below meth c s₁ B hml hv
  obtain ⟨ha, hP, hK, hD, hN, hE, hC⟩ := hv
  have hx := B.exec
  have hb := B.bytes
  have hr := B.returns
  have hlk := B.notSynchronized
  have hts0 := atoms_spec (ws := Cond.codeWith yL_wordAt cL_wordAt 5 (some .int) [(0, 10, 13, 21)] :: wsL_law) B.pre
  have hts : ∀ w ∈ wsL_law, w.before args s = true := fun w hw => hts0 w (List.mem_cons_of_mem _ hw)
  have htab := vx_table (x := yL_word) B (hts0 _ List.mem_cons_self)
  have hown : s.vm.findClass RL = some m.cls := findClass_of_methodNamed B.named
  have hW : Wd D A s.heap (outc T ao g ++ (oc_X10 T (ad 0) (bb ad) (x_K 0) ++ (wkL T ad x_K L18 ++ Z))) s.heap [] := ⟨hP, hD, va_S.rf⟩
  have hl := lv_entry [.ref (ad 0 0), .int p1, .int p2, .ref ao] (n := 5) (Nat.le_of_ble_eq_true rfl)
  refine W.eq (en_eq ha) ?_
  generalize (lg_sl [.ref (ad 0 0), .int p1, .int p2, .ref ao] ++ List.replicate (5 - (lg_sl [.ref (ad 0 0), .int p1, .int p2, .ref ao]).length) Slot.unset).toArray = ls at hl ⊢
  have hl : lv_has ls 5 [(0, .ref (ad 0 0)), (1, .int p1), (2, .int p2), (3, .ref ao)] := hl
  clear hP hD B ha
  change W p l e (rmx 8 0) s m args below meth c s.heap [] 0 0 _ (F0 m 0 ls [])
  refine lv_aload_n hx hb dL_wordAt_0 rfl (lv_at hl 3 rfl) ?_
  refine lv_iconst (v := 0) hx hb dL_wordAt_1 (by decide) ?_
  refine lv_aload_n hx hb dL_wordAt_2 rfl (lv_at hl 0 rfl) ?_
  refine lv_iload_n hx hb dL_wordAt_3 rfl (lv_at hl 1 rfl) ?_
  refine lv_iload_n hx hb dL_wordAt_4 rfl (lv_at hl 2 rfl) ?_
  have hW := hW.perm pf2.symm
  refine x0_vi hx hb hml hown hts hK hN hE hW (g_cw (n := 2) hts wm23_12 wm23_13 wm23_14 wm1_2 wm23_15 ⟨rfl, by decide +kernel, by decide +kernel, by decide +kernel⟩ ⟨rfl, rfl⟩ ⟨Nat.le_of_ble_eq_true rfl, Nat.le_of_ble_eq_true rfl⟩) ⟨10, (RX10, TX10, 13), _, rfl, rfl, rfl⟩ (c_X10_wordAt l hfl D T A ad hok (outc T ao g ++ Z) x_K p1 p2 0 r h) rfl hl.1 rfl (Nat.le_of_ble_eq_true rfl) dL_wordAt_5 ⟨Nat.zero_le _, Nat.zero_le _⟩ (fun H locs hW => ?_)
  have hW := hW.perm pf2
  refine lv_i2l (v := r.toInt64) hx hb dL_wordAt_8 rfl ?_
  refine g_last hx hb hK hW dL_wordAt_9 (fun H locs hW => ?_)
  refine lv_goto (tgt := 17) hx hb dL_wordAt_10 (by decide) ?_
  refine lv_iconst (v := 0) hx hb dL_wordAt_17 (by decide) ?_
  exact g_reti hx hb hr hlk hW dL_wordAt_18
set_option maxHeartbeats 4000000 in
set_option maxRecDepth 100000 in
theorem wL_wordAt_1 (l : Launch) (hfl : l.stackTraces = false) (D : va_G) (T : Nat → ClassId) (A : Nat → Prop) (ad : Nat → Nat → Nat) (hok : okad ad) (Z : va_W) (ao : Nat) (g : Nat → Int64) (x_K : Nat → Ob) (p1 : Int32) (p2 : Int32) (r : Int32)  (h : f_X10_wordAt x_K p1 p2 = some (1, r)) : Met l yL_wordAt (Cond.codeWith yL_wordAt cL_wordAt 5 (some .int) [(0, 10, 13, 21)] :: wsL_law) (rmx 8 1) (Pw D T A (outc T ao g ++ (oc_X10 T (ad 0) (bb ad) (x_K 0) ++ (wkL T ad x_K L18 ++ Z))) [.ref (ad 0 0), .int p1, .int p2, .ref ao]) (Qgi D A (outc T ao g ++ (oc_X10 T (ad 0) (bb ad) (x_K 0) ++ (wkL T ad x_K L18 ++ Z))) 1) (ex1 1) (ex6 1) A := by
  refine va_MetW (cc := cL_wordAt) (maxL := 5) (ret := (some .int)) (hh := [(0, 10, 13, 21)]) (by decide +kernel) rfl ?_
  intro p e s m args below meth c s₁ B hml hv
  obtain ⟨ha, hP, hK, hD, hN, hE, hC⟩ := hv
  have hx := B.exec
  have hb := B.bytes
  have hr := B.returns
  have hlk := B.notSynchronized
  have hts0 := atoms_spec (ws := Cond.codeWith yL_wordAt cL_wordAt 5 (some .int) [(0, 10, 13, 21)] :: wsL_law) B.pre
  have hts : ∀ w ∈ wsL_law, w.before args s = true := fun w hw => hts0 w (List.mem_cons_of_mem _ hw)
  have htab := vx_table (x := yL_word) B (hts0 _ List.mem_cons_self)
  have hown : s.vm.findClass RL = some m.cls := findClass_of_methodNamed B.named
  have hW : Wd D A s.heap (outc T ao g ++ (oc_X10 T (ad 0) (bb ad) (x_K 0) ++ (wkL T ad x_K L18 ++ Z))) s.heap [] := ⟨hP, hD, va_S.rf⟩
  have hl := lv_entry [.ref (ad 0 0), .int p1, .int p2, .ref ao] (n := 5) (Nat.le_of_ble_eq_true rfl)
  refine W.eq (en_eq ha) ?_
  generalize (lg_sl [.ref (ad 0 0), .int p1, .int p2, .ref ao] ++ List.replicate (5 - (lg_sl [.ref (ad 0 0), .int p1, .int p2, .ref ao]).length) Slot.unset).toArray = ls at hl ⊢
  have hl : lv_has ls 5 [(0, .ref (ad 0 0)), (1, .int p1), (2, .int p2), (3, .ref ao)] := hl
  clear hP hD B ha
  change W p l e (rmx 8 1) s m args below meth c s.heap [] 0 0 _ (F0 m 0 ls [])
  refine lv_aload_n hx hb dL_wordAt_0 rfl (lv_at hl 3 rfl) ?_
  refine lv_iconst (v := 0) hx hb dL_wordAt_1 (by decide) ?_
  refine lv_aload_n hx hb dL_wordAt_2 rfl (lv_at hl 0 rfl) ?_
  refine lv_iload_n hx hb dL_wordAt_3 rfl (lv_at hl 1 rfl) ?_
  refine lv_iload_n hx hb dL_wordAt_4 rfl (lv_at hl 2 rfl) ?_
  have hW := hW.perm pf2.symm
  refine xc_vi (by decide) hx hb hml hown hts hK hN hE hW (g_cw (n := 2) hts wm23_12 wm23_13 wm23_14 wm1_2 wm23_15 ⟨rfl, by decide +kernel, by decide +kernel, by decide +kernel⟩ ⟨rfl, rfl⟩ ⟨Nat.le_of_ble_eq_true rfl, Nat.le_of_ble_eq_true rfl⟩) ⟨10, (RX10, TX10, 13), _, rfl, rfl, rfl⟩ (c_X10_wordAt l hfl D T A ad hok (outc T ao g ++ Z) x_K p1 p2 1 r h) rfl hl.1 rfl (Nat.le_of_ble_eq_true rfl) dL_wordAt_5 ⟨Nat.le_of_ble_eq_true rfl, Nat.le_of_ble_eq_true rfl⟩ (fun ce q9 H locs hW hce hcv hcl => ?_)
  have hW := hW.perm pf2
  refine vx_catch hown [] ⟨0, 10, 13, 21⟩ [] (htab.trans rfl) (fun z hz => absurd hz List.not_mem_nil) (by decide) (by decide) (hts _ wm11_20) (va_Nw.use rfl (hE.2.2.1 (exN 1) (by decide))) hce hcv hcl ?_
  refine lv_astore (lv' := [(4, .ref q9), (0, .ref (ad 0 0)), (1, .int p1), (2, .int p2), (3, .ref ao)]) hx hb dL_wordAt_13 hl (by decide) rfl (fun ls hl => ?_)
  refine lv_iconst (v := 1) hx hb dL_wordAt_15 (by decide) ?_
  exact g_reti hx hb hr hlk hW dL_wordAt_16
set_option maxHeartbeats 4000000 in
set_option maxRecDepth 100000 in
theorem wL_left_0 (l : Launch) (hfl : l.stackTraces = false) (D : va_G) (T : Nat → ClassId) (A : Nat → Prop) (ad : Nat → Nat → Nat) (hok : okad ad) (Z : va_W) (ao : Nat) (g : Nat → Int64) (x_K : Nat → Ob) (p1 : Int32) (p2 : Int32) (r : Int32) (x_K9 : Nat → Ob) (h : f_X10_left x_K p1 p2 = some (0, r, x_K9)) : Met l yL_left (Cond.codeWith yL_left cL_left 5 (some .int) [(0, 10, 13, 21)] :: wsL_law) (rmx 8 0) (Pw D T A (outc T ao g ++ (oc_X10 T (ad 0) (bb ad) (x_K 0) ++ (wkL T ad x_K L18 ++ Z))) [.ref (ad 0 0), .int p1, .int p2, .ref ao]) (Qgi D A (outc T ao (vp_updL g 0 r.toInt64) ++ (oc_X10 T (ad 0) (bb ad) (x_K9 0) ++ (wkL T ad x_K9 L18 ++ Z))) 0) (ex1 0) (ex6 0) A := by
  refine va_MetW (cc := cL_left) (maxL := 5) (ret := (some .int)) (hh := [(0, 10, 13, 21)]) (by decide +kernel) rfl ?_
  intro p e s m args below meth c s₁ B hml hv
  obtain ⟨ha, hP, hK, hD, hN, hE, hC⟩ := hv
  have hx := B.exec
  have hb := B.bytes
  have hr := B.returns
  have hlk := B.notSynchronized
  have hts0 := atoms_spec (ws := Cond.codeWith yL_left cL_left 5 (some .int) [(0, 10, 13, 21)] :: wsL_law) B.pre
  have hts : ∀ w ∈ wsL_law, w.before args s = true := fun w hw => hts0 w (List.mem_cons_of_mem _ hw)
  have htab := vx_table (x := yL_word) B (hts0 _ List.mem_cons_self)
  have hown : s.vm.findClass RL = some m.cls := findClass_of_methodNamed B.named
  have hW : Wd D A s.heap (outc T ao g ++ (oc_X10 T (ad 0) (bb ad) (x_K 0) ++ (wkL T ad x_K L18 ++ Z))) s.heap [] := ⟨hP, hD, va_S.rf⟩
  have hl := lv_entry [.ref (ad 0 0), .int p1, .int p2, .ref ao] (n := 5) (Nat.le_of_ble_eq_true rfl)
  refine W.eq (en_eq ha) ?_
  generalize (lg_sl [.ref (ad 0 0), .int p1, .int p2, .ref ao] ++ List.replicate (5 - (lg_sl [.ref (ad 0 0), .int p1, .int p2, .ref ao]).length) Slot.unset).toArray = ls at hl ⊢
  have hl : lv_has ls 5 [(0, .ref (ad 0 0)), (1, .int p1), (2, .int p2), (3, .ref ao)] := hl
  clear hP hD B ha
  change W p l e (rmx 8 0) s m args below meth c s.heap [] 0 0 _ (F0 m 0 ls [])
  refine lv_aload_n hx hb dL_left_0 rfl (lv_at hl 3 rfl) ?_
  refine lv_iconst (v := 0) hx hb dL_left_1 (by decide) ?_
  refine lv_aload_n hx hb dL_left_2 rfl (lv_at hl 0 rfl) ?_
  refine lv_iload_n hx hb dL_left_3 rfl (lv_at hl 1 rfl) ?_
  refine lv_iload_n hx hb dL_left_4 rfl (lv_at hl 2 rfl) ?_
  have hW := hW.perm pf2.symm
  refine x0_vi hx hb hml hown hts hK hN hE hW (g_cw (n := 2) hts wm23_23 wm24_0 wm24_1 wm1_2 wm24_2 ⟨rfl, by decide +kernel, by decide +kernel, by decide +kernel⟩ ⟨rfl, rfl⟩ ⟨Nat.le_of_ble_eq_true rfl, Nat.le_of_ble_eq_true rfl⟩) ⟨10, (RX10, TX10, 13), _, rfl, rfl, rfl⟩ (c_X10_left l hfl D T A ad hok (outc T ao g ++ Z) x_K p1 p2 0 r x_K9 h) rfl hl.1 rfl (Nat.le_of_ble_eq_true rfl) dL_left_5 ⟨Nat.zero_le _, Nat.zero_le _⟩ (fun H locs hW => ?_)
  have hW := hW.perm pf2
  refine lv_i2l (v := r.toInt64) hx hb dL_left_8 rfl ?_
  refine g_last hx hb hK hW dL_left_9 (fun H locs hW => ?_)
  refine lv_goto (tgt := 17) hx hb dL_left_10 (by decide) ?_
  refine lv_iconst (v := 0) hx hb dL_left_17 (by decide) ?_
  exact g_reti hx hb hr hlk hW dL_left_18
set_option maxHeartbeats 4000000 in
set_option maxRecDepth 100000 in
theorem wL_left_1 (l : Launch) (hfl : l.stackTraces = false) (D : va_G) (T : Nat → ClassId) (A : Nat → Prop) (ad : Nat → Nat → Nat) (hok : okad ad) (Z : va_W) (ao : Nat) (g : Nat → Int64) (x_K : Nat → Ob) (p1 : Int32) (p2 : Int32) (r : Int32) (x_K9 : Nat → Ob) (h : f_X10_left x_K p1 p2 = some (1, r, x_K9)) : Met l yL_left (Cond.codeWith yL_left cL_left 5 (some .int) [(0, 10, 13, 21)] :: wsL_law) (rmx 8 1) (Pw D T A (outc T ao g ++ (oc_X10 T (ad 0) (bb ad) (x_K 0) ++ (wkL T ad x_K L18 ++ Z))) [.ref (ad 0 0), .int p1, .int p2, .ref ao]) (Qgi D A (outc T ao g ++ (oc_X10 T (ad 0) (bb ad) (x_K9 0) ++ (wkL T ad x_K9 L18 ++ Z))) 1) (ex1 1) (ex6 1) A := by
  refine va_MetW (cc := cL_left) (maxL := 5) (ret := (some .int)) (hh := [(0, 10, 13, 21)]) (by decide +kernel) rfl ?_
  intro p e s m args below meth c s₁ B hml hv
  obtain ⟨ha, hP, hK, hD, hN, hE, hC⟩ := hv
  have hx := B.exec
  have hb := B.bytes
  have hr := B.returns
  have hlk := B.notSynchronized
  have hts0 := atoms_spec (ws := Cond.codeWith yL_left cL_left 5 (some .int) [(0, 10, 13, 21)] :: wsL_law) B.pre
  have hts : ∀ w ∈ wsL_law, w.before args s = true := fun w hw => hts0 w (List.mem_cons_of_mem _ hw)
  have htab := vx_table (x := yL_word) B (hts0 _ List.mem_cons_self)
  have hown : s.vm.findClass RL = some m.cls := findClass_of_methodNamed B.named
  have hW : Wd D A s.heap (outc T ao g ++ (oc_X10 T (ad 0) (bb ad) (x_K 0) ++ (wkL T ad x_K L18 ++ Z))) s.heap [] := ⟨hP, hD, va_S.rf⟩
  have hl := lv_entry [.ref (ad 0 0), .int p1, .int p2, .ref ao] (n := 5) (Nat.le_of_ble_eq_true rfl)
  refine W.eq (en_eq ha) ?_
  generalize (lg_sl [.ref (ad 0 0), .int p1, .int p2, .ref ao] ++ List.replicate (5 - (lg_sl [.ref (ad 0 0), .int p1, .int p2, .ref ao]).length) Slot.unset).toArray = ls at hl ⊢
  have hl : lv_has ls 5 [(0, .ref (ad 0 0)), (1, .int p1), (2, .int p2), (3, .ref ao)] := hl
  clear hP hD B ha
  change W p l e (rmx 8 1) s m args below meth c s.heap [] 0 0 _ (F0 m 0 ls [])
  refine lv_aload_n hx hb dL_left_0 rfl (lv_at hl 3 rfl) ?_
  refine lv_iconst (v := 0) hx hb dL_left_1 (by decide) ?_
  refine lv_aload_n hx hb dL_left_2 rfl (lv_at hl 0 rfl) ?_
  refine lv_iload_n hx hb dL_left_3 rfl (lv_at hl 1 rfl) ?_
  refine lv_iload_n hx hb dL_left_4 rfl (lv_at hl 2 rfl) ?_
  have hW := hW.perm pf2.symm
  refine xc_vi (by decide) hx hb hml hown hts hK hN hE hW (g_cw (n := 2) hts wm23_23 wm24_0 wm24_1 wm1_2 wm24_2 ⟨rfl, by decide +kernel, by decide +kernel, by decide +kernel⟩ ⟨rfl, rfl⟩ ⟨Nat.le_of_ble_eq_true rfl, Nat.le_of_ble_eq_true rfl⟩) ⟨10, (RX10, TX10, 13), _, rfl, rfl, rfl⟩ (c_X10_left l hfl D T A ad hok (outc T ao g ++ Z) x_K p1 p2 1 r x_K9 h) rfl hl.1 rfl (Nat.le_of_ble_eq_true rfl) dL_left_5 ⟨Nat.le_of_ble_eq_true rfl, Nat.le_of_ble_eq_true rfl⟩ (fun ce q9 H locs hW hce hcv hcl => ?_)
  have hW := hW.perm pf2
  refine vx_catch hown [] ⟨0, 10, 13, 21⟩ [] (htab.trans rfl) (fun z hz => absurd hz List.not_mem_nil) (by decide) (by decide) (hts _ wm11_20) (va_Nw.use rfl (hE.2.2.1 (exN 1) (by decide))) hce hcv hcl ?_
  refine lv_astore (lv' := [(4, .ref q9), (0, .ref (ad 0 0)), (1, .int p1), (2, .int p2), (3, .ref ao)]) hx hb dL_left_13 hl (by decide) rfl (fun ls hl => ?_)
  refine lv_iconst (v := 1) hx hb dL_left_15 (by decide) ?_
  exact g_reti hx hb hr hlk hW dL_left_16
set_option maxHeartbeats 4000000 in
set_option maxRecDepth 100000 in
theorem wL_referent_0 (l : Launch) (hfl : l.stackTraces = false) (D : va_G) (T : Nat → ClassId) (A : Nat → Prop) (ad : Nat → Nat → Nat) (hok : okad ad) (Z : va_W) (ao : Nat) (g : Nat → Int64) (x_K : Nat → Ob) (p1 : Int32) (p2 : Int32) (r : Int32) (x_K9 : Nat → Ob) (h : f_X10_referent x_K p1 p2 = some (0, r, x_K9)) : Met l yL_referent (Cond.codeWith yL_referent cL_referent 5 (some .int) [(0, 10, 13, 21)] :: wsL_law) (rmx 9 0) (Pw D T A (outc T ao g ++ (oc_X10 T (ad 0) (bb ad) (x_K 0) ++ (wkL T ad x_K L18 ++ Z))) [.ref (ad 0 0), .int p1, .int p2, .ref ao]) (Qgi D A (outc T ao (vp_updL g 0 r.toInt64) ++ (oc_X10 T (ad 0) (bb ad) (x_K9 0) ++ (wkL T ad x_K9 L18 ++ Z))) 0) (ex1 0) (ex6 0) A := by
  refine va_MetW (cc := cL_referent) (maxL := 5) (ret := (some .int)) (hh := [(0, 10, 13, 21)]) (by decide +kernel) rfl ?_
  intro p e s m args below meth c s₁ B hml hv
  obtain ⟨ha, hP, hK, hD, hN, hE, hC⟩ := hv
  have hx := B.exec
  have hb := B.bytes
  have hr := B.returns
  have hlk := B.notSynchronized
  have hts0 := atoms_spec (ws := Cond.codeWith yL_referent cL_referent 5 (some .int) [(0, 10, 13, 21)] :: wsL_law) B.pre
  have hts : ∀ w ∈ wsL_law, w.before args s = true := fun w hw => hts0 w (List.mem_cons_of_mem _ hw)
  have htab := vx_table (x := yL_word) B (hts0 _ List.mem_cons_self)
  have hown : s.vm.findClass RL = some m.cls := findClass_of_methodNamed B.named
  have hW : Wd D A s.heap (outc T ao g ++ (oc_X10 T (ad 0) (bb ad) (x_K 0) ++ (wkL T ad x_K L18 ++ Z))) s.heap [] := ⟨hP, hD, va_S.rf⟩
  have hl := lv_entry [.ref (ad 0 0), .int p1, .int p2, .ref ao] (n := 5) (Nat.le_of_ble_eq_true rfl)
  refine W.eq (en_eq ha) ?_
  generalize (lg_sl [.ref (ad 0 0), .int p1, .int p2, .ref ao] ++ List.replicate (5 - (lg_sl [.ref (ad 0 0), .int p1, .int p2, .ref ao]).length) Slot.unset).toArray = ls at hl ⊢
  have hl : lv_has ls 5 [(0, .ref (ad 0 0)), (1, .int p1), (2, .int p2), (3, .ref ao)] := hl
  clear hP hD B ha
  change W p l e (rmx 9 0) s m args below meth c s.heap [] 0 0 _ (F0 m 0 ls [])
  refine lv_aload_n hx hb dL_referent_0 rfl (lv_at hl 3 rfl) ?_
  refine lv_iconst (v := 0) hx hb dL_referent_1 (by decide) ?_
  refine lv_aload_n hx hb dL_referent_2 rfl (lv_at hl 0 rfl) ?_
  refine lv_iload_n hx hb dL_referent_3 rfl (lv_at hl 1 rfl) ?_
  refine lv_iload_n hx hb dL_referent_4 rfl (lv_at hl 2 rfl) ?_
  have hW := hW.perm pf2.symm
  refine x0_vi hx hb hml hown hts hK hN hE hW (g_cw (n := 2) hts wm27_14 wm27_15 wm27_16 wm1_2 wm27_17 ⟨rfl, by decide +kernel, by decide +kernel, by decide +kernel⟩ ⟨rfl, rfl⟩ ⟨Nat.le_of_ble_eq_true rfl, Nat.le_of_ble_eq_true rfl⟩) ⟨10, (RX10, TX10, 13), _, rfl, rfl, rfl⟩ (c_X10_referent l hfl D T A ad hok (outc T ao g ++ Z) x_K p1 p2 0 r x_K9 h) rfl hl.1 rfl (Nat.le_of_ble_eq_true rfl) dL_referent_5 ⟨Nat.zero_le _, Nat.zero_le _⟩ (fun H locs hW => ?_)
  have hW := hW.perm pf2
  refine lv_i2l (v := r.toInt64) hx hb dL_referent_8 rfl ?_
  refine g_last hx hb hK hW dL_referent_9 (fun H locs hW => ?_)
  refine lv_goto (tgt := 17) hx hb dL_referent_10 (by decide) ?_
  refine lv_iconst (v := 0) hx hb dL_referent_17 (by decide) ?_
  exact g_reti hx hb hr hlk hW dL_referent_18
set_option maxHeartbeats 4000000 in
set_option maxRecDepth 100000 in
theorem wL_referent_1 (l : Launch) (hfl : l.stackTraces = false) (D : va_G) (T : Nat → ClassId) (A : Nat → Prop) (ad : Nat → Nat → Nat) (hok : okad ad) (Z : va_W) (ao : Nat) (g : Nat → Int64) (x_K : Nat → Ob) (p1 : Int32) (p2 : Int32) (r : Int32) (x_K9 : Nat → Ob) (h : f_X10_referent x_K p1 p2 = some (1, r, x_K9)) : Met l yL_referent (Cond.codeWith yL_referent cL_referent 5 (some .int) [(0, 10, 13, 21)] :: wsL_law) (rmx 9 1) (Pw D T A (outc T ao g ++ (oc_X10 T (ad 0) (bb ad) (x_K 0) ++ (wkL T ad x_K L18 ++ Z))) [.ref (ad 0 0), .int p1, .int p2, .ref ao]) (Qgi D A (outc T ao g ++ (oc_X10 T (ad 0) (bb ad) (x_K9 0) ++ (wkL T ad x_K9 L18 ++ Z))) 1) (ex1 1) (ex6 1) A := by
  refine va_MetW (cc := cL_referent) (maxL := 5) (ret := (some .int)) (hh := [(0, 10, 13, 21)]) (by decide +kernel) rfl ?_
  intro p e s m args below meth c s₁ B hml hv
  obtain ⟨ha, hP, hK, hD, hN, hE, hC⟩ := hv
  have hx := B.exec
  have hb := B.bytes
  have hr := B.returns
  have hlk := B.notSynchronized
  have hts0 := atoms_spec (ws := Cond.codeWith yL_referent cL_referent 5 (some .int) [(0, 10, 13, 21)] :: wsL_law) B.pre
  have hts : ∀ w ∈ wsL_law, w.before args s = true := fun w hw => hts0 w (List.mem_cons_of_mem _ hw)
  have htab := vx_table (x := yL_word) B (hts0 _ List.mem_cons_self)
  have hown : s.vm.findClass RL = some m.cls := findClass_of_methodNamed B.named
  have hW : Wd D A s.heap (outc T ao g ++ (oc_X10 T (ad 0) (bb ad) (x_K 0) ++ (wkL T ad x_K L18 ++ Z))) s.heap [] := ⟨hP, hD, va_S.rf⟩
  have hl := lv_entry [.ref (ad 0 0), .int p1, .int p2, .ref ao] (n := 5) (Nat.le_of_ble_eq_true rfl)
  refine W.eq (en_eq ha) ?_
  generalize (lg_sl [.ref (ad 0 0), .int p1, .int p2, .ref ao] ++ List.replicate (5 - (lg_sl [.ref (ad 0 0), .int p1, .int p2, .ref ao]).length) Slot.unset).toArray = ls at hl ⊢
  have hl : lv_has ls 5 [(0, .ref (ad 0 0)), (1, .int p1), (2, .int p2), (3, .ref ao)] := hl
  clear hP hD B ha
  change W p l e (rmx 9 1) s m args below meth c s.heap [] 0 0 _ (F0 m 0 ls [])
  refine lv_aload_n hx hb dL_referent_0 rfl (lv_at hl 3 rfl) ?_
  refine lv_iconst (v := 0) hx hb dL_referent_1 (by decide) ?_
  refine lv_aload_n hx hb dL_referent_2 rfl (lv_at hl 0 rfl) ?_
  refine lv_iload_n hx hb dL_referent_3 rfl (lv_at hl 1 rfl) ?_
  refine lv_iload_n hx hb dL_referent_4 rfl (lv_at hl 2 rfl) ?_
  have hW := hW.perm pf2.symm
  refine xc_vi (by decide) hx hb hml hown hts hK hN hE hW (g_cw (n := 2) hts wm27_14 wm27_15 wm27_16 wm1_2 wm27_17 ⟨rfl, by decide +kernel, by decide +kernel, by decide +kernel⟩ ⟨rfl, rfl⟩ ⟨Nat.le_of_ble_eq_true rfl, Nat.le_of_ble_eq_true rfl⟩) ⟨10, (RX10, TX10, 13), _, rfl, rfl, rfl⟩ (c_X10_referent l hfl D T A ad hok (outc T ao g ++ Z) x_K p1 p2 1 r x_K9 h) rfl hl.1 rfl (Nat.le_of_ble_eq_true rfl) dL_referent_5 ⟨Nat.le_of_ble_eq_true rfl, Nat.le_of_ble_eq_true rfl⟩ (fun ce q9 H locs hW hce hcv hcl => ?_)
  have hW := hW.perm pf2
  refine vx_catch hown [] ⟨0, 10, 13, 21⟩ [] (htab.trans rfl) (fun z hz => absurd hz List.not_mem_nil) (by decide) (by decide) (hts _ wm11_20) (va_Nw.use rfl (hE.2.2.1 (exN 1) (by decide))) hce hcv hcl ?_
  refine lv_astore (lv' := [(4, .ref q9), (0, .ref (ad 0 0)), (1, .int p1), (2, .int p2), (3, .ref ao)]) hx hb dL_referent_13 hl (by decide) rfl (fun ls hl => ?_)
  refine lv_iconst (v := 1) hx hb dL_referent_15 (by decide) ?_
  exact g_reti hx hb hr hlk hW dL_referent_16
set_option maxHeartbeats 4000000 in
set_option maxRecDepth 100000 in
theorem wL_edges_0 (l : Launch) (hfl : l.stackTraces = false) (D : va_G) (T : Nat → ClassId) (A : Nat → Prop) (ad : Nat → Nat → Nat) (hok : okad ad) (Z : va_W) (ao : Nat) (g : Nat → Int64) (x_K : Nat → Ob) (p1 : Int32) (p2 : Int32) (p3 : Int32) (r : Int32) (x_K9 : Nat → Ob) (h : f_X10_edges x_K p1 p2 p3 = some (0, r, x_K9)) : Met l yL_edges (Cond.codeWith yL_edges cL_edges 6 (some .int) [(0, 12, 15, 21)] :: wsL_law) (rmx 11 0) (Pw D T A (outc T ao g ++ (oc_X10 T (ad 0) (bb ad) (x_K 0) ++ (wkL T ad x_K L18 ++ Z))) [.ref (ad 0 0), .int p1, .int p2, .int p3, .ref ao]) (Qgi D A (outc T ao (vp_updL g 0 r.toInt64) ++ (oc_X10 T (ad 0) (bb ad) (x_K9 0) ++ (wkL T ad x_K9 L18 ++ Z))) 0) (ex1 0) (ex6 0) A := by
  refine va_MetW (cc := cL_edges) (maxL := 6) (ret := (some .int)) (hh := [(0, 12, 15, 21)]) (by decide +kernel) rfl ?_
  intro p e s m args below meth c s₁ B hml hv
  obtain ⟨ha, hP, hK, hD, hN, hE, hC⟩ := hv
  have hx := B.exec
  have hb := B.bytes
  have hr := B.returns
  have hlk := B.notSynchronized
  have hts0 := atoms_spec (ws := Cond.codeWith yL_edges cL_edges 6 (some .int) [(0, 12, 15, 21)] :: wsL_law) B.pre
  have hts : ∀ w ∈ wsL_law, w.before args s = true := fun w hw => hts0 w (List.mem_cons_of_mem _ hw)
  have htab := vx_table (x := yL_word) B (hts0 _ List.mem_cons_self)
  have hown : s.vm.findClass RL = some m.cls := findClass_of_methodNamed B.named
  have hW : Wd D A s.heap (outc T ao g ++ (oc_X10 T (ad 0) (bb ad) (x_K 0) ++ (wkL T ad x_K L18 ++ Z))) s.heap [] := ⟨hP, hD, va_S.rf⟩
  have hl := lv_entry [.ref (ad 0 0), .int p1, .int p2, .int p3, .ref ao] (n := 6) (Nat.le_of_ble_eq_true rfl)
  refine W.eq (en_eq ha) ?_
  generalize (lg_sl [.ref (ad 0 0), .int p1, .int p2, .int p3, .ref ao] ++ List.replicate (6 - (lg_sl [.ref (ad 0 0), .int p1, .int p2, .int p3, .ref ao]).length) Slot.unset).toArray = ls at hl ⊢
  have hl : lv_has ls 6 [(0, .ref (ad 0 0)), (1, .int p1), (2, .int p2), (3, .int p3), (4, .ref ao)] := hl
  clear hP hD B ha
  change W p l e (rmx 11 0) s m args below meth c s.heap [] 0 0 _ (F0 m 0 ls [])
  refine lv_aload hx hb dL_edges_0 (lv_at hl 4 rfl) ?_
  refine lv_iconst (v := 0) hx hb dL_edges_2 (by decide) ?_
  refine lv_aload_n hx hb dL_edges_3 rfl (lv_at hl 0 rfl) ?_
  refine lv_iload_n hx hb dL_edges_4 rfl (lv_at hl 1 rfl) ?_
  refine lv_iload_n hx hb dL_edges_5 rfl (lv_at hl 2 rfl) ?_
  refine lv_iload_n hx hb dL_edges_6 rfl (lv_at hl 3 rfl) ?_
  have hW := hW.perm pf2.symm
  refine x0_vi hx hb hml hown hts hK hN hE hW (g_cw (n := 3) hts wm29_7 wm29_8 wm29_9 wm1_2 wm29_10 ⟨rfl, by decide +kernel, by decide +kernel, by decide +kernel⟩ ⟨rfl, rfl⟩ ⟨Nat.le_of_ble_eq_true rfl, Nat.le_of_ble_eq_true rfl⟩) ⟨10, (RX10, TX10, 13), _, rfl, rfl, rfl⟩ (c_X10_edges l hfl D T A ad hok (outc T ao g ++ Z) x_K p1 p2 p3 0 r x_K9 h) rfl hl.1 rfl (Nat.le_of_ble_eq_true rfl) dL_edges_7 ⟨Nat.zero_le _, Nat.zero_le _⟩ (fun H locs hW => ?_)
  have hW := hW.perm pf2
  refine lv_i2l (v := r.toInt64) hx hb dL_edges_10 rfl ?_
  refine g_last hx hb hK hW dL_edges_11 (fun H locs hW => ?_)
  refine lv_goto (tgt := 19) hx hb dL_edges_12 (by decide) ?_
  refine lv_iconst (v := 0) hx hb dL_edges_19 (by decide) ?_
  exact g_reti hx hb hr hlk hW dL_edges_20
set_option maxHeartbeats 4000000 in
set_option maxRecDepth 100000 in
theorem wL_edges_1 (l : Launch) (hfl : l.stackTraces = false) (D : va_G) (T : Nat → ClassId) (A : Nat → Prop) (ad : Nat → Nat → Nat) (hok : okad ad) (Z : va_W) (ao : Nat) (g : Nat → Int64) (x_K : Nat → Ob) (p1 : Int32) (p2 : Int32) (p3 : Int32) (r : Int32) (x_K9 : Nat → Ob) (h : f_X10_edges x_K p1 p2 p3 = some (1, r, x_K9)) : Met l yL_edges (Cond.codeWith yL_edges cL_edges 6 (some .int) [(0, 12, 15, 21)] :: wsL_law) (rmx 11 1) (Pw D T A (outc T ao g ++ (oc_X10 T (ad 0) (bb ad) (x_K 0) ++ (wkL T ad x_K L18 ++ Z))) [.ref (ad 0 0), .int p1, .int p2, .int p3, .ref ao]) (Qgi D A (outc T ao g ++ (oc_X10 T (ad 0) (bb ad) (x_K9 0) ++ (wkL T ad x_K9 L18 ++ Z))) 1) (ex1 1) (ex6 1) A := by
  refine va_MetW (cc := cL_edges) (maxL := 6) (ret := (some .int)) (hh := [(0, 12, 15, 21)]) (by decide +kernel) rfl ?_
  intro p e s m args below meth c s₁ B hml hv
  obtain ⟨ha, hP, hK, hD, hN, hE, hC⟩ := hv
  have hx := B.exec
  have hb := B.bytes
  have hr := B.returns
  have hlk := B.notSynchronized
  have hts0 := atoms_spec (ws := Cond.codeWith yL_edges cL_edges 6 (some .int) [(0, 12, 15, 21)] :: wsL_law) B.pre
  have hts : ∀ w ∈ wsL_law, w.before args s = true := fun w hw => hts0 w (List.mem_cons_of_mem _ hw)
  have htab := vx_table (x := yL_word) B (hts0 _ List.mem_cons_self)
  have hown : s.vm.findClass RL = some m.cls := findClass_of_methodNamed B.named
  have hW : Wd D A s.heap (outc T ao g ++ (oc_X10 T (ad 0) (bb ad) (x_K 0) ++ (wkL T ad x_K L18 ++ Z))) s.heap [] := ⟨hP, hD, va_S.rf⟩
  have hl := lv_entry [.ref (ad 0 0), .int p1, .int p2, .int p3, .ref ao] (n := 6) (Nat.le_of_ble_eq_true rfl)
  refine W.eq (en_eq ha) ?_
  generalize (lg_sl [.ref (ad 0 0), .int p1, .int p2, .int p3, .ref ao] ++ List.replicate (6 - (lg_sl [.ref (ad 0 0), .int p1, .int p2, .int p3, .ref ao]).length) Slot.unset).toArray = ls at hl ⊢
  have hl : lv_has ls 6 [(0, .ref (ad 0 0)), (1, .int p1), (2, .int p2), (3, .int p3), (4, .ref ao)] := hl
  clear hP hD B ha
  change W p l e (rmx 11 1) s m args below meth c s.heap [] 0 0 _ (F0 m 0 ls [])
  refine lv_aload hx hb dL_edges_0 (lv_at hl 4 rfl) ?_
  refine lv_iconst (v := 0) hx hb dL_edges_2 (by decide) ?_
  refine lv_aload_n hx hb dL_edges_3 rfl (lv_at hl 0 rfl) ?_
  refine lv_iload_n hx hb dL_edges_4 rfl (lv_at hl 1 rfl) ?_
  refine lv_iload_n hx hb dL_edges_5 rfl (lv_at hl 2 rfl) ?_
  refine lv_iload_n hx hb dL_edges_6 rfl (lv_at hl 3 rfl) ?_
  have hW := hW.perm pf2.symm
  refine xc_vi (by decide) hx hb hml hown hts hK hN hE hW (g_cw (n := 3) hts wm29_7 wm29_8 wm29_9 wm1_2 wm29_10 ⟨rfl, by decide +kernel, by decide +kernel, by decide +kernel⟩ ⟨rfl, rfl⟩ ⟨Nat.le_of_ble_eq_true rfl, Nat.le_of_ble_eq_true rfl⟩) ⟨10, (RX10, TX10, 13), _, rfl, rfl, rfl⟩ (c_X10_edges l hfl D T A ad hok (outc T ao g ++ Z) x_K p1 p2 p3 1 r x_K9 h) rfl hl.1 rfl (Nat.le_of_ble_eq_true rfl) dL_edges_7 ⟨Nat.le_of_ble_eq_true rfl, Nat.le_of_ble_eq_true rfl⟩ (fun ce q9 H locs hW hce hcv hcl => ?_)
  have hW := hW.perm pf2
  refine vx_catch hown [] ⟨0, 12, 15, 21⟩ [] (htab.trans rfl) (fun z hz => absurd hz List.not_mem_nil) (by decide) (by decide) (hts _ wm11_20) (va_Nw.use rfl (hE.2.2.1 (exN 1) (by decide))) hce hcv hcl ?_
  refine lv_astore (lv' := [(5, .ref q9), (0, .ref (ad 0 0)), (1, .int p1), (2, .int p2), (3, .int p3), (4, .ref ao)]) hx hb dL_edges_15 hl (by decide) rfl (fun ls hl => ?_)
  refine lv_iconst (v := 1) hx hb dL_edges_17 (by decide) ?_
  exact g_reti hx hb hr hlk hW dL_edges_18
set_option maxHeartbeats 4000000 in
set_option maxRecDepth 100000 in
theorem wL_edge_0 (l : Launch) (hfl : l.stackTraces = false) (D : va_G) (T : Nat → ClassId) (A : Nat → Prop) (ad : Nat → Nat → Nat) (hok : okad ad) (Z : va_W) (ao : Nat) (g : Nat → Int64) (x_K : Nat → Ob) (p1 : Int32) (p2 : Int32) (p3 : Int32) (p4 : Int32) (r : Int32) (x_K9 : Nat → Ob) (h : f_X10_edge x_K p1 p2 p3 p4 = some (0, r, x_K9)) : Met l yL_edge (Cond.codeWith yL_edge cL_edge 7 (some .int) [(0, 14, 17, 21)] :: wsL_law) (rmx 11 0) (Pw D T A (outc T ao g ++ (oc_X10 T (ad 0) (bb ad) (x_K 0) ++ (wkL T ad x_K L18 ++ Z))) [.ref (ad 0 0), .int p1, .int p2, .int p3, .int p4, .ref ao]) (Qgi D A (outc T ao (vp_updL g 0 r.toInt64) ++ (oc_X10 T (ad 0) (bb ad) (x_K9 0) ++ (wkL T ad x_K9 L18 ++ Z))) 0) (ex1 0) (ex6 0) A := by
  refine va_MetW (cc := cL_edge) (maxL := 7) (ret := (some .int)) (hh := [(0, 14, 17, 21)]) (by decide +kernel) rfl ?_
  intro p e s m args below meth c s₁ B hml hv
  obtain ⟨ha, hP, hK, hD, hN, hE, hC⟩ := hv
  have hx := B.exec
  have hb := B.bytes
  have hr := B.returns
  have hlk := B.notSynchronized
  have hts0 := atoms_spec (ws := Cond.codeWith yL_edge cL_edge 7 (some .int) [(0, 14, 17, 21)] :: wsL_law) B.pre
  have hts : ∀ w ∈ wsL_law, w.before args s = true := fun w hw => hts0 w (List.mem_cons_of_mem _ hw)
  have htab := vx_table (x := yL_word) B (hts0 _ List.mem_cons_self)
  have hown : s.vm.findClass RL = some m.cls := findClass_of_methodNamed B.named
  have hW : Wd D A s.heap (outc T ao g ++ (oc_X10 T (ad 0) (bb ad) (x_K 0) ++ (wkL T ad x_K L18 ++ Z))) s.heap [] := ⟨hP, hD, va_S.rf⟩
  have hl := lv_entry [.ref (ad 0 0), .int p1, .int p2, .int p3, .int p4, .ref ao] (n := 7) (Nat.le_of_ble_eq_true rfl)
  refine W.eq (en_eq ha) ?_
  generalize (lg_sl [.ref (ad 0 0), .int p1, .int p2, .int p3, .int p4, .ref ao] ++ List.replicate (7 - (lg_sl [.ref (ad 0 0), .int p1, .int p2, .int p3, .int p4, .ref ao]).length) Slot.unset).toArray = ls at hl ⊢
  have hl : lv_has ls 7 [(0, .ref (ad 0 0)), (1, .int p1), (2, .int p2), (3, .int p3), (4, .int p4), (5, .ref ao)] := hl
  clear hP hD B ha
  change W p l e (rmx 11 0) s m args below meth c s.heap [] 0 0 _ (F0 m 0 ls [])
  refine lv_aload hx hb dL_edge_0 (lv_at hl 5 rfl) ?_
  refine lv_iconst (v := 0) hx hb dL_edge_2 (by decide) ?_
  refine lv_aload_n hx hb dL_edge_3 rfl (lv_at hl 0 rfl) ?_
  refine lv_iload_n hx hb dL_edge_4 rfl (lv_at hl 1 rfl) ?_
  refine lv_iload_n hx hb dL_edge_5 rfl (lv_at hl 2 rfl) ?_
  refine lv_iload_n hx hb dL_edge_6 rfl (lv_at hl 3 rfl) ?_
  refine lv_iload hx hb dL_edge_7 (lv_at hl 4 rfl) ?_
  have hW := hW.perm pf2.symm
  refine x0_vi hx hb hml hown hts hK hN hE hW (g_cw (n := 4) hts wm35_12 wm35_13 wm35_14 wm1_2 wm35_15 ⟨rfl, by decide +kernel, by decide +kernel, by decide +kernel⟩ ⟨rfl, rfl⟩ ⟨Nat.le_of_ble_eq_true rfl, Nat.le_of_ble_eq_true rfl⟩) ⟨10, (RX10, TX10, 13), _, rfl, rfl, rfl⟩ (c_X10_edge l hfl D T A ad hok (outc T ao g ++ Z) x_K p1 p2 p3 p4 0 r x_K9 h) rfl hl.1 rfl (Nat.le_of_ble_eq_true rfl) dL_edge_9 ⟨Nat.zero_le _, Nat.zero_le _⟩ (fun H locs hW => ?_)
  have hW := hW.perm pf2
  refine lv_i2l (v := r.toInt64) hx hb dL_edge_12 rfl ?_
  refine g_last hx hb hK hW dL_edge_13 (fun H locs hW => ?_)
  refine lv_goto (tgt := 21) hx hb dL_edge_14 (by decide) ?_
  refine lv_iconst (v := 0) hx hb dL_edge_21 (by decide) ?_
  exact g_reti hx hb hr hlk hW dL_edge_22
set_option maxHeartbeats 4000000 in
set_option maxRecDepth 100000 in
theorem wL_edge_1 (l : Launch) (hfl : l.stackTraces = false) (D : va_G) (T : Nat → ClassId) (A : Nat → Prop) (ad : Nat → Nat → Nat) (hok : okad ad) (Z : va_W) (ao : Nat) (g : Nat → Int64) (x_K : Nat → Ob) (p1 : Int32) (p2 : Int32) (p3 : Int32) (p4 : Int32) (r : Int32) (x_K9 : Nat → Ob) (h : f_X10_edge x_K p1 p2 p3 p4 = some (1, r, x_K9)) : Met l yL_edge (Cond.codeWith yL_edge cL_edge 7 (some .int) [(0, 14, 17, 21)] :: wsL_law) (rmx 11 1) (Pw D T A (outc T ao g ++ (oc_X10 T (ad 0) (bb ad) (x_K 0) ++ (wkL T ad x_K L18 ++ Z))) [.ref (ad 0 0), .int p1, .int p2, .int p3, .int p4, .ref ao]) (Qgi D A (outc T ao g ++ (oc_X10 T (ad 0) (bb ad) (x_K9 0) ++ (wkL T ad x_K9 L18 ++ Z))) 1) (ex1 1) (ex6 1) A := by
  refine va_MetW (cc := cL_edge) (maxL := 7) (ret := (some .int)) (hh := [(0, 14, 17, 21)]) (by decide +kernel) rfl ?_
  intro p e s m args below meth c s₁ B hml hv
  obtain ⟨ha, hP, hK, hD, hN, hE, hC⟩ := hv
  have hx := B.exec
  have hb := B.bytes
  have hr := B.returns
  have hlk := B.notSynchronized
  have hts0 := atoms_spec (ws := Cond.codeWith yL_edge cL_edge 7 (some .int) [(0, 14, 17, 21)] :: wsL_law) B.pre
  have hts : ∀ w ∈ wsL_law, w.before args s = true := fun w hw => hts0 w (List.mem_cons_of_mem _ hw)
  have htab := vx_table (x := yL_word) B (hts0 _ List.mem_cons_self)
  have hown : s.vm.findClass RL = some m.cls := findClass_of_methodNamed B.named
  have hW : Wd D A s.heap (outc T ao g ++ (oc_X10 T (ad 0) (bb ad) (x_K 0) ++ (wkL T ad x_K L18 ++ Z))) s.heap [] := ⟨hP, hD, va_S.rf⟩
  have hl := lv_entry [.ref (ad 0 0), .int p1, .int p2, .int p3, .int p4, .ref ao] (n := 7) (Nat.le_of_ble_eq_true rfl)
  refine W.eq (en_eq ha) ?_
  generalize (lg_sl [.ref (ad 0 0), .int p1, .int p2, .int p3, .int p4, .ref ao] ++ List.replicate (7 - (lg_sl [.ref (ad 0 0), .int p1, .int p2, .int p3, .int p4, .ref ao]).length) Slot.unset).toArray = ls at hl ⊢
  have hl : lv_has ls 7 [(0, .ref (ad 0 0)), (1, .int p1), (2, .int p2), (3, .int p3), (4, .int p4), (5, .ref ao)] := hl
  clear hP hD B ha
  change W p l e (rmx 11 1) s m args below meth c s.heap [] 0 0 _ (F0 m 0 ls [])
  refine lv_aload hx hb dL_edge_0 (lv_at hl 5 rfl) ?_
  refine lv_iconst (v := 0) hx hb dL_edge_2 (by decide) ?_
  refine lv_aload_n hx hb dL_edge_3 rfl (lv_at hl 0 rfl) ?_
  refine lv_iload_n hx hb dL_edge_4 rfl (lv_at hl 1 rfl) ?_
  refine lv_iload_n hx hb dL_edge_5 rfl (lv_at hl 2 rfl) ?_
  refine lv_iload_n hx hb dL_edge_6 rfl (lv_at hl 3 rfl) ?_
  refine lv_iload hx hb dL_edge_7 (lv_at hl 4 rfl) ?_
  have hW := hW.perm pf2.symm
  refine xc_vi (by decide) hx hb hml hown hts hK hN hE hW (g_cw (n := 4) hts wm35_12 wm35_13 wm35_14 wm1_2 wm35_15 ⟨rfl, by decide +kernel, by decide +kernel, by decide +kernel⟩ ⟨rfl, rfl⟩ ⟨Nat.le_of_ble_eq_true rfl, Nat.le_of_ble_eq_true rfl⟩) ⟨10, (RX10, TX10, 13), _, rfl, rfl, rfl⟩ (c_X10_edge l hfl D T A ad hok (outc T ao g ++ Z) x_K p1 p2 p3 p4 1 r x_K9 h) rfl hl.1 rfl (Nat.le_of_ble_eq_true rfl) dL_edge_9 ⟨Nat.le_of_ble_eq_true rfl, Nat.le_of_ble_eq_true rfl⟩ (fun ce q9 H locs hW hce hcv hcl => ?_)
  have hW := hW.perm pf2
  refine vx_catch hown [] ⟨0, 14, 17, 21⟩ [] (htab.trans rfl) (fun z hz => absurd hz List.not_mem_nil) (by decide) (by decide) (hts _ wm11_20) (va_Nw.use rfl (hE.2.2.1 (exN 1) (by decide))) hce hcv hcl ?_
  refine lv_astore (lv' := [(6, .ref q9), (0, .ref (ad 0 0)), (1, .int p1), (2, .int p2), (3, .int p3), (4, .int p4), (5, .ref ao)]) hx hb dL_edge_17 hl (by decide) rfl (fun ls hl => ?_)
  refine lv_iconst (v := 1) hx hb dL_edge_19 (by decide) ?_
  exact g_reti hx hb hr hlk hW dL_edge_20
set_option maxHeartbeats 4000000 in
set_option maxRecDepth 100000 in
theorem wL_edgeCost_0 (l : Launch) (hfl : l.stackTraces = false) (D : va_G) (T : Nat → ClassId) (A : Nat → Prop) (ad : Nat → Nat → Nat) (hok : okad ad) (Z : va_W) (ao : Nat) (g : Nat → Int64) (x_K : Nat → Ob) (p1 : Int32) (p2 : Int32) (p3 : Int32) (p4 : Int32) (r : Int32) (x_K9 : Nat → Ob) (h : f_X10_edgeCost x_K p1 p2 p3 p4 = some (0, r, x_K9)) : Met l yL_edgeCost (Cond.codeWith yL_edgeCost cL_edgeCost 7 (some .int) [(0, 14, 17, 21)] :: wsL_law) (rmx 11 0) (Pw D T A (outc T ao g ++ (oc_X10 T (ad 0) (bb ad) (x_K 0) ++ (wkL T ad x_K L18 ++ Z))) [.ref (ad 0 0), .int p1, .int p2, .int p3, .int p4, .ref ao]) (Qgi D A (outc T ao (vp_updL g 0 r.toInt64) ++ (oc_X10 T (ad 0) (bb ad) (x_K9 0) ++ (wkL T ad x_K9 L18 ++ Z))) 0) (ex1 0) (ex6 0) A := by
  refine va_MetW (cc := cL_edgeCost) (maxL := 7) (ret := (some .int)) (hh := [(0, 14, 17, 21)]) (by decide +kernel) rfl ?_
  intro p e s m args below meth c s₁ B hml hv
  obtain ⟨ha, hP, hK, hD, hN, hE, hC⟩ := hv
  have hx := B.exec
  have hb := B.bytes
  have hr := B.returns
  have hlk := B.notSynchronized
  have hts0 := atoms_spec (ws := Cond.codeWith yL_edgeCost cL_edgeCost 7 (some .int) [(0, 14, 17, 21)] :: wsL_law) B.pre
  have hts : ∀ w ∈ wsL_law, w.before args s = true := fun w hw => hts0 w (List.mem_cons_of_mem _ hw)
  have htab := vx_table (x := yL_word) B (hts0 _ List.mem_cons_self)
  have hown : s.vm.findClass RL = some m.cls := findClass_of_methodNamed B.named
  have hW : Wd D A s.heap (outc T ao g ++ (oc_X10 T (ad 0) (bb ad) (x_K 0) ++ (wkL T ad x_K L18 ++ Z))) s.heap [] := ⟨hP, hD, va_S.rf⟩
  have hl := lv_entry [.ref (ad 0 0), .int p1, .int p2, .int p3, .int p4, .ref ao] (n := 7) (Nat.le_of_ble_eq_true rfl)
  refine W.eq (en_eq ha) ?_
  generalize (lg_sl [.ref (ad 0 0), .int p1, .int p2, .int p3, .int p4, .ref ao] ++ List.replicate (7 - (lg_sl [.ref (ad 0 0), .int p1, .int p2, .int p3, .int p4, .ref ao]).length) Slot.unset).toArray = ls at hl ⊢
  have hl : lv_has ls 7 [(0, .ref (ad 0 0)), (1, .int p1), (2, .int p2), (3, .int p3), (4, .int p4), (5, .ref ao)] := hl
  clear hP hD B ha
  change W p l e (rmx 11 0) s m args below meth c s.heap [] 0 0 _ (F0 m 0 ls [])
  refine lv_aload hx hb dL_edgeCost_0 (lv_at hl 5 rfl) ?_
  refine lv_iconst (v := 0) hx hb dL_edgeCost_2 (by decide) ?_
  refine lv_aload_n hx hb dL_edgeCost_3 rfl (lv_at hl 0 rfl) ?_
  refine lv_iload_n hx hb dL_edgeCost_4 rfl (lv_at hl 1 rfl) ?_
  refine lv_iload_n hx hb dL_edgeCost_5 rfl (lv_at hl 2 rfl) ?_
  refine lv_iload_n hx hb dL_edgeCost_6 rfl (lv_at hl 3 rfl) ?_
  refine lv_iload hx hb dL_edgeCost_7 (lv_at hl 4 rfl) ?_
  have hW := hW.perm pf2.symm
  refine x0_vi hx hb hml hown hts hK hN hE hW (g_cw (n := 4) hts wm36_11 wm36_12 wm36_13 wm1_2 wm36_14 ⟨rfl, by decide +kernel, by decide +kernel, by decide +kernel⟩ ⟨rfl, rfl⟩ ⟨Nat.le_of_ble_eq_true rfl, Nat.le_of_ble_eq_true rfl⟩) ⟨10, (RX10, TX10, 13), _, rfl, rfl, rfl⟩ (c_X10_edgeCost l hfl D T A ad hok (outc T ao g ++ Z) x_K p1 p2 p3 p4 0 r x_K9 h) rfl hl.1 rfl (Nat.le_of_ble_eq_true rfl) dL_edgeCost_9 ⟨Nat.zero_le _, Nat.zero_le _⟩ (fun H locs hW => ?_)
  have hW := hW.perm pf2
  refine lv_i2l (v := r.toInt64) hx hb dL_edgeCost_12 rfl ?_
  refine g_last hx hb hK hW dL_edgeCost_13 (fun H locs hW => ?_)
  refine lv_goto (tgt := 21) hx hb dL_edgeCost_14 (by decide) ?_
  refine lv_iconst (v := 0) hx hb dL_edgeCost_21 (by decide) ?_
  exact g_reti hx hb hr hlk hW dL_edgeCost_22
set_option maxHeartbeats 4000000 in
set_option maxRecDepth 100000 in
theorem wL_edgeCost_1 (l : Launch) (hfl : l.stackTraces = false) (D : va_G) (T : Nat → ClassId) (A : Nat → Prop) (ad : Nat → Nat → Nat) (hok : okad ad) (Z : va_W) (ao : Nat) (g : Nat → Int64) (x_K : Nat → Ob) (p1 : Int32) (p2 : Int32) (p3 : Int32) (p4 : Int32) (r : Int32) (x_K9 : Nat → Ob) (h : f_X10_edgeCost x_K p1 p2 p3 p4 = some (1, r, x_K9)) : Met l yL_edgeCost (Cond.codeWith yL_edgeCost cL_edgeCost 7 (some .int) [(0, 14, 17, 21)] :: wsL_law) (rmx 11 1) (Pw D T A (outc T ao g ++ (oc_X10 T (ad 0) (bb ad) (x_K 0) ++ (wkL T ad x_K L18 ++ Z))) [.ref (ad 0 0), .int p1, .int p2, .int p3, .int p4, .ref ao]) (Qgi D A (outc T ao g ++ (oc_X10 T (ad 0) (bb ad) (x_K9 0) ++ (wkL T ad x_K9 L18 ++ Z))) 1) (ex1 1) (ex6 1) A := by
  refine va_MetW (cc := cL_edgeCost) (maxL := 7) (ret := (some .int)) (hh := [(0, 14, 17, 21)]) (by decide +kernel) rfl ?_
  intro p e s m args below meth c s₁ B hml hv
  obtain ⟨ha, hP, hK, hD, hN, hE, hC⟩ := hv
  have hx := B.exec
  have hb := B.bytes
  have hr := B.returns
  have hlk := B.notSynchronized
  have hts0 := atoms_spec (ws := Cond.codeWith yL_edgeCost cL_edgeCost 7 (some .int) [(0, 14, 17, 21)] :: wsL_law) B.pre
  have hts : ∀ w ∈ wsL_law, w.before args s = true := fun w hw => hts0 w (List.mem_cons_of_mem _ hw)
  have htab := vx_table (x := yL_word) B (hts0 _ List.mem_cons_self)
  have hown : s.vm.findClass RL = some m.cls := findClass_of_methodNamed B.named
  have hW : Wd D A s.heap (outc T ao g ++ (oc_X10 T (ad 0) (bb ad) (x_K 0) ++ (wkL T ad x_K L18 ++ Z))) s.heap [] := ⟨hP, hD, va_S.rf⟩
  have hl := lv_entry [.ref (ad 0 0), .int p1, .int p2, .int p3, .int p4, .ref ao] (n := 7) (Nat.le_of_ble_eq_true rfl)
  refine W.eq (en_eq ha) ?_
  generalize (lg_sl [.ref (ad 0 0), .int p1, .int p2, .int p3, .int p4, .ref ao] ++ List.replicate (7 - (lg_sl [.ref (ad 0 0), .int p1, .int p2, .int p3, .int p4, .ref ao]).length) Slot.unset).toArray = ls at hl ⊢
  have hl : lv_has ls 7 [(0, .ref (ad 0 0)), (1, .int p1), (2, .int p2), (3, .int p3), (4, .int p4), (5, .ref ao)] := hl
  clear hP hD B ha
  change W p l e (rmx 11 1) s m args below meth c s.heap [] 0 0 _ (F0 m 0 ls [])
  refine lv_aload hx hb dL_edgeCost_0 (lv_at hl 5 rfl) ?_
  refine lv_iconst (v := 0) hx hb dL_edgeCost_2 (by decide) ?_
  refine lv_aload_n hx hb dL_edgeCost_3 rfl (lv_at hl 0 rfl) ?_
  refine lv_iload_n hx hb dL_edgeCost_4 rfl (lv_at hl 1 rfl) ?_
  refine lv_iload_n hx hb dL_edgeCost_5 rfl (lv_at hl 2 rfl) ?_
  refine lv_iload_n hx hb dL_edgeCost_6 rfl (lv_at hl 3 rfl) ?_
  refine lv_iload hx hb dL_edgeCost_7 (lv_at hl 4 rfl) ?_
  have hW := hW.perm pf2.symm
  refine xc_vi (by decide) hx hb hml hown hts hK hN hE hW (g_cw (n := 4) hts wm36_11 wm36_12 wm36_13 wm1_2 wm36_14 ⟨rfl, by decide +kernel, by decide +kernel, by decide +kernel⟩ ⟨rfl, rfl⟩ ⟨Nat.le_of_ble_eq_true rfl, Nat.le_of_ble_eq_true rfl⟩) ⟨10, (RX10, TX10, 13), _, rfl, rfl, rfl⟩ (c_X10_edgeCost l hfl D T A ad hok (outc T ao g ++ Z) x_K p1 p2 p3 p4 1 r x_K9 h) rfl hl.1 rfl (Nat.le_of_ble_eq_true rfl) dL_edgeCost_9 ⟨Nat.le_of_ble_eq_true rfl, Nat.le_of_ble_eq_true rfl⟩ (fun ce q9 H locs hW hce hcv hcl => ?_)
  have hW := hW.perm pf2
  refine vx_catch hown [] ⟨0, 14, 17, 21⟩ [] (htab.trans rfl) (fun z hz => absurd hz List.not_mem_nil) (by decide) (by decide) (hts _ wm11_20) (va_Nw.use rfl (hE.2.2.1 (exN 1) (by decide))) hce hcv hcl ?_
  refine lv_astore (lv' := [(6, .ref q9), (0, .ref (ad 0 0)), (1, .int p1), (2, .int p2), (3, .int p3), (4, .int p4), (5, .ref ao)]) hx hb dL_edgeCost_17 hl (by decide) rfl (fun ls hl => ?_)
  refine lv_iconst (v := 1) hx hb dL_edgeCost_19 (by decide) ?_
  exact g_reti hx hb hr hlk hW dL_edgeCost_20
set_option maxHeartbeats 4000000 in
set_option maxRecDepth 100000 in
theorem wL_cost_0 (l : Launch) (hfl : l.stackTraces = false) (D : va_G) (T : Nat → ClassId) (A : Nat → Prop) (ad : Nat → Nat → Nat) (hok : okad ad) (Z : va_W) (ao : Nat) (g : Nat → Int64) (x_K : Nat → Ob) (p1 : Int32) (r : Int32) (x_K9 : Nat → Ob) (h : f_X10_cost x_K p1 = some (0, r, x_K9)) : Met l yL_cost (Cond.codeWith yL_cost cL_cost 4 (some .int) [(0, 9, 12, 21)] :: wsL_law) (rmx 11 0) (Pw D T A (outc T ao g ++ (oc_X10 T (ad 0) (bb ad) (x_K 0) ++ (wkL T ad x_K L18 ++ Z))) [.ref (ad 0 0), .int p1, .ref ao]) (Qgi D A (outc T ao (vp_updL g 0 r.toInt64) ++ (oc_X10 T (ad 0) (bb ad) (x_K9 0) ++ (wkL T ad x_K9 L18 ++ Z))) 0) (ex1 0) (ex6 0) A := by
  refine va_MetW (cc := cL_cost) (maxL := 4) (ret := (some .int)) (hh := [(0, 9, 12, 21)]) (by decide +kernel) rfl ?_
  intro p e s m args below meth c s₁ B hml hv
  obtain ⟨ha, hP, hK, hD, hN, hE, hC⟩ := hv
  have hx := B.exec
  have hb := B.bytes
  have hr := B.returns
  have hlk := B.notSynchronized
  have hts0 := atoms_spec (ws := Cond.codeWith yL_cost cL_cost 4 (some .int) [(0, 9, 12, 21)] :: wsL_law) B.pre
  have hts : ∀ w ∈ wsL_law, w.before args s = true := fun w hw => hts0 w (List.mem_cons_of_mem _ hw)
  have htab := vx_table (x := yL_word) B (hts0 _ List.mem_cons_self)
  have hown : s.vm.findClass RL = some m.cls := findClass_of_methodNamed B.named
  have hW : Wd D A s.heap (outc T ao g ++ (oc_X10 T (ad 0) (bb ad) (x_K 0) ++ (wkL T ad x_K L18 ++ Z))) s.heap [] := ⟨hP, hD, va_S.rf⟩
  have hl := lv_entry [.ref (ad 0 0), .int p1, .ref ao] (n := 4) (Nat.le_of_ble_eq_true rfl)
  refine W.eq (en_eq ha) ?_
  generalize (lg_sl [.ref (ad 0 0), .int p1, .ref ao] ++ List.replicate (4 - (lg_sl [.ref (ad 0 0), .int p1, .ref ao]).length) Slot.unset).toArray = ls at hl ⊢
  have hl : lv_has ls 4 [(0, .ref (ad 0 0)), (1, .int p1), (2, .ref ao)] := hl
  clear hP hD B ha
  change W p l e (rmx 11 0) s m args below meth c s.heap [] 0 0 _ (F0 m 0 ls [])
  refine lv_aload_n hx hb dL_cost_0 rfl (lv_at hl 2 rfl) ?_
  refine lv_iconst (v := 0) hx hb dL_cost_1 (by decide) ?_
  refine lv_aload_n hx hb dL_cost_2 rfl (lv_at hl 0 rfl) ?_
  refine lv_iload_n hx hb dL_cost_3 rfl (lv_at hl 1 rfl) ?_
  have hW := hW.perm pf2.symm
  refine x0_vi hx hb hml hown hts hK hN hE hW (g_cw (n := 1) hts wm36_23 wm37_0 wm37_1 wm1_2 wm37_2 ⟨rfl, by decide +kernel, by decide +kernel, by decide +kernel⟩ ⟨rfl, rfl⟩ ⟨Nat.le_of_ble_eq_true rfl, Nat.le_of_ble_eq_true rfl⟩) ⟨10, (RX10, TX10, 13), _, rfl, rfl, rfl⟩ (c_X10_cost l hfl D T A ad hok (outc T ao g ++ Z) x_K p1 0 r x_K9 h) rfl hl.1 rfl (Nat.le_of_ble_eq_true rfl) dL_cost_4 ⟨Nat.zero_le _, Nat.zero_le _⟩ (fun H locs hW => ?_)
  have hW := hW.perm pf2
  refine lv_i2l (v := r.toInt64) hx hb dL_cost_7 rfl ?_
  refine g_last hx hb hK hW dL_cost_8 (fun H locs hW => ?_)
  refine lv_goto (tgt := 15) hx hb dL_cost_9 (by decide) ?_
  refine lv_iconst (v := 0) hx hb dL_cost_15 (by decide) ?_
  exact g_reti hx hb hr hlk hW dL_cost_16
set_option maxHeartbeats 4000000 in
set_option maxRecDepth 100000 in
theorem wL_cost_1 (l : Launch) (hfl : l.stackTraces = false) (D : va_G) (T : Nat → ClassId) (A : Nat → Prop) (ad : Nat → Nat → Nat) (hok : okad ad) (Z : va_W) (ao : Nat) (g : Nat → Int64) (x_K : Nat → Ob) (p1 : Int32) (r : Int32) (x_K9 : Nat → Ob) (h : f_X10_cost x_K p1 = some (1, r, x_K9)) : Met l yL_cost (Cond.codeWith yL_cost cL_cost 4 (some .int) [(0, 9, 12, 21)] :: wsL_law) (rmx 11 1) (Pw D T A (outc T ao g ++ (oc_X10 T (ad 0) (bb ad) (x_K 0) ++ (wkL T ad x_K L18 ++ Z))) [.ref (ad 0 0), .int p1, .ref ao]) (Qgi D A (outc T ao g ++ (oc_X10 T (ad 0) (bb ad) (x_K9 0) ++ (wkL T ad x_K9 L18 ++ Z))) 1) (ex1 1) (ex6 1) A := by
  refine va_MetW (cc := cL_cost) (maxL := 4) (ret := (some .int)) (hh := [(0, 9, 12, 21)]) (by decide +kernel) rfl ?_
  intro p e s m args below meth c s₁ B hml hv
  obtain ⟨ha, hP, hK, hD, hN, hE, hC⟩ := hv
  have hx := B.exec
  have hb := B.bytes
  have hr := B.returns
  have hlk := B.notSynchronized
  have hts0 := atoms_spec (ws := Cond.codeWith yL_cost cL_cost 4 (some .int) [(0, 9, 12, 21)] :: wsL_law) B.pre
  have hts : ∀ w ∈ wsL_law, w.before args s = true := fun w hw => hts0 w (List.mem_cons_of_mem _ hw)
  have htab := vx_table (x := yL_word) B (hts0 _ List.mem_cons_self)
  have hown : s.vm.findClass RL = some m.cls := findClass_of_methodNamed B.named
  have hW : Wd D A s.heap (outc T ao g ++ (oc_X10 T (ad 0) (bb ad) (x_K 0) ++ (wkL T ad x_K L18 ++ Z))) s.heap [] := ⟨hP, hD, va_S.rf⟩
  have hl := lv_entry [.ref (ad 0 0), .int p1, .ref ao] (n := 4) (Nat.le_of_ble_eq_true rfl)
  refine W.eq (en_eq ha) ?_
  generalize (lg_sl [.ref (ad 0 0), .int p1, .ref ao] ++ List.replicate (4 - (lg_sl [.ref (ad 0 0), .int p1, .ref ao]).length) Slot.unset).toArray = ls at hl ⊢
  have hl : lv_has ls 4 [(0, .ref (ad 0 0)), (1, .int p1), (2, .ref ao)] := hl
  clear hP hD B ha
  change W p l e (rmx 11 1) s m args below meth c s.heap [] 0 0 _ (F0 m 0 ls [])
  refine lv_aload_n hx hb dL_cost_0 rfl (lv_at hl 2 rfl) ?_
  refine lv_iconst (v := 0) hx hb dL_cost_1 (by decide) ?_
  refine lv_aload_n hx hb dL_cost_2 rfl (lv_at hl 0 rfl) ?_
  refine lv_iload_n hx hb dL_cost_3 rfl (lv_at hl 1 rfl) ?_
  have hW := hW.perm pf2.symm
  refine xc_vi (by decide) hx hb hml hown hts hK hN hE hW (g_cw (n := 1) hts wm36_23 wm37_0 wm37_1 wm1_2 wm37_2 ⟨rfl, by decide +kernel, by decide +kernel, by decide +kernel⟩ ⟨rfl, rfl⟩ ⟨Nat.le_of_ble_eq_true rfl, Nat.le_of_ble_eq_true rfl⟩) ⟨10, (RX10, TX10, 13), _, rfl, rfl, rfl⟩ (c_X10_cost l hfl D T A ad hok (outc T ao g ++ Z) x_K p1 1 r x_K9 h) rfl hl.1 rfl (Nat.le_of_ble_eq_true rfl) dL_cost_4 ⟨Nat.le_of_ble_eq_true rfl, Nat.le_of_ble_eq_true rfl⟩ (fun ce q9 H locs hW hce hcv hcl => ?_)
  have hW := hW.perm pf2
  refine vx_catch hown [] ⟨0, 9, 12, 21⟩ [] (htab.trans rfl) (fun z hz => absurd hz List.not_mem_nil) (by decide) (by decide) (hts _ wm11_20) (va_Nw.use rfl (hE.2.2.1 (exN 1) (by decide))) hce hcv hcl ?_
  refine lv_astore_n (lv' := [(3, .ref q9), (0, .ref (ad 0 0)), (1, .int p1), (2, .ref ao)]) hx hb dL_cost_12 rfl hl (by decide) rfl (fun ls hl => ?_)
  refine lv_iconst (v := 1) hx hb dL_cost_13 (by decide) ?_
  exact g_reti hx hb hr hlk hW dL_cost_14
set_option maxHeartbeats 4000000 in
set_option maxRecDepth 100000 in
theorem wL_costAnew_0 (l : Launch) (hfl : l.stackTraces = false) (D : va_G) (T : Nat → ClassId) (A : Nat → Prop) (ad : Nat → Nat → Nat) (hok : okad ad) (Z : va_W) (ao : Nat) (g : Nat → Int64) (x_K : Nat → Ob) (p1 : Int32) (r : Int32) (x_K9 : Nat → Ob) (h : f_X10_costAnew x_K p1 = some (0, r, x_K9)) : Met l yL_costAnew (Cond.codeWith yL_costAnew cL_costAnew 4 (some .int) [(0, 9, 12, 21)] :: wsL_law) (rmx 11 0) (Pw D T A (outc T ao g ++ (oc_X10 T (ad 0) (bb ad) (x_K 0) ++ (wkL T ad x_K L18 ++ Z))) [.ref (ad 0 0), .int p1, .ref ao]) (Qgi D A (outc T ao (vp_updL g 0 r.toInt64) ++ (oc_X10 T (ad 0) (bb ad) (x_K9 0) ++ (wkL T ad x_K9 L18 ++ Z))) 0) (ex1 0) (ex6 0) A := by
  refine va_MetW (cc := cL_costAnew) (maxL := 4) (ret := (some .int)) (hh := [(0, 9, 12, 21)]) (by decide +kernel) rfl ?_
  intro p e s m args below meth c s₁ B hml hv
  obtain ⟨ha, hP, hK, hD, hN, hE, hC⟩ := hv
  have hx := B.exec
  have hb := B.bytes
  have hr := B.returns
  have hlk := B.notSynchronized
  have hts0 := atoms_spec (ws := Cond.codeWith yL_costAnew cL_costAnew 4 (some .int) [(0, 9, 12, 21)] :: wsL_law) B.pre
  have hts : ∀ w ∈ wsL_law, w.before args s = true := fun w hw => hts0 w (List.mem_cons_of_mem _ hw)
  have htab := vx_table (x := yL_word) B (hts0 _ List.mem_cons_self)
  have hown : s.vm.findClass RL = some m.cls := findClass_of_methodNamed B.named
  have hW : Wd D A s.heap (outc T ao g ++ (oc_X10 T (ad 0) (bb ad) (x_K 0) ++ (wkL T ad x_K L18 ++ Z))) s.heap [] := ⟨hP, hD, va_S.rf⟩
  have hl := lv_entry [.ref (ad 0 0), .int p1, .ref ao] (n := 4) (Nat.le_of_ble_eq_true rfl)
  refine W.eq (en_eq ha) ?_
  generalize (lg_sl [.ref (ad 0 0), .int p1, .ref ao] ++ List.replicate (4 - (lg_sl [.ref (ad 0 0), .int p1, .ref ao]).length) Slot.unset).toArray = ls at hl ⊢
  have hl : lv_has ls 4 [(0, .ref (ad 0 0)), (1, .int p1), (2, .ref ao)] := hl
  clear hP hD B ha
  change W p l e (rmx 11 0) s m args below meth c s.heap [] 0 0 _ (F0 m 0 ls [])
  refine lv_aload_n hx hb dL_costAnew_0 rfl (lv_at hl 2 rfl) ?_
  refine lv_iconst (v := 0) hx hb dL_costAnew_1 (by decide) ?_
  refine lv_aload_n hx hb dL_costAnew_2 rfl (lv_at hl 0 rfl) ?_
  refine lv_iload_n hx hb dL_costAnew_3 rfl (lv_at hl 1 rfl) ?_
  have hW := hW.perm pf2.symm
  refine x0_vi hx hb hml hown hts hK hN hE hW (g_cw (n := 1) hts wm38_7 wm38_8 wm38_9 wm1_2 wm38_10 ⟨rfl, by decide +kernel, by decide +kernel, by decide +kernel⟩ ⟨rfl, rfl⟩ ⟨Nat.le_of_ble_eq_true rfl, Nat.le_of_ble_eq_true rfl⟩) ⟨10, (RX10, TX10, 13), _, rfl, rfl, rfl⟩ (c_X10_costAnew l hfl D T A ad hok (outc T ao g ++ Z) x_K p1 0 r x_K9 h) rfl hl.1 rfl (Nat.le_of_ble_eq_true rfl) dL_costAnew_4 ⟨Nat.zero_le _, Nat.zero_le _⟩ (fun H locs hW => ?_)
  have hW := hW.perm pf2
  refine lv_i2l (v := r.toInt64) hx hb dL_costAnew_7 rfl ?_
  refine g_last hx hb hK hW dL_costAnew_8 (fun H locs hW => ?_)
  refine lv_goto (tgt := 15) hx hb dL_costAnew_9 (by decide) ?_
  refine lv_iconst (v := 0) hx hb dL_costAnew_15 (by decide) ?_
  exact g_reti hx hb hr hlk hW dL_costAnew_16
set_option maxHeartbeats 4000000 in
set_option maxRecDepth 100000 in
theorem wL_costAnew_1 (l : Launch) (hfl : l.stackTraces = false) (D : va_G) (T : Nat → ClassId) (A : Nat → Prop) (ad : Nat → Nat → Nat) (hok : okad ad) (Z : va_W) (ao : Nat) (g : Nat → Int64) (x_K : Nat → Ob) (p1 : Int32) (r : Int32) (x_K9 : Nat → Ob) (h : f_X10_costAnew x_K p1 = some (1, r, x_K9)) : Met l yL_costAnew (Cond.codeWith yL_costAnew cL_costAnew 4 (some .int) [(0, 9, 12, 21)] :: wsL_law) (rmx 11 1) (Pw D T A (outc T ao g ++ (oc_X10 T (ad 0) (bb ad) (x_K 0) ++ (wkL T ad x_K L18 ++ Z))) [.ref (ad 0 0), .int p1, .ref ao]) (Qgi D A (outc T ao g ++ (oc_X10 T (ad 0) (bb ad) (x_K9 0) ++ (wkL T ad x_K9 L18 ++ Z))) 1) (ex1 1) (ex6 1) A := by
  refine va_MetW (cc := cL_costAnew) (maxL := 4) (ret := (some .int)) (hh := [(0, 9, 12, 21)]) (by decide +kernel) rfl ?_
  intro p e s m args below meth c s₁ B hml hv
  obtain ⟨ha, hP, hK, hD, hN, hE, hC⟩ := hv
  have hx := B.exec
  have hb := B.bytes
  have hr := B.returns
  have hlk := B.notSynchronized
  have hts0 := atoms_spec (ws := Cond.codeWith yL_costAnew cL_costAnew 4 (some .int) [(0, 9, 12, 21)] :: wsL_law) B.pre
  have hts : ∀ w ∈ wsL_law, w.before args s = true := fun w hw => hts0 w (List.mem_cons_of_mem _ hw)
  have htab := vx_table (x := yL_word) B (hts0 _ List.mem_cons_self)
  have hown : s.vm.findClass RL = some m.cls := findClass_of_methodNamed B.named
  have hW : Wd D A s.heap (outc T ao g ++ (oc_X10 T (ad 0) (bb ad) (x_K 0) ++ (wkL T ad x_K L18 ++ Z))) s.heap [] := ⟨hP, hD, va_S.rf⟩
  have hl := lv_entry [.ref (ad 0 0), .int p1, .ref ao] (n := 4) (Nat.le_of_ble_eq_true rfl)
  refine W.eq (en_eq ha) ?_
  generalize (lg_sl [.ref (ad 0 0), .int p1, .ref ao] ++ List.replicate (4 - (lg_sl [.ref (ad 0 0), .int p1, .ref ao]).length) Slot.unset).toArray = ls at hl ⊢
  have hl : lv_has ls 4 [(0, .ref (ad 0 0)), (1, .int p1), (2, .ref ao)] := hl
  clear hP hD B ha
  change W p l e (rmx 11 1) s m args below meth c s.heap [] 0 0 _ (F0 m 0 ls [])
  refine lv_aload_n hx hb dL_costAnew_0 rfl (lv_at hl 2 rfl) ?_
  refine lv_iconst (v := 0) hx hb dL_costAnew_1 (by decide) ?_
  refine lv_aload_n hx hb dL_costAnew_2 rfl (lv_at hl 0 rfl) ?_
  refine lv_iload_n hx hb dL_costAnew_3 rfl (lv_at hl 1 rfl) ?_
  have hW := hW.perm pf2.symm
  refine xc_vi (by decide) hx hb hml hown hts hK hN hE hW (g_cw (n := 1) hts wm38_7 wm38_8 wm38_9 wm1_2 wm38_10 ⟨rfl, by decide +kernel, by decide +kernel, by decide +kernel⟩ ⟨rfl, rfl⟩ ⟨Nat.le_of_ble_eq_true rfl, Nat.le_of_ble_eq_true rfl⟩) ⟨10, (RX10, TX10, 13), _, rfl, rfl, rfl⟩ (c_X10_costAnew l hfl D T A ad hok (outc T ao g ++ Z) x_K p1 1 r x_K9 h) rfl hl.1 rfl (Nat.le_of_ble_eq_true rfl) dL_costAnew_4 ⟨Nat.le_of_ble_eq_true rfl, Nat.le_of_ble_eq_true rfl⟩ (fun ce q9 H locs hW hce hcv hcl => ?_)
  have hW := hW.perm pf2
  refine vx_catch hown [] ⟨0, 9, 12, 21⟩ [] (htab.trans rfl) (fun z hz => absurd hz List.not_mem_nil) (by decide) (by decide) (hts _ wm11_20) (va_Nw.use rfl (hE.2.2.1 (exN 1) (by decide))) hce hcv hcl ?_
  refine lv_astore_n (lv' := [(3, .ref q9), (0, .ref (ad 0 0)), (1, .int p1), (2, .ref ao)]) hx hb dL_costAnew_12 rfl hl (by decide) rfl (fun ls hl => ?_)
  refine lv_iconst (v := 1) hx hb dL_costAnew_13 (by decide) ?_
  exact g_reti hx hb hr hlk hW dL_costAnew_14
set_option maxHeartbeats 4000000 in
set_option maxRecDepth 100000 in
theorem wL_faults_0 (l : Launch) (hfl : l.stackTraces = false) (D : va_G) (T : Nat → ClassId) (A : Nat → Prop) (ad : Nat → Nat → Nat) (hok : okad ad) (Z : va_W) (ao : Nat) (g : Nat → Int64) (x_K : Nat → Ob) (p1 : Int32) (r : Int32) (x_K9 : Nat → Ob) (h : f_X10_faults x_K p1 = some (0, r, x_K9)) : Met l yL_faults (Cond.codeWith yL_faults cL_faults 4 (some .int) [(0, 9, 12, 21)] :: wsL_law) (rmx 11 0) (Pw D T A (outc T ao g ++ (oc_X10 T (ad 0) (bb ad) (x_K 0) ++ (wkL T ad x_K L18 ++ Z))) [.ref (ad 0 0), .int p1, .ref ao]) (Qgi D A (outc T ao (vp_updL g 0 r.toInt64) ++ (oc_X10 T (ad 0) (bb ad) (x_K9 0) ++ (wkL T ad x_K9 L18 ++ Z))) 0) (ex1 0) (ex6 0) A := by
  refine va_MetW (cc := cL_faults) (maxL := 4) (ret := (some .int)) (hh := [(0, 9, 12, 21)]) (by decide +kernel) rfl ?_
  intro p e s m args below meth c s₁ B hml hv
  obtain ⟨ha, hP, hK, hD, hN, hE, hC⟩ := hv
  have hx := B.exec
  have hb := B.bytes
  have hr := B.returns
  have hlk := B.notSynchronized
  have hts0 := atoms_spec (ws := Cond.codeWith yL_faults cL_faults 4 (some .int) [(0, 9, 12, 21)] :: wsL_law) B.pre
  have hts : ∀ w ∈ wsL_law, w.before args s = true := fun w hw => hts0 w (List.mem_cons_of_mem _ hw)
  have htab := vx_table (x := yL_word) B (hts0 _ List.mem_cons_self)
  have hown : s.vm.findClass RL = some m.cls := findClass_of_methodNamed B.named
  have hW : Wd D A s.heap (outc T ao g ++ (oc_X10 T (ad 0) (bb ad) (x_K 0) ++ (wkL T ad x_K L18 ++ Z))) s.heap [] := ⟨hP, hD, va_S.rf⟩
  have hl := lv_entry [.ref (ad 0 0), .int p1, .ref ao] (n := 4) (Nat.le_of_ble_eq_true rfl)
  refine W.eq (en_eq ha) ?_
  generalize (lg_sl [.ref (ad 0 0), .int p1, .ref ao] ++ List.replicate (4 - (lg_sl [.ref (ad 0 0), .int p1, .ref ao]).length) Slot.unset).toArray = ls at hl ⊢
  have hl : lv_has ls 4 [(0, .ref (ad 0 0)), (1, .int p1), (2, .ref ao)] := hl
  clear hP hD B ha
  change W p l e (rmx 11 0) s m args below meth c s.heap [] 0 0 _ (F0 m 0 ls [])
  refine lv_aload_n hx hb dL_faults_0 rfl (lv_at hl 2 rfl) ?_
  refine lv_iconst (v := 0) hx hb dL_faults_1 (by decide) ?_
  refine lv_aload_n hx hb dL_faults_2 rfl (lv_at hl 0 rfl) ?_
  refine lv_iload_n hx hb dL_faults_3 rfl (lv_at hl 1 rfl) ?_
  have hW := hW.perm pf2.symm
  refine x0_vi hx hb hml hown hts hK hN hE hW (g_cw (n := 1) hts wm39_19 wm39_20 wm39_21 wm1_2 wm39_22 ⟨rfl, by decide +kernel, by decide +kernel, by decide +kernel⟩ ⟨rfl, rfl⟩ ⟨Nat.le_of_ble_eq_true rfl, Nat.le_of_ble_eq_true rfl⟩) ⟨10, (RX10, TX10, 13), _, rfl, rfl, rfl⟩ (c_X10_faults l hfl D T A ad hok (outc T ao g ++ Z) x_K p1 0 r x_K9 h) rfl hl.1 rfl (Nat.le_of_ble_eq_true rfl) dL_faults_4 ⟨Nat.zero_le _, Nat.zero_le _⟩ (fun H locs hW => ?_)
  have hW := hW.perm pf2
  refine lv_i2l (v := r.toInt64) hx hb dL_faults_7 rfl ?_
  refine g_last hx hb hK hW dL_faults_8 (fun H locs hW => ?_)
  refine lv_goto (tgt := 15) hx hb dL_faults_9 (by decide) ?_
  refine lv_iconst (v := 0) hx hb dL_faults_15 (by decide) ?_
  exact g_reti hx hb hr hlk hW dL_faults_16
set_option maxHeartbeats 4000000 in
set_option maxRecDepth 100000 in
theorem wL_faults_1 (l : Launch) (hfl : l.stackTraces = false) (D : va_G) (T : Nat → ClassId) (A : Nat → Prop) (ad : Nat → Nat → Nat) (hok : okad ad) (Z : va_W) (ao : Nat) (g : Nat → Int64) (x_K : Nat → Ob) (p1 : Int32) (r : Int32) (x_K9 : Nat → Ob) (h : f_X10_faults x_K p1 = some (1, r, x_K9)) : Met l yL_faults (Cond.codeWith yL_faults cL_faults 4 (some .int) [(0, 9, 12, 21)] :: wsL_law) (rmx 11 1) (Pw D T A (outc T ao g ++ (oc_X10 T (ad 0) (bb ad) (x_K 0) ++ (wkL T ad x_K L18 ++ Z))) [.ref (ad 0 0), .int p1, .ref ao]) (Qgi D A (outc T ao g ++ (oc_X10 T (ad 0) (bb ad) (x_K9 0) ++ (wkL T ad x_K9 L18 ++ Z))) 1) (ex1 1) (ex6 1) A := by
  refine va_MetW (cc := cL_faults) (maxL := 4) (ret := (some .int)) (hh := [(0, 9, 12, 21)]) (by decide +kernel) rfl ?_
  intro p e s m args below meth c s₁ B hml hv
  obtain ⟨ha, hP, hK, hD, hN, hE, hC⟩ := hv
  have hx := B.exec
  have hb := B.bytes
  have hr := B.returns
  have hlk := B.notSynchronized
  have hts0 := atoms_spec (ws := Cond.codeWith yL_faults cL_faults 4 (some .int) [(0, 9, 12, 21)] :: wsL_law) B.pre
  have hts : ∀ w ∈ wsL_law, w.before args s = true := fun w hw => hts0 w (List.mem_cons_of_mem _ hw)
  have htab := vx_table (x := yL_word) B (hts0 _ List.mem_cons_self)
  have hown : s.vm.findClass RL = some m.cls := findClass_of_methodNamed B.named
  have hW : Wd D A s.heap (outc T ao g ++ (oc_X10 T (ad 0) (bb ad) (x_K 0) ++ (wkL T ad x_K L18 ++ Z))) s.heap [] := ⟨hP, hD, va_S.rf⟩
  have hl := lv_entry [.ref (ad 0 0), .int p1, .ref ao] (n := 4) (Nat.le_of_ble_eq_true rfl)
  refine W.eq (en_eq ha) ?_
  generalize (lg_sl [.ref (ad 0 0), .int p1, .ref ao] ++ List.replicate (4 - (lg_sl [.ref (ad 0 0), .int p1, .ref ao]).length) Slot.unset).toArray = ls at hl ⊢
  have hl : lv_has ls 4 [(0, .ref (ad 0 0)), (1, .int p1), (2, .ref ao)] := hl
  clear hP hD B ha
  change W p l e (rmx 11 1) s m args below meth c s.heap [] 0 0 _ (F0 m 0 ls [])
  refine lv_aload_n hx hb dL_faults_0 rfl (lv_at hl 2 rfl) ?_
  refine lv_iconst (v := 0) hx hb dL_faults_1 (by decide) ?_
  refine lv_aload_n hx hb dL_faults_2 rfl (lv_at hl 0 rfl) ?_
  refine lv_iload_n hx hb dL_faults_3 rfl (lv_at hl 1 rfl) ?_
  have hW := hW.perm pf2.symm
  refine xc_vi (by decide) hx hb hml hown hts hK hN hE hW (g_cw (n := 1) hts wm39_19 wm39_20 wm39_21 wm1_2 wm39_22 ⟨rfl, by decide +kernel, by decide +kernel, by decide +kernel⟩ ⟨rfl, rfl⟩ ⟨Nat.le_of_ble_eq_true rfl, Nat.le_of_ble_eq_true rfl⟩) ⟨10, (RX10, TX10, 13), _, rfl, rfl, rfl⟩ (c_X10_faults l hfl D T A ad hok (outc T ao g ++ Z) x_K p1 1 r x_K9 h) rfl hl.1 rfl (Nat.le_of_ble_eq_true rfl) dL_faults_4 ⟨Nat.le_of_ble_eq_true rfl, Nat.le_of_ble_eq_true rfl⟩ (fun ce q9 H locs hW hce hcv hcl => ?_)
  have hW := hW.perm pf2
  refine vx_catch hown [] ⟨0, 9, 12, 21⟩ [] (htab.trans rfl) (fun z hz => absurd hz List.not_mem_nil) (by decide) (by decide) (hts _ wm11_20) (va_Nw.use rfl (hE.2.2.1 (exN 1) (by decide))) hce hcv hcl ?_
  refine lv_astore_n (lv' := [(3, .ref q9), (0, .ref (ad 0 0)), (1, .int p1), (2, .ref ao)]) hx hb dL_faults_12 rfl hl (by decide) rfl (fun ls hl => ?_)
  refine lv_iconst (v := 1) hx hb dL_faults_13 (by decide) ?_
  exact g_reti hx hb hr hlk hW dL_faults_14
set_option maxHeartbeats 4000000 in
set_option maxRecDepth 100000 in
theorem wL_fault_0 (l : Launch) (hfl : l.stackTraces = false) (D : va_G) (T : Nat → ClassId) (A : Nat → Prop) (ad : Nat → Nat → Nat) (hok : okad ad) (Z : va_W) (ao : Nat) (g : Nat → Int64) (x_K : Nat → Ob) (p1 : Int32) (p2 : Int32) (r : Int32) (x_K9 : Nat → Ob) (h : f_X10_fault x_K p1 p2 = some (0, r, x_K9)) : Met l yL_fault (Cond.codeWith yL_fault cL_fault 5 (some .int) [(0, 10, 13, 21)] :: wsL_law) (rmx 11 0) (Pw D T A (outc T ao g ++ (oc_X10 T (ad 0) (bb ad) (x_K 0) ++ (wkL T ad x_K L18 ++ Z))) [.ref (ad 0 0), .int p1, .int p2, .ref ao]) (Qgi D A (outc T ao (vp_updL g 0 r.toInt64) ++ (oc_X10 T (ad 0) (bb ad) (x_K9 0) ++ (wkL T ad x_K9 L18 ++ Z))) 0) (ex1 0) (ex6 0) A := by
  refine va_MetW (cc := cL_fault) (maxL := 5) (ret := (some .int)) (hh := [(0, 10, 13, 21)]) (by decide +kernel) rfl ?_
  intro p e s m args below meth c s₁ B hml hv
  obtain ⟨ha, hP, hK, hD, hN, hE, hC⟩ := hv
  have hx := B.exec
  have hb := B.bytes
  have hr := B.returns
  have hlk := B.notSynchronized
  have hts0 := atoms_spec (ws := Cond.codeWith yL_fault cL_fault 5 (some .int) [(0, 10, 13, 21)] :: wsL_law) B.pre
  have hts : ∀ w ∈ wsL_law, w.before args s = true := fun w hw => hts0 w (List.mem_cons_of_mem _ hw)
  have htab := vx_table (x := yL_word) B (hts0 _ List.mem_cons_self)
  have hown : s.vm.findClass RL = some m.cls := findClass_of_methodNamed B.named
  have hW : Wd D A s.heap (outc T ao g ++ (oc_X10 T (ad 0) (bb ad) (x_K 0) ++ (wkL T ad x_K L18 ++ Z))) s.heap [] := ⟨hP, hD, va_S.rf⟩
  have hl := lv_entry [.ref (ad 0 0), .int p1, .int p2, .ref ao] (n := 5) (Nat.le_of_ble_eq_true rfl)
  refine W.eq (en_eq ha) ?_
  generalize (lg_sl [.ref (ad 0 0), .int p1, .int p2, .ref ao] ++ List.replicate (5 - (lg_sl [.ref (ad 0 0), .int p1, .int p2, .ref ao]).length) Slot.unset).toArray = ls at hl ⊢
  have hl : lv_has ls 5 [(0, .ref (ad 0 0)), (1, .int p1), (2, .int p2), (3, .ref ao)] := hl
  clear hP hD B ha
  change W p l e (rmx 11 0) s m args below meth c s.heap [] 0 0 _ (F0 m 0 ls [])
  refine lv_aload_n hx hb dL_fault_0 rfl (lv_at hl 3 rfl) ?_
  refine lv_iconst (v := 0) hx hb dL_fault_1 (by decide) ?_
  refine lv_aload_n hx hb dL_fault_2 rfl (lv_at hl 0 rfl) ?_
  refine lv_iload_n hx hb dL_fault_3 rfl (lv_at hl 1 rfl) ?_
  refine lv_iload_n hx hb dL_fault_4 rfl (lv_at hl 2 rfl) ?_
  have hW := hW.perm pf2.symm
  refine x0_vi hx hb hml hown hts hK hN hE hW (g_cw (n := 2) hts wm40_23 wm41_0 wm41_1 wm1_2 wm41_2 ⟨rfl, by decide +kernel, by decide +kernel, by decide +kernel⟩ ⟨rfl, rfl⟩ ⟨Nat.le_of_ble_eq_true rfl, Nat.le_of_ble_eq_true rfl⟩) ⟨10, (RX10, TX10, 13), _, rfl, rfl, rfl⟩ (c_X10_fault l hfl D T A ad hok (outc T ao g ++ Z) x_K p1 p2 0 r x_K9 h) rfl hl.1 rfl (Nat.le_of_ble_eq_true rfl) dL_fault_5 ⟨Nat.zero_le _, Nat.zero_le _⟩ (fun H locs hW => ?_)
  have hW := hW.perm pf2
  refine lv_i2l (v := r.toInt64) hx hb dL_fault_8 rfl ?_
  refine g_last hx hb hK hW dL_fault_9 (fun H locs hW => ?_)
  refine lv_goto (tgt := 17) hx hb dL_fault_10 (by decide) ?_
  refine lv_iconst (v := 0) hx hb dL_fault_17 (by decide) ?_
  exact g_reti hx hb hr hlk hW dL_fault_18
set_option maxHeartbeats 4000000 in
set_option maxRecDepth 100000 in
theorem wL_fault_1 (l : Launch) (hfl : l.stackTraces = false) (D : va_G) (T : Nat → ClassId) (A : Nat → Prop) (ad : Nat → Nat → Nat) (hok : okad ad) (Z : va_W) (ao : Nat) (g : Nat → Int64) (x_K : Nat → Ob) (p1 : Int32) (p2 : Int32) (r : Int32) (x_K9 : Nat → Ob) (h : f_X10_fault x_K p1 p2 = some (1, r, x_K9)) : Met l yL_fault (Cond.codeWith yL_fault cL_fault 5 (some .int) [(0, 10, 13, 21)] :: wsL_law) (rmx 11 1) (Pw D T A (outc T ao g ++ (oc_X10 T (ad 0) (bb ad) (x_K 0) ++ (wkL T ad x_K L18 ++ Z))) [.ref (ad 0 0), .int p1, .int p2, .ref ao]) (Qgi D A (outc T ao g ++ (oc_X10 T (ad 0) (bb ad) (x_K9 0) ++ (wkL T ad x_K9 L18 ++ Z))) 1) (ex1 1) (ex6 1) A := by
  refine va_MetW (cc := cL_fault) (maxL := 5) (ret := (some .int)) (hh := [(0, 10, 13, 21)]) (by decide +kernel) rfl ?_
  intro p e s m args below meth c s₁ B hml hv
  obtain ⟨ha, hP, hK, hD, hN, hE, hC⟩ := hv
  have hx := B.exec
  have hb := B.bytes
  have hr := B.returns
  have hlk := B.notSynchronized
  have hts0 := atoms_spec (ws := Cond.codeWith yL_fault cL_fault 5 (some .int) [(0, 10, 13, 21)] :: wsL_law) B.pre
  have hts : ∀ w ∈ wsL_law, w.before args s = true := fun w hw => hts0 w (List.mem_cons_of_mem _ hw)
  have htab := vx_table (x := yL_word) B (hts0 _ List.mem_cons_self)
  have hown : s.vm.findClass RL = some m.cls := findClass_of_methodNamed B.named
  have hW : Wd D A s.heap (outc T ao g ++ (oc_X10 T (ad 0) (bb ad) (x_K 0) ++ (wkL T ad x_K L18 ++ Z))) s.heap [] := ⟨hP, hD, va_S.rf⟩
  have hl := lv_entry [.ref (ad 0 0), .int p1, .int p2, .ref ao] (n := 5) (Nat.le_of_ble_eq_true rfl)
  refine W.eq (en_eq ha) ?_
  generalize (lg_sl [.ref (ad 0 0), .int p1, .int p2, .ref ao] ++ List.replicate (5 - (lg_sl [.ref (ad 0 0), .int p1, .int p2, .ref ao]).length) Slot.unset).toArray = ls at hl ⊢
  have hl : lv_has ls 5 [(0, .ref (ad 0 0)), (1, .int p1), (2, .int p2), (3, .ref ao)] := hl
  clear hP hD B ha
  change W p l e (rmx 11 1) s m args below meth c s.heap [] 0 0 _ (F0 m 0 ls [])
  refine lv_aload_n hx hb dL_fault_0 rfl (lv_at hl 3 rfl) ?_
  refine lv_iconst (v := 0) hx hb dL_fault_1 (by decide) ?_
  refine lv_aload_n hx hb dL_fault_2 rfl (lv_at hl 0 rfl) ?_
  refine lv_iload_n hx hb dL_fault_3 rfl (lv_at hl 1 rfl) ?_
  refine lv_iload_n hx hb dL_fault_4 rfl (lv_at hl 2 rfl) ?_
  have hW := hW.perm pf2.symm
  refine xc_vi (by decide) hx hb hml hown hts hK hN hE hW (g_cw (n := 2) hts wm40_23 wm41_0 wm41_1 wm1_2 wm41_2 ⟨rfl, by decide +kernel, by decide +kernel, by decide +kernel⟩ ⟨rfl, rfl⟩ ⟨Nat.le_of_ble_eq_true rfl, Nat.le_of_ble_eq_true rfl⟩) ⟨10, (RX10, TX10, 13), _, rfl, rfl, rfl⟩ (c_X10_fault l hfl D T A ad hok (outc T ao g ++ Z) x_K p1 p2 1 r x_K9 h) rfl hl.1 rfl (Nat.le_of_ble_eq_true rfl) dL_fault_5 ⟨Nat.le_of_ble_eq_true rfl, Nat.le_of_ble_eq_true rfl⟩ (fun ce q9 H locs hW hce hcv hcl => ?_)
  have hW := hW.perm pf2
  refine vx_catch hown [] ⟨0, 10, 13, 21⟩ [] (htab.trans rfl) (fun z hz => absurd hz List.not_mem_nil) (by decide) (by decide) (hts _ wm11_20) (va_Nw.use rfl (hE.2.2.1 (exN 1) (by decide))) hce hcv hcl ?_
  refine lv_astore (lv' := [(4, .ref q9), (0, .ref (ad 0 0)), (1, .int p1), (2, .int p2), (3, .ref ao)]) hx hb dL_fault_13 hl (by decide) rfl (fun ls hl => ?_)
  refine lv_iconst (v := 1) hx hb dL_fault_15 (by decide) ?_
  exact g_reti hx hb hr hlk hW dL_fault_16
set_option maxHeartbeats 4000000 in
set_option maxRecDepth 100000 in
theorem wL_fragments_0 (l : Launch) (hfl : l.stackTraces = false) (D : va_G) (T : Nat → ClassId) (A : Nat → Prop) (ad : Nat → Nat → Nat) (hok : okad ad) (Z : va_W) (ao : Nat) (g : Nat → Int64) (x_K : Nat → Ob) (p1 : Int32) (r : Int32) (x_K9 : Nat → Ob) (h : f_X10_fragments x_K p1 = some (0, r, x_K9)) : Met l yL_fragments (Cond.codeWith yL_fragments cL_fragments 4 (some .int) [(0, 9, 12, 21)] :: wsL_law) (rmx 11 0) (Pw D T A (outc T ao g ++ (oc_X10 T (ad 0) (bb ad) (x_K 0) ++ (wkL T ad x_K L18 ++ Z))) [.ref (ad 0 0), .int p1, .ref ao]) (Qgi D A (outc T ao (vp_updL g 0 r.toInt64) ++ (oc_X10 T (ad 0) (bb ad) (x_K9 0) ++ (wkL T ad x_K9 L18 ++ Z))) 0) (ex1 0) (ex6 0) A := by
  refine va_MetW (cc := cL_fragments) (maxL := 4) (ret := (some .int)) (hh := [(0, 9, 12, 21)]) (by decide +kernel) rfl ?_
  intro p e s m args below meth c s₁ B hml hv
  obtain ⟨ha, hP, hK, hD, hN, hE, hC⟩ := hv
  have hx := B.exec
  have hb := B.bytes
  have hr := B.returns
  have hlk := B.notSynchronized
  have hts0 := atoms_spec (ws := Cond.codeWith yL_fragments cL_fragments 4 (some .int) [(0, 9, 12, 21)] :: wsL_law) B.pre
  have hts : ∀ w ∈ wsL_law, w.before args s = true := fun w hw => hts0 w (List.mem_cons_of_mem _ hw)
  have htab := vx_table (x := yL_word) B (hts0 _ List.mem_cons_self)
  have hown : s.vm.findClass RL = some m.cls := findClass_of_methodNamed B.named
  have hW : Wd D A s.heap (outc T ao g ++ (oc_X10 T (ad 0) (bb ad) (x_K 0) ++ (wkL T ad x_K L18 ++ Z))) s.heap [] := ⟨hP, hD, va_S.rf⟩
  have hl := lv_entry [.ref (ad 0 0), .int p1, .ref ao] (n := 4) (Nat.le_of_ble_eq_true rfl)
  refine W.eq (en_eq ha) ?_
  generalize (lg_sl [.ref (ad 0 0), .int p1, .ref ao] ++ List.replicate (4 - (lg_sl [.ref (ad 0 0), .int p1, .ref ao]).length) Slot.unset).toArray = ls at hl ⊢
  have hl : lv_has ls 4 [(0, .ref (ad 0 0)), (1, .int p1), (2, .ref ao)] := hl
  clear hP hD B ha
  change W p l e (rmx 11 0) s m args below meth c s.heap [] 0 0 _ (F0 m 0 ls [])
  refine lv_aload_n hx hb dL_fragments_0 rfl (lv_at hl 2 rfl) ?_
  refine lv_iconst (v := 0) hx hb dL_fragments_1 (by decide) ?_
  refine lv_aload_n hx hb dL_fragments_2 rfl (lv_at hl 0 rfl) ?_
  refine lv_iload_n hx hb dL_fragments_3 rfl (lv_at hl 1 rfl) ?_
  have hW := hW.perm pf2.symm
  refine x0_vi hx hb hml hown hts hK hN hE hW (g_cw (n := 1) hts wm42_1 wm42_2 wm42_3 wm1_2 wm42_4 ⟨rfl, by decide +kernel, by decide +kernel, by decide +kernel⟩ ⟨rfl, rfl⟩ ⟨Nat.le_of_ble_eq_true rfl, Nat.le_of_ble_eq_true rfl⟩) ⟨10, (RX10, TX10, 13), _, rfl, rfl, rfl⟩ (c_X10_fragments l hfl D T A ad hok (outc T ao g ++ Z) x_K p1 0 r x_K9 h) rfl hl.1 rfl (Nat.le_of_ble_eq_true rfl) dL_fragments_4 ⟨Nat.zero_le _, Nat.zero_le _⟩ (fun H locs hW => ?_)
  have hW := hW.perm pf2
  refine lv_i2l (v := r.toInt64) hx hb dL_fragments_7 rfl ?_
  refine g_last hx hb hK hW dL_fragments_8 (fun H locs hW => ?_)
  refine lv_goto (tgt := 15) hx hb dL_fragments_9 (by decide) ?_
  refine lv_iconst (v := 0) hx hb dL_fragments_15 (by decide) ?_
  exact g_reti hx hb hr hlk hW dL_fragments_16
set_option maxHeartbeats 4000000 in
set_option maxRecDepth 100000 in
theorem wL_fragments_1 (l : Launch) (hfl : l.stackTraces = false) (D : va_G) (T : Nat → ClassId) (A : Nat → Prop) (ad : Nat → Nat → Nat) (hok : okad ad) (Z : va_W) (ao : Nat) (g : Nat → Int64) (x_K : Nat → Ob) (p1 : Int32) (r : Int32) (x_K9 : Nat → Ob) (h : f_X10_fragments x_K p1 = some (1, r, x_K9)) : Met l yL_fragments (Cond.codeWith yL_fragments cL_fragments 4 (some .int) [(0, 9, 12, 21)] :: wsL_law) (rmx 11 1) (Pw D T A (outc T ao g ++ (oc_X10 T (ad 0) (bb ad) (x_K 0) ++ (wkL T ad x_K L18 ++ Z))) [.ref (ad 0 0), .int p1, .ref ao]) (Qgi D A (outc T ao g ++ (oc_X10 T (ad 0) (bb ad) (x_K9 0) ++ (wkL T ad x_K9 L18 ++ Z))) 1) (ex1 1) (ex6 1) A := by
  refine va_MetW (cc := cL_fragments) (maxL := 4) (ret := (some .int)) (hh := [(0, 9, 12, 21)]) (by decide +kernel) rfl ?_
  intro p e s m args below meth c s₁ B hml hv
  obtain ⟨ha, hP, hK, hD, hN, hE, hC⟩ := hv
  have hx := B.exec
  have hb := B.bytes
  have hr := B.returns
  have hlk := B.notSynchronized
  have hts0 := atoms_spec (ws := Cond.codeWith yL_fragments cL_fragments 4 (some .int) [(0, 9, 12, 21)] :: wsL_law) B.pre
  have hts : ∀ w ∈ wsL_law, w.before args s = true := fun w hw => hts0 w (List.mem_cons_of_mem _ hw)
  have htab := vx_table (x := yL_word) B (hts0 _ List.mem_cons_self)
  have hown : s.vm.findClass RL = some m.cls := findClass_of_methodNamed B.named
  have hW : Wd D A s.heap (outc T ao g ++ (oc_X10 T (ad 0) (bb ad) (x_K 0) ++ (wkL T ad x_K L18 ++ Z))) s.heap [] := ⟨hP, hD, va_S.rf⟩
  have hl := lv_entry [.ref (ad 0 0), .int p1, .ref ao] (n := 4) (Nat.le_of_ble_eq_true rfl)
  refine W.eq (en_eq ha) ?_
  generalize (lg_sl [.ref (ad 0 0), .int p1, .ref ao] ++ List.replicate (4 - (lg_sl [.ref (ad 0 0), .int p1, .ref ao]).length) Slot.unset).toArray = ls at hl ⊢
  have hl : lv_has ls 4 [(0, .ref (ad 0 0)), (1, .int p1), (2, .ref ao)] := hl
  clear hP hD B ha
  change W p l e (rmx 11 1) s m args below meth c s.heap [] 0 0 _ (F0 m 0 ls [])
  refine lv_aload_n hx hb dL_fragments_0 rfl (lv_at hl 2 rfl) ?_
  refine lv_iconst (v := 0) hx hb dL_fragments_1 (by decide) ?_
  refine lv_aload_n hx hb dL_fragments_2 rfl (lv_at hl 0 rfl) ?_
  refine lv_iload_n hx hb dL_fragments_3 rfl (lv_at hl 1 rfl) ?_
  have hW := hW.perm pf2.symm
  refine xc_vi (by decide) hx hb hml hown hts hK hN hE hW (g_cw (n := 1) hts wm42_1 wm42_2 wm42_3 wm1_2 wm42_4 ⟨rfl, by decide +kernel, by decide +kernel, by decide +kernel⟩ ⟨rfl, rfl⟩ ⟨Nat.le_of_ble_eq_true rfl, Nat.le_of_ble_eq_true rfl⟩) ⟨10, (RX10, TX10, 13), _, rfl, rfl, rfl⟩ (c_X10_fragments l hfl D T A ad hok (outc T ao g ++ Z) x_K p1 1 r x_K9 h) rfl hl.1 rfl (Nat.le_of_ble_eq_true rfl) dL_fragments_4 ⟨Nat.le_of_ble_eq_true rfl, Nat.le_of_ble_eq_true rfl⟩ (fun ce q9 H locs hW hce hcv hcl => ?_)
  have hW := hW.perm pf2
  refine vx_catch hown [] ⟨0, 9, 12, 21⟩ [] (htab.trans rfl) (fun z hz => absurd hz List.not_mem_nil) (by decide) (by decide) (hts _ wm11_20) (va_Nw.use rfl (hE.2.2.1 (exN 1) (by decide))) hce hcv hcl ?_
  refine lv_astore_n (lv' := [(3, .ref q9), (0, .ref (ad 0 0)), (1, .int p1), (2, .ref ao)]) hx hb dL_fragments_12 rfl hl (by decide) rfl (fun ls hl => ?_)
  refine lv_iconst (v := 1) hx hb dL_fragments_13 (by decide) ?_
  exact g_reti hx hb hr hlk hW dL_fragments_14
set_option maxHeartbeats 4000000 in
set_option maxRecDepth 100000 in
theorem wL_fragment_0 (l : Launch) (hfl : l.stackTraces = false) (D : va_G) (T : Nat → ClassId) (A : Nat → Prop) (ad : Nat → Nat → Nat) (hok : okad ad) (Z : va_W) (ao : Nat) (g : Nat → Int64) (x_K : Nat → Ob) (p1 : Int32) (p2 : Int32) (r : Int32) (x_K9 : Nat → Ob) (h : f_X10_fragment x_K p1 p2 = some (0, r, x_K9)) : Met l yL_fragment (Cond.codeWith yL_fragment cL_fragment 5 (some .int) [(0, 10, 13, 21)] :: wsL_law) (rmx 11 0) (Pw D T A (outc T ao g ++ (oc_X10 T (ad 0) (bb ad) (x_K 0) ++ (wkL T ad x_K L18 ++ Z))) [.ref (ad 0 0), .int p1, .int p2, .ref ao]) (Qgi D A (outc T ao (vp_updL g 0 r.toInt64) ++ (oc_X10 T (ad 0) (bb ad) (x_K9 0) ++ (wkL T ad x_K9 L18 ++ Z))) 0) (ex1 0) (ex6 0) A := by
  refine va_MetW (cc := cL_fragment) (maxL := 5) (ret := (some .int)) (hh := [(0, 10, 13, 21)]) (by decide +kernel) rfl ?_
  intro p e s m args below meth c s₁ B hml hv
  obtain ⟨ha, hP, hK, hD, hN, hE, hC⟩ := hv
  have hx := B.exec
  have hb := B.bytes
  have hr := B.returns
  have hlk := B.notSynchronized
  have hts0 := atoms_spec (ws := Cond.codeWith yL_fragment cL_fragment 5 (some .int) [(0, 10, 13, 21)] :: wsL_law) B.pre
  have hts : ∀ w ∈ wsL_law, w.before args s = true := fun w hw => hts0 w (List.mem_cons_of_mem _ hw)
  have htab := vx_table (x := yL_word) B (hts0 _ List.mem_cons_self)
  have hown : s.vm.findClass RL = some m.cls := findClass_of_methodNamed B.named
  have hW : Wd D A s.heap (outc T ao g ++ (oc_X10 T (ad 0) (bb ad) (x_K 0) ++ (wkL T ad x_K L18 ++ Z))) s.heap [] := ⟨hP, hD, va_S.rf⟩
  have hl := lv_entry [.ref (ad 0 0), .int p1, .int p2, .ref ao] (n := 5) (Nat.le_of_ble_eq_true rfl)
  refine W.eq (en_eq ha) ?_
  generalize (lg_sl [.ref (ad 0 0), .int p1, .int p2, .ref ao] ++ List.replicate (5 - (lg_sl [.ref (ad 0 0), .int p1, .int p2, .ref ao]).length) Slot.unset).toArray = ls at hl ⊢
  have hl : lv_has ls 5 [(0, .ref (ad 0 0)), (1, .int p1), (2, .int p2), (3, .ref ao)] := hl
  clear hP hD B ha
  change W p l e (rmx 11 0) s m args below meth c s.heap [] 0 0 _ (F0 m 0 ls [])
  refine lv_aload_n hx hb dL_fragment_0 rfl (lv_at hl 3 rfl) ?_
  refine lv_iconst (v := 0) hx hb dL_fragment_1 (by decide) ?_
  refine lv_aload_n hx hb dL_fragment_2 rfl (lv_at hl 0 rfl) ?_
  refine lv_iload_n hx hb dL_fragment_3 rfl (lv_at hl 1 rfl) ?_
  refine lv_iload_n hx hb dL_fragment_4 rfl (lv_at hl 2 rfl) ?_
  have hW := hW.perm pf2.symm
  refine x0_vi hx hb hml hown hts hK hN hE hW (g_cw (n := 2) hts wm43_10 wm43_11 wm43_12 wm1_2 wm43_13 ⟨rfl, by decide +kernel, by decide +kernel, by decide +kernel⟩ ⟨rfl, rfl⟩ ⟨Nat.le_of_ble_eq_true rfl, Nat.le_of_ble_eq_true rfl⟩) ⟨10, (RX10, TX10, 13), _, rfl, rfl, rfl⟩ (c_X10_fragment l hfl D T A ad hok (outc T ao g ++ Z) x_K p1 p2 0 r x_K9 h) rfl hl.1 rfl (Nat.le_of_ble_eq_true rfl) dL_fragment_5 ⟨Nat.zero_le _, Nat.zero_le _⟩ (fun H locs hW => ?_)
  have hW := hW.perm pf2
  refine lv_i2l (v := r.toInt64) hx hb dL_fragment_8 rfl ?_
  refine g_last hx hb hK hW dL_fragment_9 (fun H locs hW => ?_)
  refine lv_goto (tgt := 17) hx hb dL_fragment_10 (by decide) ?_
  refine lv_iconst (v := 0) hx hb dL_fragment_17 (by decide) ?_
  exact g_reti hx hb hr hlk hW dL_fragment_18
set_option maxHeartbeats 4000000 in
set_option maxRecDepth 100000 in
theorem wL_fragment_1 (l : Launch) (hfl : l.stackTraces = false) (D : va_G) (T : Nat → ClassId) (A : Nat → Prop) (ad : Nat → Nat → Nat) (hok : okad ad) (Z : va_W) (ao : Nat) (g : Nat → Int64) (x_K : Nat → Ob) (p1 : Int32) (p2 : Int32) (r : Int32) (x_K9 : Nat → Ob) (h : f_X10_fragment x_K p1 p2 = some (1, r, x_K9)) : Met l yL_fragment (Cond.codeWith yL_fragment cL_fragment 5 (some .int) [(0, 10, 13, 21)] :: wsL_law) (rmx 11 1) (Pw D T A (outc T ao g ++ (oc_X10 T (ad 0) (bb ad) (x_K 0) ++ (wkL T ad x_K L18 ++ Z))) [.ref (ad 0 0), .int p1, .int p2, .ref ao]) (Qgi D A (outc T ao g ++ (oc_X10 T (ad 0) (bb ad) (x_K9 0) ++ (wkL T ad x_K9 L18 ++ Z))) 1) (ex1 1) (ex6 1) A := by
  refine va_MetW (cc := cL_fragment) (maxL := 5) (ret := (some .int)) (hh := [(0, 10, 13, 21)]) (by decide +kernel) rfl ?_
  intro p e s m args below meth c s₁ B hml hv
  obtain ⟨ha, hP, hK, hD, hN, hE, hC⟩ := hv
  have hx := B.exec
  have hb := B.bytes
  have hr := B.returns
  have hlk := B.notSynchronized
  have hts0 := atoms_spec (ws := Cond.codeWith yL_fragment cL_fragment 5 (some .int) [(0, 10, 13, 21)] :: wsL_law) B.pre
  have hts : ∀ w ∈ wsL_law, w.before args s = true := fun w hw => hts0 w (List.mem_cons_of_mem _ hw)
  have htab := vx_table (x := yL_word) B (hts0 _ List.mem_cons_self)
  have hown : s.vm.findClass RL = some m.cls := findClass_of_methodNamed B.named
  have hW : Wd D A s.heap (outc T ao g ++ (oc_X10 T (ad 0) (bb ad) (x_K 0) ++ (wkL T ad x_K L18 ++ Z))) s.heap [] := ⟨hP, hD, va_S.rf⟩
  have hl := lv_entry [.ref (ad 0 0), .int p1, .int p2, .ref ao] (n := 5) (Nat.le_of_ble_eq_true rfl)
  refine W.eq (en_eq ha) ?_
  generalize (lg_sl [.ref (ad 0 0), .int p1, .int p2, .ref ao] ++ List.replicate (5 - (lg_sl [.ref (ad 0 0), .int p1, .int p2, .ref ao]).length) Slot.unset).toArray = ls at hl ⊢
  have hl : lv_has ls 5 [(0, .ref (ad 0 0)), (1, .int p1), (2, .int p2), (3, .ref ao)] := hl
  clear hP hD B ha
  change W p l e (rmx 11 1) s m args below meth c s.heap [] 0 0 _ (F0 m 0 ls [])
  refine lv_aload_n hx hb dL_fragment_0 rfl (lv_at hl 3 rfl) ?_
  refine lv_iconst (v := 0) hx hb dL_fragment_1 (by decide) ?_
  refine lv_aload_n hx hb dL_fragment_2 rfl (lv_at hl 0 rfl) ?_
  refine lv_iload_n hx hb dL_fragment_3 rfl (lv_at hl 1 rfl) ?_
  refine lv_iload_n hx hb dL_fragment_4 rfl (lv_at hl 2 rfl) ?_
  have hW := hW.perm pf2.symm
  refine xc_vi (by decide) hx hb hml hown hts hK hN hE hW (g_cw (n := 2) hts wm43_10 wm43_11 wm43_12 wm1_2 wm43_13 ⟨rfl, by decide +kernel, by decide +kernel, by decide +kernel⟩ ⟨rfl, rfl⟩ ⟨Nat.le_of_ble_eq_true rfl, Nat.le_of_ble_eq_true rfl⟩) ⟨10, (RX10, TX10, 13), _, rfl, rfl, rfl⟩ (c_X10_fragment l hfl D T A ad hok (outc T ao g ++ Z) x_K p1 p2 1 r x_K9 h) rfl hl.1 rfl (Nat.le_of_ble_eq_true rfl) dL_fragment_5 ⟨Nat.le_of_ble_eq_true rfl, Nat.le_of_ble_eq_true rfl⟩ (fun ce q9 H locs hW hce hcv hcl => ?_)
  have hW := hW.perm pf2
  refine vx_catch hown [] ⟨0, 10, 13, 21⟩ [] (htab.trans rfl) (fun z hz => absurd hz List.not_mem_nil) (by decide) (by decide) (hts _ wm11_20) (va_Nw.use rfl (hE.2.2.1 (exN 1) (by decide))) hce hcv hcl ?_
  refine lv_astore (lv' := [(4, .ref q9), (0, .ref (ad 0 0)), (1, .int p1), (2, .int p2), (3, .ref ao)]) hx hb dL_fragment_13 hl (by decide) rfl (fun ls hl => ?_)
  refine lv_iconst (v := 1) hx hb dL_fragment_15 (by decide) ?_
  exact g_reti hx hb hr hlk hW dL_fragment_16
set_option maxHeartbeats 4000000 in
set_option maxRecDepth 100000 in
theorem wL_mend_0 (l : Launch) (hfl : l.stackTraces = false) (D : va_G) (T : Nat → ClassId) (A : Nat → Prop) (ad : Nat → Nat → Nat) (hok : okad ad) (Z : va_W) (ao : Nat) (g : Nat → Int64) (x_K : Nat → Ob) (p1 : Int32) (p2 : Int32) (r : Int32) (x_K9 : Nat → Ob) (h : f_X10_mend x_K p1 p2 = some (0, r, x_K9)) : Met l yL_mend (Cond.codeWith yL_mend cL_mend 5 (some .int) [(0, 10, 13, 21)] :: wsL_law) (rmx 12 0) (Pw D T A (outc T ao g ++ (oc_X10 T (ad 0) (bb ad) (x_K 0) ++ (wkL T ad x_K L18 ++ Z))) [.ref (ad 0 0), .int p1, .int p2, .ref ao]) (Qgi D A (outc T ao (vp_updL g 0 r.toInt64) ++ (oc_X10 T (ad 0) (bb ad) (x_K9 0) ++ (wkL T ad x_K9 L18 ++ Z))) 0) (ex1 0) (ex6 0) A := by
  refine va_MetW (cc := cL_mend) (maxL := 5) (ret := (some .int)) (hh := [(0, 10, 13, 21)]) (by decide +kernel) rfl ?_
  intro p e s m args below meth c s₁ B hml hv
  obtain ⟨ha, hP, hK, hD, hN, hE, hC⟩ := hv
  have hx := B.exec
  have hb := B.bytes
  have hr := B.returns
  have hlk := B.notSynchronized
  have hts0 := atoms_spec (ws := Cond.codeWith yL_mend cL_mend 5 (some .int) [(0, 10, 13, 21)] :: wsL_law) B.pre
  have hts : ∀ w ∈ wsL_law, w.before args s = true := fun w hw => hts0 w (List.mem_cons_of_mem _ hw)
  have htab := vx_table (x := yL_word) B (hts0 _ List.mem_cons_self)
  have hown : s.vm.findClass RL = some m.cls := findClass_of_methodNamed B.named
  have hW : Wd D A s.heap (outc T ao g ++ (oc_X10 T (ad 0) (bb ad) (x_K 0) ++ (wkL T ad x_K L18 ++ Z))) s.heap [] := ⟨hP, hD, va_S.rf⟩
  have hl := lv_entry [.ref (ad 0 0), .int p1, .int p2, .ref ao] (n := 5) (Nat.le_of_ble_eq_true rfl)
  refine W.eq (en_eq ha) ?_
  generalize (lg_sl [.ref (ad 0 0), .int p1, .int p2, .ref ao] ++ List.replicate (5 - (lg_sl [.ref (ad 0 0), .int p1, .int p2, .ref ao]).length) Slot.unset).toArray = ls at hl ⊢
  have hl : lv_has ls 5 [(0, .ref (ad 0 0)), (1, .int p1), (2, .int p2), (3, .ref ao)] := hl
  clear hP hD B ha
  change W p l e (rmx 12 0) s m args below meth c s.heap [] 0 0 _ (F0 m 0 ls [])
  refine lv_aload_n hx hb dL_mend_0 rfl (lv_at hl 3 rfl) ?_
  refine lv_iconst (v := 0) hx hb dL_mend_1 (by decide) ?_
  refine lv_aload_n hx hb dL_mend_2 rfl (lv_at hl 0 rfl) ?_
  refine lv_iload_n hx hb dL_mend_3 rfl (lv_at hl 1 rfl) ?_
  refine lv_iload_n hx hb dL_mend_4 rfl (lv_at hl 2 rfl) ?_
  have hW := hW.perm pf2.symm
  refine x0_vi hx hb hml hown hts hK hN hE hW (g_cw (n := 2) hts wm44_6 wm44_7 wm44_8 wm1_2 wm44_9 ⟨rfl, by decide +kernel, by decide +kernel, by decide +kernel⟩ ⟨rfl, rfl⟩ ⟨Nat.le_of_ble_eq_true rfl, Nat.le_of_ble_eq_true rfl⟩) ⟨10, (RX10, TX10, 13), _, rfl, rfl, rfl⟩ (c_X10_mend l hfl D T A ad hok (outc T ao g ++ Z) x_K p1 p2 0 r x_K9 h) rfl hl.1 rfl (Nat.le_of_ble_eq_true rfl) dL_mend_5 ⟨Nat.zero_le _, Nat.zero_le _⟩ (fun H locs hW => ?_)
  have hW := hW.perm pf2
  refine lv_i2l (v := r.toInt64) hx hb dL_mend_8 rfl ?_
  refine g_last hx hb hK hW dL_mend_9 (fun H locs hW => ?_)
  refine lv_goto (tgt := 17) hx hb dL_mend_10 (by decide) ?_
  refine lv_iconst (v := 0) hx hb dL_mend_17 (by decide) ?_
  exact g_reti hx hb hr hlk hW dL_mend_18
set_option maxHeartbeats 4000000 in
set_option maxRecDepth 100000 in
theorem wL_mend_1 (l : Launch) (hfl : l.stackTraces = false) (D : va_G) (T : Nat → ClassId) (A : Nat → Prop) (ad : Nat → Nat → Nat) (hok : okad ad) (Z : va_W) (ao : Nat) (g : Nat → Int64) (x_K : Nat → Ob) (p1 : Int32) (p2 : Int32) (r : Int32) (x_K9 : Nat → Ob) (h : f_X10_mend x_K p1 p2 = some (1, r, x_K9)) : Met l yL_mend (Cond.codeWith yL_mend cL_mend 5 (some .int) [(0, 10, 13, 21)] :: wsL_law) (rmx 12 1) (Pw D T A (outc T ao g ++ (oc_X10 T (ad 0) (bb ad) (x_K 0) ++ (wkL T ad x_K L18 ++ Z))) [.ref (ad 0 0), .int p1, .int p2, .ref ao]) (Qgi D A (outc T ao g ++ (oc_X10 T (ad 0) (bb ad) (x_K9 0) ++ (wkL T ad x_K9 L18 ++ Z))) 1) (ex1 1) (ex6 1) A := by
  refine va_MetW (cc := cL_mend) (maxL := 5) (ret := (some .int)) (hh := [(0, 10, 13, 21)]) (by decide +kernel) rfl ?_
  intro p e s m args below meth c s₁ B hml hv
  obtain ⟨ha, hP, hK, hD, hN, hE, hC⟩ := hv
  have hx := B.exec
  have hb := B.bytes
  have hr := B.returns
  have hlk := B.notSynchronized
  have hts0 := atoms_spec (ws := Cond.codeWith yL_mend cL_mend 5 (some .int) [(0, 10, 13, 21)] :: wsL_law) B.pre
  have hts : ∀ w ∈ wsL_law, w.before args s = true := fun w hw => hts0 w (List.mem_cons_of_mem _ hw)
  have htab := vx_table (x := yL_word) B (hts0 _ List.mem_cons_self)
  have hown : s.vm.findClass RL = some m.cls := findClass_of_methodNamed B.named
  have hW : Wd D A s.heap (outc T ao g ++ (oc_X10 T (ad 0) (bb ad) (x_K 0) ++ (wkL T ad x_K L18 ++ Z))) s.heap [] := ⟨hP, hD, va_S.rf⟩
  have hl := lv_entry [.ref (ad 0 0), .int p1, .int p2, .ref ao] (n := 5) (Nat.le_of_ble_eq_true rfl)
  refine W.eq (en_eq ha) ?_
  generalize (lg_sl [.ref (ad 0 0), .int p1, .int p2, .ref ao] ++ List.replicate (5 - (lg_sl [.ref (ad 0 0), .int p1, .int p2, .ref ao]).length) Slot.unset).toArray = ls at hl ⊢
  have hl : lv_has ls 5 [(0, .ref (ad 0 0)), (1, .int p1), (2, .int p2), (3, .ref ao)] := hl
  clear hP hD B ha
  change W p l e (rmx 12 1) s m args below meth c s.heap [] 0 0 _ (F0 m 0 ls [])
  refine lv_aload_n hx hb dL_mend_0 rfl (lv_at hl 3 rfl) ?_
  refine lv_iconst (v := 0) hx hb dL_mend_1 (by decide) ?_
  refine lv_aload_n hx hb dL_mend_2 rfl (lv_at hl 0 rfl) ?_
  refine lv_iload_n hx hb dL_mend_3 rfl (lv_at hl 1 rfl) ?_
  refine lv_iload_n hx hb dL_mend_4 rfl (lv_at hl 2 rfl) ?_
  have hW := hW.perm pf2.symm
  refine xc_vi (by decide) hx hb hml hown hts hK hN hE hW (g_cw (n := 2) hts wm44_6 wm44_7 wm44_8 wm1_2 wm44_9 ⟨rfl, by decide +kernel, by decide +kernel, by decide +kernel⟩ ⟨rfl, rfl⟩ ⟨Nat.le_of_ble_eq_true rfl, Nat.le_of_ble_eq_true rfl⟩) ⟨10, (RX10, TX10, 13), _, rfl, rfl, rfl⟩ (c_X10_mend l hfl D T A ad hok (outc T ao g ++ Z) x_K p1 p2 1 r x_K9 h) rfl hl.1 rfl (Nat.le_of_ble_eq_true rfl) dL_mend_5 ⟨Nat.le_of_ble_eq_true rfl, Nat.le_of_ble_eq_true rfl⟩ (fun ce q9 H locs hW hce hcv hcl => ?_)
  have hW := hW.perm pf2
  refine vx_catch hown [] ⟨0, 10, 13, 21⟩ [] (htab.trans rfl) (fun z hz => absurd hz List.not_mem_nil) (by decide) (by decide) (hts _ wm11_20) (va_Nw.use rfl (hE.2.2.1 (exN 1) (by decide))) hce hcv hcl ?_
  refine lv_astore (lv' := [(4, .ref q9), (0, .ref (ad 0 0)), (1, .int p1), (2, .int p2), (3, .ref ao)]) hx hb dL_mend_13 hl (by decide) rfl (fun ls hl => ?_)
  refine lv_iconst (v := 1) hx hb dL_mend_15 (by decide) ?_
  exact g_reti hx hb hr hlk hW dL_mend_16
set_option maxHeartbeats 4000000 in
set_option maxRecDepth 100000 in
theorem wL_best_0 (l : Launch) (hfl : l.stackTraces = false) (D : va_G) (T : Nat → ClassId) (A : Nat → Prop) (ad : Nat → Nat → Nat) (hok : okad ad) (Z : va_W) (ao : Nat) (g : Nat → Int64) (x_K : Nat → Ob) (p1 : Int32) (r : Int32) (x_K9 : Nat → Ob) (h : f_X10_best x_K p1 = some (0, r, x_K9)) : Met l yL_best (Cond.codeWith yL_best cL_best 4 (some .int) [(0, 9, 12, 21)] :: wsL_law) (rmx 12 0) (Pw D T A (outc T ao g ++ (oc_X10 T (ad 0) (bb ad) (x_K 0) ++ (wkL T ad x_K L18 ++ Z))) [.ref (ad 0 0), .int p1, .ref ao]) (Qgi D A (outc T ao (vp_updL g 0 r.toInt64) ++ (oc_X10 T (ad 0) (bb ad) (x_K9 0) ++ (wkL T ad x_K9 L18 ++ Z))) 0) (ex1 0) (ex6 0) A := by
  refine va_MetW (cc := cL_best) (maxL := 4) (ret := (some .int)) (hh := [(0, 9, 12, 21)]) (by decide +kernel) rfl ?_
  intro p e s m args below meth c s₁ B hml hv
  obtain ⟨ha, hP, hK, hD, hN, hE, hC⟩ := hv
  have hx := B.exec
  have hb := B.bytes
  have hr := B.returns
  have hlk := B.notSynchronized
  have hts0 := atoms_spec (ws := Cond.codeWith yL_best cL_best 4 (some .int) [(0, 9, 12, 21)] :: wsL_law) B.pre
  have hts : ∀ w ∈ wsL_law, w.before args s = true := fun w hw => hts0 w (List.mem_cons_of_mem _ hw)
  have htab := vx_table (x := yL_word) B (hts0 _ List.mem_cons_self)
  have hown : s.vm.findClass RL = some m.cls := findClass_of_methodNamed B.named
  have hW : Wd D A s.heap (outc T ao g ++ (oc_X10 T (ad 0) (bb ad) (x_K 0) ++ (wkL T ad x_K L18 ++ Z))) s.heap [] := ⟨hP, hD, va_S.rf⟩
  have hl := lv_entry [.ref (ad 0 0), .int p1, .ref ao] (n := 4) (Nat.le_of_ble_eq_true rfl)
  refine W.eq (en_eq ha) ?_
  generalize (lg_sl [.ref (ad 0 0), .int p1, .ref ao] ++ List.replicate (4 - (lg_sl [.ref (ad 0 0), .int p1, .ref ao]).length) Slot.unset).toArray = ls at hl ⊢
  have hl : lv_has ls 4 [(0, .ref (ad 0 0)), (1, .int p1), (2, .ref ao)] := hl
  clear hP hD B ha
  change W p l e (rmx 12 0) s m args below meth c s.heap [] 0 0 _ (F0 m 0 ls [])
  refine lv_aload_n hx hb dL_best_0 rfl (lv_at hl 2 rfl) ?_
  refine lv_iconst (v := 0) hx hb dL_best_1 (by decide) ?_
  refine lv_aload_n hx hb dL_best_2 rfl (lv_at hl 0 rfl) ?_
  refine lv_iload_n hx hb dL_best_3 rfl (lv_at hl 1 rfl) ?_
  have hW := hW.perm pf2.symm
  refine x0_vi hx hb hml hown hts hK hN hE hW (g_cw (n := 1) hts wm48_9 wm48_10 wm48_11 wm1_2 wm48_12 ⟨rfl, by decide +kernel, by decide +kernel, by decide +kernel⟩ ⟨rfl, rfl⟩ ⟨Nat.le_of_ble_eq_true rfl, Nat.le_of_ble_eq_true rfl⟩) ⟨10, (RX10, TX10, 13), _, rfl, rfl, rfl⟩ (c_X10_best l hfl D T A ad hok (outc T ao g ++ Z) x_K p1 0 r x_K9 h) rfl hl.1 rfl (Nat.le_of_ble_eq_true rfl) dL_best_4 ⟨Nat.zero_le _, Nat.zero_le _⟩ (fun H locs hW => ?_)
  have hW := hW.perm pf2
  refine lv_i2l (v := r.toInt64) hx hb dL_best_7 rfl ?_
  refine g_last hx hb hK hW dL_best_8 (fun H locs hW => ?_)
  refine lv_goto (tgt := 15) hx hb dL_best_9 (by decide) ?_
  refine lv_iconst (v := 0) hx hb dL_best_15 (by decide) ?_
  exact g_reti hx hb hr hlk hW dL_best_16
set_option maxHeartbeats 4000000 in
set_option maxRecDepth 100000 in
theorem wL_best_1 (l : Launch) (hfl : l.stackTraces = false) (D : va_G) (T : Nat → ClassId) (A : Nat → Prop) (ad : Nat → Nat → Nat) (hok : okad ad) (Z : va_W) (ao : Nat) (g : Nat → Int64) (x_K : Nat → Ob) (p1 : Int32) (r : Int32) (x_K9 : Nat → Ob) (h : f_X10_best x_K p1 = some (1, r, x_K9)) : Met l yL_best (Cond.codeWith yL_best cL_best 4 (some .int) [(0, 9, 12, 21)] :: wsL_law) (rmx 12 1) (Pw D T A (outc T ao g ++ (oc_X10 T (ad 0) (bb ad) (x_K 0) ++ (wkL T ad x_K L18 ++ Z))) [.ref (ad 0 0), .int p1, .ref ao]) (Qgi D A (outc T ao g ++ (oc_X10 T (ad 0) (bb ad) (x_K9 0) ++ (wkL T ad x_K9 L18 ++ Z))) 1) (ex1 1) (ex6 1) A := by
  refine va_MetW (cc := cL_best) (maxL := 4) (ret := (some .int)) (hh := [(0, 9, 12, 21)]) (by decide +kernel) rfl ?_
  intro p e s m args below meth c s₁ B hml hv
  obtain ⟨ha, hP, hK, hD, hN, hE, hC⟩ := hv
  have hx := B.exec
  have hb := B.bytes
  have hr := B.returns
  have hlk := B.notSynchronized
  have hts0 := atoms_spec (ws := Cond.codeWith yL_best cL_best 4 (some .int) [(0, 9, 12, 21)] :: wsL_law) B.pre
  have hts : ∀ w ∈ wsL_law, w.before args s = true := fun w hw => hts0 w (List.mem_cons_of_mem _ hw)
  have htab := vx_table (x := yL_word) B (hts0 _ List.mem_cons_self)
  have hown : s.vm.findClass RL = some m.cls := findClass_of_methodNamed B.named
  have hW : Wd D A s.heap (outc T ao g ++ (oc_X10 T (ad 0) (bb ad) (x_K 0) ++ (wkL T ad x_K L18 ++ Z))) s.heap [] := ⟨hP, hD, va_S.rf⟩
  have hl := lv_entry [.ref (ad 0 0), .int p1, .ref ao] (n := 4) (Nat.le_of_ble_eq_true rfl)
  refine W.eq (en_eq ha) ?_
  generalize (lg_sl [.ref (ad 0 0), .int p1, .ref ao] ++ List.replicate (4 - (lg_sl [.ref (ad 0 0), .int p1, .ref ao]).length) Slot.unset).toArray = ls at hl ⊢
  have hl : lv_has ls 4 [(0, .ref (ad 0 0)), (1, .int p1), (2, .ref ao)] := hl
  clear hP hD B ha
  change W p l e (rmx 12 1) s m args below meth c s.heap [] 0 0 _ (F0 m 0 ls [])
  refine lv_aload_n hx hb dL_best_0 rfl (lv_at hl 2 rfl) ?_
  refine lv_iconst (v := 0) hx hb dL_best_1 (by decide) ?_
  refine lv_aload_n hx hb dL_best_2 rfl (lv_at hl 0 rfl) ?_
  refine lv_iload_n hx hb dL_best_3 rfl (lv_at hl 1 rfl) ?_
  have hW := hW.perm pf2.symm
  refine xc_vi (by decide) hx hb hml hown hts hK hN hE hW (g_cw (n := 1) hts wm48_9 wm48_10 wm48_11 wm1_2 wm48_12 ⟨rfl, by decide +kernel, by decide +kernel, by decide +kernel⟩ ⟨rfl, rfl⟩ ⟨Nat.le_of_ble_eq_true rfl, Nat.le_of_ble_eq_true rfl⟩) ⟨10, (RX10, TX10, 13), _, rfl, rfl, rfl⟩ (c_X10_best l hfl D T A ad hok (outc T ao g ++ Z) x_K p1 1 r x_K9 h) rfl hl.1 rfl (Nat.le_of_ble_eq_true rfl) dL_best_4 ⟨Nat.le_of_ble_eq_true rfl, Nat.le_of_ble_eq_true rfl⟩ (fun ce q9 H locs hW hce hcv hcl => ?_)
  have hW := hW.perm pf2
  refine vx_catch hown [] ⟨0, 9, 12, 21⟩ [] (htab.trans rfl) (fun z hz => absurd hz List.not_mem_nil) (by decide) (by decide) (hts _ wm11_20) (va_Nw.use rfl (hE.2.2.1 (exN 1) (by decide))) hce hcv hcl ?_
  refine lv_astore_n (lv' := [(3, .ref q9), (0, .ref (ad 0 0)), (1, .int p1), (2, .ref ao)]) hx hb dL_best_12 rfl hl (by decide) rfl (fun ls hl => ?_)
  refine lv_iconst (v := 1) hx hb dL_best_13 (by decide) ?_
  exact g_reti hx hb hr hlk hW dL_best_14
set_option maxHeartbeats 4000000 in
set_option maxRecDepth 100000 in
theorem wL_mendAll_0 (l : Launch) (hfl : l.stackTraces = false) (D : va_G) (T : Nat → ClassId) (A : Nat → Prop) (ad : Nat → Nat → Nat) (hok : okad ad) (Z : va_W) (ao : Nat) (g : Nat → Int64) (x_K : Nat → Ob) (p1 : Int32) (r : Int32) (x_K9 : Nat → Ob) (h : f_X10_mendAll x_K p1 = some (0, r, x_K9)) : Met l yL_mendAll (Cond.codeWith yL_mendAll cL_mendAll 4 (some .int) [(0, 9, 12, 21)] :: wsL_law) (rmx 12 0) (Pw D T A (outc T ao g ++ (oc_X10 T (ad 0) (bb ad) (x_K 0) ++ (wkL T ad x_K L18 ++ Z))) [.ref (ad 0 0), .int p1, .ref ao]) (Qgi D A (outc T ao (vp_updL g 0 r.toInt64) ++ (oc_X10 T (ad 0) (bb ad) (x_K9 0) ++ (wkL T ad x_K9 L18 ++ Z))) 0) (ex1 0) (ex6 0) A := by
  refine va_MetW (cc := cL_mendAll) (maxL := 4) (ret := (some .int)) (hh := [(0, 9, 12, 21)]) (by decide +kernel) rfl ?_
  intro p e s m args below meth c s₁ B hml hv
  obtain ⟨ha, hP, hK, hD, hN, hE, hC⟩ := hv
  have hx := B.exec
  have hb := B.bytes
  have hr := B.returns
  have hlk := B.notSynchronized
  have hts0 := atoms_spec (ws := Cond.codeWith yL_mendAll cL_mendAll 4 (some .int) [(0, 9, 12, 21)] :: wsL_law) B.pre
  have hts : ∀ w ∈ wsL_law, w.before args s = true := fun w hw => hts0 w (List.mem_cons_of_mem _ hw)
  have htab := vx_table (x := yL_word) B (hts0 _ List.mem_cons_self)
  have hown : s.vm.findClass RL = some m.cls := findClass_of_methodNamed B.named
  have hW : Wd D A s.heap (outc T ao g ++ (oc_X10 T (ad 0) (bb ad) (x_K 0) ++ (wkL T ad x_K L18 ++ Z))) s.heap [] := ⟨hP, hD, va_S.rf⟩
  have hl := lv_entry [.ref (ad 0 0), .int p1, .ref ao] (n := 4) (Nat.le_of_ble_eq_true rfl)
  refine W.eq (en_eq ha) ?_
  generalize (lg_sl [.ref (ad 0 0), .int p1, .ref ao] ++ List.replicate (4 - (lg_sl [.ref (ad 0 0), .int p1, .ref ao]).length) Slot.unset).toArray = ls at hl ⊢
  have hl : lv_has ls 4 [(0, .ref (ad 0 0)), (1, .int p1), (2, .ref ao)] := hl
  clear hP hD B ha
  change W p l e (rmx 12 0) s m args below meth c s.heap [] 0 0 _ (F0 m 0 ls [])
  refine lv_aload_n hx hb dL_mendAll_0 rfl (lv_at hl 2 rfl) ?_
  refine lv_iconst (v := 0) hx hb dL_mendAll_1 (by decide) ?_
  refine lv_aload_n hx hb dL_mendAll_2 rfl (lv_at hl 0 rfl) ?_
  refine lv_iload_n hx hb dL_mendAll_3 rfl (lv_at hl 1 rfl) ?_
  have hW := hW.perm pf2.symm
  refine x0_vi hx hb hml hown hts hK hN hE hW (g_cw (n := 1) hts wm49_12 wm49_13 wm49_14 wm1_2 wm49_15 ⟨rfl, by decide +kernel, by decide +kernel, by decide +kernel⟩ ⟨rfl, rfl⟩ ⟨Nat.le_of_ble_eq_true rfl, Nat.le_of_ble_eq_true rfl⟩) ⟨10, (RX10, TX10, 13), _, rfl, rfl, rfl⟩ (c_X10_mendAll l hfl D T A ad hok (outc T ao g ++ Z) x_K p1 0 r x_K9 h) rfl hl.1 rfl (Nat.le_of_ble_eq_true rfl) dL_mendAll_4 ⟨Nat.zero_le _, Nat.zero_le _⟩ (fun H locs hW => ?_)
  have hW := hW.perm pf2
  refine lv_i2l (v := r.toInt64) hx hb dL_mendAll_7 rfl ?_
  refine g_last hx hb hK hW dL_mendAll_8 (fun H locs hW => ?_)
  refine lv_goto (tgt := 15) hx hb dL_mendAll_9 (by decide) ?_
  refine lv_iconst (v := 0) hx hb dL_mendAll_15 (by decide) ?_
  exact g_reti hx hb hr hlk hW dL_mendAll_16
set_option maxHeartbeats 4000000 in
set_option maxRecDepth 100000 in
theorem wL_mendAll_1 (l : Launch) (hfl : l.stackTraces = false) (D : va_G) (T : Nat → ClassId) (A : Nat → Prop) (ad : Nat → Nat → Nat) (hok : okad ad) (Z : va_W) (ao : Nat) (g : Nat → Int64) (x_K : Nat → Ob) (p1 : Int32) (r : Int32) (x_K9 : Nat → Ob) (h : f_X10_mendAll x_K p1 = some (1, r, x_K9)) : Met l yL_mendAll (Cond.codeWith yL_mendAll cL_mendAll 4 (some .int) [(0, 9, 12, 21)] :: wsL_law) (rmx 12 1) (Pw D T A (outc T ao g ++ (oc_X10 T (ad 0) (bb ad) (x_K 0) ++ (wkL T ad x_K L18 ++ Z))) [.ref (ad 0 0), .int p1, .ref ao]) (Qgi D A (outc T ao g ++ (oc_X10 T (ad 0) (bb ad) (x_K9 0) ++ (wkL T ad x_K9 L18 ++ Z))) 1) (ex1 1) (ex6 1) A := by
  refine va_MetW (cc := cL_mendAll) (maxL := 4) (ret := (some .int)) (hh := [(0, 9, 12, 21)]) (by decide +kernel) rfl ?_
  intro p e s m args below meth c s₁ B hml hv
  obtain ⟨ha, hP, hK, hD, hN, hE, hC⟩ := hv
  have hx := B.exec
  have hb := B.bytes
  have hr := B.returns
  have hlk := B.notSynchronized
  have hts0 := atoms_spec (ws := Cond.codeWith yL_mendAll cL_mendAll 4 (some .int) [(0, 9, 12, 21)] :: wsL_law) B.pre
  have hts : ∀ w ∈ wsL_law, w.before args s = true := fun w hw => hts0 w (List.mem_cons_of_mem _ hw)
  have htab := vx_table (x := yL_word) B (hts0 _ List.mem_cons_self)
  have hown : s.vm.findClass RL = some m.cls := findClass_of_methodNamed B.named
  have hW : Wd D A s.heap (outc T ao g ++ (oc_X10 T (ad 0) (bb ad) (x_K 0) ++ (wkL T ad x_K L18 ++ Z))) s.heap [] := ⟨hP, hD, va_S.rf⟩
  have hl := lv_entry [.ref (ad 0 0), .int p1, .ref ao] (n := 4) (Nat.le_of_ble_eq_true rfl)
  refine W.eq (en_eq ha) ?_
  generalize (lg_sl [.ref (ad 0 0), .int p1, .ref ao] ++ List.replicate (4 - (lg_sl [.ref (ad 0 0), .int p1, .ref ao]).length) Slot.unset).toArray = ls at hl ⊢
  have hl : lv_has ls 4 [(0, .ref (ad 0 0)), (1, .int p1), (2, .ref ao)] := hl
  clear hP hD B ha
  change W p l e (rmx 12 1) s m args below meth c s.heap [] 0 0 _ (F0 m 0 ls [])
  refine lv_aload_n hx hb dL_mendAll_0 rfl (lv_at hl 2 rfl) ?_
  refine lv_iconst (v := 0) hx hb dL_mendAll_1 (by decide) ?_
  refine lv_aload_n hx hb dL_mendAll_2 rfl (lv_at hl 0 rfl) ?_
  refine lv_iload_n hx hb dL_mendAll_3 rfl (lv_at hl 1 rfl) ?_
  have hW := hW.perm pf2.symm
  refine xc_vi (by decide) hx hb hml hown hts hK hN hE hW (g_cw (n := 1) hts wm49_12 wm49_13 wm49_14 wm1_2 wm49_15 ⟨rfl, by decide +kernel, by decide +kernel, by decide +kernel⟩ ⟨rfl, rfl⟩ ⟨Nat.le_of_ble_eq_true rfl, Nat.le_of_ble_eq_true rfl⟩) ⟨10, (RX10, TX10, 13), _, rfl, rfl, rfl⟩ (c_X10_mendAll l hfl D T A ad hok (outc T ao g ++ Z) x_K p1 1 r x_K9 h) rfl hl.1 rfl (Nat.le_of_ble_eq_true rfl) dL_mendAll_4 ⟨Nat.le_of_ble_eq_true rfl, Nat.le_of_ble_eq_true rfl⟩ (fun ce q9 H locs hW hce hcv hcl => ?_)
  have hW := hW.perm pf2
  refine vx_catch hown [] ⟨0, 9, 12, 21⟩ [] (htab.trans rfl) (fun z hz => absurd hz List.not_mem_nil) (by decide) (by decide) (hts _ wm11_20) (va_Nw.use rfl (hE.2.2.1 (exN 1) (by decide))) hce hcv hcl ?_
  refine lv_astore_n (lv' := [(3, .ref q9), (0, .ref (ad 0 0)), (1, .int p1), (2, .ref ao)]) hx hb dL_mendAll_12 rfl hl (by decide) rfl (fun ls hl => ?_)
  refine lv_iconst (v := 1) hx hb dL_mendAll_13 (by decide) ?_
  exact g_reti hx hb hr hlk hW dL_mendAll_14
set_option maxHeartbeats 4000000 in
set_option maxRecDepth 100000 in
theorem wL_pattern_0 (l : Launch) (hfl : l.stackTraces = false) (D : va_G) (T : Nat → ClassId) (A : Nat → Prop) (ad : Nat → Nat → Nat) (hok : okad ad) (Z : va_W) (ao : Nat) (g : Nat → Int64) (x_K : Nat → Ob) (p1 : Int32) (p2 : Int32) (p3 : Int32) (p4 : Int32) (r : Int32) (x_K9 : Nat → Ob) (h : f_X10_pattern x_K p1 p2 p3 p4 = some (0, r, x_K9)) : Met l yL_pattern (Cond.codeWith yL_pattern cL_pattern 7 (some .int) [(0, 14, 17, 21), (0, 14, 21, 13), (0, 14, 25, 15)] :: wsL_law) (rmx 7 0) (Pw D T A (outc T ao g ++ (oc_X10 T (ad 0) (bb ad) (x_K 0) ++ (wkL T ad x_K L18 ++ Z))) [.ref (ad 0 0), .int p1, .int p2, .int p3, .int p4, .ref ao]) (Qgi D A (outc T ao (vp_updL g 0 r.toInt64) ++ (oc_X10 T (ad 0) (bb ad) (x_K9 0) ++ (wkL T ad x_K9 L18 ++ Z))) 0) (ex1 0) (ex6 0) A := by
  refine va_MetW (cc := cL_pattern) (maxL := 7) (ret := (some .int)) (hh := [(0, 14, 17, 21), (0, 14, 21, 13), (0, 14, 25, 15)]) (by decide +kernel) rfl ?_
  intro p e s m args below meth c s₁ B hml hv
  obtain ⟨ha, hP, hK, hD, hN, hE, hC⟩ := hv
  have hx := B.exec
  have hb := B.bytes
  have hr := B.returns
  have hlk := B.notSynchronized
  have hts0 := atoms_spec (ws := Cond.codeWith yL_pattern cL_pattern 7 (some .int) [(0, 14, 17, 21), (0, 14, 21, 13), (0, 14, 25, 15)] :: wsL_law) B.pre
  have hts : ∀ w ∈ wsL_law, w.before args s = true := fun w hw => hts0 w (List.mem_cons_of_mem _ hw)
  have htab := vx_table (x := yL_word) B (hts0 _ List.mem_cons_self)
  have hown : s.vm.findClass RL = some m.cls := findClass_of_methodNamed B.named
  have hW : Wd D A s.heap (outc T ao g ++ (oc_X10 T (ad 0) (bb ad) (x_K 0) ++ (wkL T ad x_K L18 ++ Z))) s.heap [] := ⟨hP, hD, va_S.rf⟩
  have hl := lv_entry [.ref (ad 0 0), .int p1, .int p2, .int p3, .int p4, .ref ao] (n := 7) (Nat.le_of_ble_eq_true rfl)
  refine W.eq (en_eq ha) ?_
  generalize (lg_sl [.ref (ad 0 0), .int p1, .int p2, .int p3, .int p4, .ref ao] ++ List.replicate (7 - (lg_sl [.ref (ad 0 0), .int p1, .int p2, .int p3, .int p4, .ref ao]).length) Slot.unset).toArray = ls at hl ⊢
  have hl : lv_has ls 7 [(0, .ref (ad 0 0)), (1, .int p1), (2, .int p2), (3, .int p3), (4, .int p4), (5, .ref ao)] := hl
  clear hP hD B ha
  change W p l e (rmx 7 0) s m args below meth c s.heap [] 0 0 _ (F0 m 0 ls [])
  refine lv_aload hx hb dL_pattern_0 (lv_at hl 5 rfl) ?_
  refine lv_iconst (v := 0) hx hb dL_pattern_2 (by decide) ?_
  refine lv_aload_n hx hb dL_pattern_3 rfl (lv_at hl 0 rfl) ?_
  refine lv_iload_n hx hb dL_pattern_4 rfl (lv_at hl 1 rfl) ?_
  refine lv_iload_n hx hb dL_pattern_5 rfl (lv_at hl 2 rfl) ?_
  refine lv_iload_n hx hb dL_pattern_6 rfl (lv_at hl 3 rfl) ?_
  refine lv_iload hx hb dL_pattern_7 (lv_at hl 4 rfl) ?_
  have hW := hW.perm pf2.symm
  refine x0_vi hx hb hml hown hts hK hN hE hW (g_cw (n := 4) hts wm50_7 wm50_8 wm50_9 wm1_2 wm50_10 ⟨rfl, by decide +kernel, by decide +kernel, by decide +kernel⟩ ⟨rfl, rfl⟩ ⟨Nat.le_of_ble_eq_true rfl, Nat.le_of_ble_eq_true rfl⟩) ⟨10, (RX10, TX10, 13), _, rfl, rfl, rfl⟩ (c_X10_pattern l hfl D T A ad hok (outc T ao g ++ Z) x_K p1 p2 p3 p4 0 r x_K9 h) rfl hl.1 rfl (Nat.le_of_ble_eq_true rfl) dL_pattern_9 ⟨Nat.zero_le _, Nat.zero_le _⟩ (fun H locs hW => ?_)
  have hW := hW.perm pf2
  refine lv_i2l (v := r.toInt64) hx hb dL_pattern_12 rfl ?_
  refine g_last hx hb hK hW dL_pattern_13 (fun H locs hW => ?_)
  refine lv_goto (tgt := 29) hx hb dL_pattern_14 (by decide) ?_
  refine lv_iconst (v := 0) hx hb dL_pattern_29 (by decide) ?_
  exact g_reti hx hb hr hlk hW dL_pattern_30
set_option maxHeartbeats 4000000 in
set_option maxRecDepth 100000 in
theorem wL_pattern_1 (l : Launch) (hfl : l.stackTraces = false) (D : va_G) (T : Nat → ClassId) (A : Nat → Prop) (ad : Nat → Nat → Nat) (hok : okad ad) (Z : va_W) (ao : Nat) (g : Nat → Int64) (x_K : Nat → Ob) (p1 : Int32) (p2 : Int32) (p3 : Int32) (p4 : Int32) (r : Int32) (x_K9 : Nat → Ob) (h : f_X10_pattern x_K p1 p2 p3 p4 = some (1, r, x_K9)) : Met l yL_pattern (Cond.codeWith yL_pattern cL_pattern 7 (some .int) [(0, 14, 17, 21), (0, 14, 21, 13), (0, 14, 25, 15)] :: wsL_law) (rmx 7 1) (Pw D T A (outc T ao g ++ (oc_X10 T (ad 0) (bb ad) (x_K 0) ++ (wkL T ad x_K L18 ++ Z))) [.ref (ad 0 0), .int p1, .int p2, .int p3, .int p4, .ref ao]) (Qgi D A (outc T ao g ++ (oc_X10 T (ad 0) (bb ad) (x_K9 0) ++ (wkL T ad x_K9 L18 ++ Z))) 1) (ex1 1) (ex6 1) A := by
  refine va_MetW (cc := cL_pattern) (maxL := 7) (ret := (some .int)) (hh := [(0, 14, 17, 21), (0, 14, 21, 13), (0, 14, 25, 15)]) (by decide +kernel) rfl ?_
  intro p e s m args below meth c s₁ B hml hv
  obtain ⟨ha, hP, hK, hD, hN, hE, hC⟩ := hv
  have hx := B.exec
  have hb := B.bytes
  have hr := B.returns
  have hlk := B.notSynchronized
  have hts0 := atoms_spec (ws := Cond.codeWith yL_pattern cL_pattern 7 (some .int) [(0, 14, 17, 21), (0, 14, 21, 13), (0, 14, 25, 15)] :: wsL_law) B.pre
  have hts : ∀ w ∈ wsL_law, w.before args s = true := fun w hw => hts0 w (List.mem_cons_of_mem _ hw)
  have htab := vx_table (x := yL_word) B (hts0 _ List.mem_cons_self)
  have hown : s.vm.findClass RL = some m.cls := findClass_of_methodNamed B.named
  have hW : Wd D A s.heap (outc T ao g ++ (oc_X10 T (ad 0) (bb ad) (x_K 0) ++ (wkL T ad x_K L18 ++ Z))) s.heap [] := ⟨hP, hD, va_S.rf⟩
  have hl := lv_entry [.ref (ad 0 0), .int p1, .int p2, .int p3, .int p4, .ref ao] (n := 7) (Nat.le_of_ble_eq_true rfl)
  refine W.eq (en_eq ha) ?_
  generalize (lg_sl [.ref (ad 0 0), .int p1, .int p2, .int p3, .int p4, .ref ao] ++ List.replicate (7 - (lg_sl [.ref (ad 0 0), .int p1, .int p2, .int p3, .int p4, .ref ao]).length) Slot.unset).toArray = ls at hl ⊢
  have hl : lv_has ls 7 [(0, .ref (ad 0 0)), (1, .int p1), (2, .int p2), (3, .int p3), (4, .int p4), (5, .ref ao)] := hl
  clear hP hD B ha
  change W p l e (rmx 7 1) s m args below meth c s.heap [] 0 0 _ (F0 m 0 ls [])
  refine lv_aload hx hb dL_pattern_0 (lv_at hl 5 rfl) ?_
  refine lv_iconst (v := 0) hx hb dL_pattern_2 (by decide) ?_
  refine lv_aload_n hx hb dL_pattern_3 rfl (lv_at hl 0 rfl) ?_
  refine lv_iload_n hx hb dL_pattern_4 rfl (lv_at hl 1 rfl) ?_
  refine lv_iload_n hx hb dL_pattern_5 rfl (lv_at hl 2 rfl) ?_
  refine lv_iload_n hx hb dL_pattern_6 rfl (lv_at hl 3 rfl) ?_
  refine lv_iload hx hb dL_pattern_7 (lv_at hl 4 rfl) ?_
  have hW := hW.perm pf2.symm
  refine xc_vi (by decide) hx hb hml hown hts hK hN hE hW (g_cw (n := 4) hts wm50_7 wm50_8 wm50_9 wm1_2 wm50_10 ⟨rfl, by decide +kernel, by decide +kernel, by decide +kernel⟩ ⟨rfl, rfl⟩ ⟨Nat.le_of_ble_eq_true rfl, Nat.le_of_ble_eq_true rfl⟩) ⟨10, (RX10, TX10, 13), _, rfl, rfl, rfl⟩ (c_X10_pattern l hfl D T A ad hok (outc T ao g ++ Z) x_K p1 p2 p3 p4 1 r x_K9 h) rfl hl.1 rfl (Nat.le_of_ble_eq_true rfl) dL_pattern_9 ⟨Nat.le_of_ble_eq_true rfl, Nat.le_of_ble_eq_true rfl⟩ (fun ce q9 H locs hW hce hcv hcl => ?_)
  have hW := hW.perm pf2
  refine vx_catch hown [] ⟨0, 14, 17, 21⟩ [⟨0, 14, 21, 13⟩, ⟨0, 14, 25, 15⟩] (htab.trans rfl) (fun z hz => absurd hz List.not_mem_nil) (by decide) (by decide) (hts _ wm11_20) (va_Nw.use rfl (hE.2.2.1 (exN 1) (by decide))) hce hcv hcl ?_
  refine lv_astore (lv' := [(6, .ref q9), (0, .ref (ad 0 0)), (1, .int p1), (2, .int p2), (3, .int p3), (4, .int p4), (5, .ref ao)]) hx hb dL_pattern_17 hl (by decide) rfl (fun ls hl => ?_)
  refine lv_iconst (v := 1) hx hb dL_pattern_19 (by decide) ?_
  exact g_reti hx hb hr hlk hW dL_pattern_20
set_option maxHeartbeats 4000000 in
set_option maxRecDepth 100000 in
theorem wL_pattern_2 (l : Launch) (hfl : l.stackTraces = false) (D : va_G) (T : Nat → ClassId) (A : Nat → Prop) (ad : Nat → Nat → Nat) (hok : okad ad) (Z : va_W) (ao : Nat) (g : Nat → Int64) (x_K : Nat → Ob) (p1 : Int32) (p2 : Int32) (p3 : Int32) (p4 : Int32) (r : Int32) (x_K9 : Nat → Ob) (h : f_X10_pattern x_K p1 p2 p3 p4 = some (2, r, x_K9)) : Met l yL_pattern (Cond.codeWith yL_pattern cL_pattern 7 (some .int) [(0, 14, 17, 21), (0, 14, 21, 13), (0, 14, 25, 15)] :: wsL_law) (rmx 7 2) (Pw D T A (outc T ao g ++ (oc_X10 T (ad 0) (bb ad) (x_K 0) ++ (wkL T ad x_K L18 ++ Z))) [.ref (ad 0 0), .int p1, .int p2, .int p3, .int p4, .ref ao]) (Qgi D A (outc T ao g ++ (oc_X10 T (ad 0) (bb ad) (x_K9 0) ++ (wkL T ad x_K9 L18 ++ Z))) 2) (ex1 2) (ex6 2) A := by
  refine va_MetW (cc := cL_pattern) (maxL := 7) (ret := (some .int)) (hh := [(0, 14, 17, 21), (0, 14, 21, 13), (0, 14, 25, 15)]) (by decide +kernel) rfl ?_
  intro p e s m args below meth c s₁ B hml hv
  obtain ⟨ha, hP, hK, hD, hN, hE, hC⟩ := hv
  have hx := B.exec
  have hb := B.bytes
  have hr := B.returns
  have hlk := B.notSynchronized
  have hts0 := atoms_spec (ws := Cond.codeWith yL_pattern cL_pattern 7 (some .int) [(0, 14, 17, 21), (0, 14, 21, 13), (0, 14, 25, 15)] :: wsL_law) B.pre
  have hts : ∀ w ∈ wsL_law, w.before args s = true := fun w hw => hts0 w (List.mem_cons_of_mem _ hw)
  have htab := vx_table (x := yL_word) B (hts0 _ List.mem_cons_self)
  have hown : s.vm.findClass RL = some m.cls := findClass_of_methodNamed B.named
  have hW : Wd D A s.heap (outc T ao g ++ (oc_X10 T (ad 0) (bb ad) (x_K 0) ++ (wkL T ad x_K L18 ++ Z))) s.heap [] := ⟨hP, hD, va_S.rf⟩
  have hl := lv_entry [.ref (ad 0 0), .int p1, .int p2, .int p3, .int p4, .ref ao] (n := 7) (Nat.le_of_ble_eq_true rfl)
  refine W.eq (en_eq ha) ?_
  generalize (lg_sl [.ref (ad 0 0), .int p1, .int p2, .int p3, .int p4, .ref ao] ++ List.replicate (7 - (lg_sl [.ref (ad 0 0), .int p1, .int p2, .int p3, .int p4, .ref ao]).length) Slot.unset).toArray = ls at hl ⊢
  have hl : lv_has ls 7 [(0, .ref (ad 0 0)), (1, .int p1), (2, .int p2), (3, .int p3), (4, .int p4), (5, .ref ao)] := hl
  clear hP hD B ha
  change W p l e (rmx 7 2) s m args below meth c s.heap [] 0 0 _ (F0 m 0 ls [])
  refine lv_aload hx hb dL_pattern_0 (lv_at hl 5 rfl) ?_
  refine lv_iconst (v := 0) hx hb dL_pattern_2 (by decide) ?_
  refine lv_aload_n hx hb dL_pattern_3 rfl (lv_at hl 0 rfl) ?_
  refine lv_iload_n hx hb dL_pattern_4 rfl (lv_at hl 1 rfl) ?_
  refine lv_iload_n hx hb dL_pattern_5 rfl (lv_at hl 2 rfl) ?_
  refine lv_iload_n hx hb dL_pattern_6 rfl (lv_at hl 3 rfl) ?_
  refine lv_iload hx hb dL_pattern_7 (lv_at hl 4 rfl) ?_
  have hW := hW.perm pf2.symm
  refine xc_vi (by decide) hx hb hml hown hts hK hN hE hW (g_cw (n := 4) hts wm50_7 wm50_8 wm50_9 wm1_2 wm50_10 ⟨rfl, by decide +kernel, by decide +kernel, by decide +kernel⟩ ⟨rfl, rfl⟩ ⟨Nat.le_of_ble_eq_true rfl, Nat.le_of_ble_eq_true rfl⟩) ⟨10, (RX10, TX10, 13), _, rfl, rfl, rfl⟩ (c_X10_pattern l hfl D T A ad hok (outc T ao g ++ Z) x_K p1 p2 p3 p4 2 r x_K9 h) rfl hl.1 rfl (Nat.le_of_ble_eq_true rfl) dL_pattern_9 ⟨Nat.le_of_ble_eq_true rfl, Nat.le_of_ble_eq_true rfl⟩ (fun ce q9 H locs hW hce hcv hcl => ?_)
  have hW := hW.perm pf2
  refine vx_catch hown [⟨0, 14, 17, 21⟩] ⟨0, 14, 21, 13⟩ [⟨0, 14, 25, 15⟩] (htab.trans rfl) (fun z hz => by
    simp only [List.mem_cons, List.not_mem_nil, or_false] at hz
    rcases hz with rfl
    · exact Or.inr ⟨by decide, _, hts _ wm11_20, hC _ (List.mem_of_getElem? (i := 1) rfl)⟩) (by decide) (by decide) (hts _ wm10_0) (va_Nw.use rfl (hE.2.2.1 (exN 2) (by decide))) hce hcv hcl ?_
  refine lv_astore (lv' := [(6, .ref q9), (0, .ref (ad 0 0)), (1, .int p1), (2, .int p2), (3, .int p3), (4, .int p4), (5, .ref ao)]) hx hb dL_pattern_21 hl (by decide) rfl (fun ls hl => ?_)
  refine lv_iconst (v := 2) hx hb dL_pattern_23 (by decide) ?_
  exact g_reti hx hb hr hlk hW dL_pattern_24
set_option maxHeartbeats 4000000 in
set_option maxRecDepth 100000 in
theorem wL_pattern_3 (l : Launch) (hfl : l.stackTraces = false) (D : va_G) (T : Nat → ClassId) (A : Nat → Prop) (ad : Nat → Nat → Nat) (hok : okad ad) (Z : va_W) (ao : Nat) (g : Nat → Int64) (x_K : Nat → Ob) (p1 : Int32) (p2 : Int32) (p3 : Int32) (p4 : Int32) (r : Int32) (x_K9 : Nat → Ob) (h : f_X10_pattern x_K p1 p2 p3 p4 = some (3, r, x_K9)) : Met l yL_pattern (Cond.codeWith yL_pattern cL_pattern 7 (some .int) [(0, 14, 17, 21), (0, 14, 21, 13), (0, 14, 25, 15)] :: wsL_law) (rmx 7 3) (Pw D T A (outc T ao g ++ (oc_X10 T (ad 0) (bb ad) (x_K 0) ++ (wkL T ad x_K L18 ++ Z))) [.ref (ad 0 0), .int p1, .int p2, .int p3, .int p4, .ref ao]) (Qgi D A (outc T ao g ++ (oc_X10 T (ad 0) (bb ad) (x_K9 0) ++ (wkL T ad x_K9 L18 ++ Z))) 3) (ex1 3) (ex6 3) A := by
  refine va_MetW (cc := cL_pattern) (maxL := 7) (ret := (some .int)) (hh := [(0, 14, 17, 21), (0, 14, 21, 13), (0, 14, 25, 15)]) (by decide +kernel) rfl ?_
  intro p e s m args below meth c s₁ B hml hv
  obtain ⟨ha, hP, hK, hD, hN, hE, hC⟩ := hv
  have hx := B.exec
  have hb := B.bytes
  have hr := B.returns
  have hlk := B.notSynchronized
  have hts0 := atoms_spec (ws := Cond.codeWith yL_pattern cL_pattern 7 (some .int) [(0, 14, 17, 21), (0, 14, 21, 13), (0, 14, 25, 15)] :: wsL_law) B.pre
  have hts : ∀ w ∈ wsL_law, w.before args s = true := fun w hw => hts0 w (List.mem_cons_of_mem _ hw)
  have htab := vx_table (x := yL_word) B (hts0 _ List.mem_cons_self)
  have hown : s.vm.findClass RL = some m.cls := findClass_of_methodNamed B.named
  have hW : Wd D A s.heap (outc T ao g ++ (oc_X10 T (ad 0) (bb ad) (x_K 0) ++ (wkL T ad x_K L18 ++ Z))) s.heap [] := ⟨hP, hD, va_S.rf⟩
  have hl := lv_entry [.ref (ad 0 0), .int p1, .int p2, .int p3, .int p4, .ref ao] (n := 7) (Nat.le_of_ble_eq_true rfl)
  refine W.eq (en_eq ha) ?_
  generalize (lg_sl [.ref (ad 0 0), .int p1, .int p2, .int p3, .int p4, .ref ao] ++ List.replicate (7 - (lg_sl [.ref (ad 0 0), .int p1, .int p2, .int p3, .int p4, .ref ao]).length) Slot.unset).toArray = ls at hl ⊢
  have hl : lv_has ls 7 [(0, .ref (ad 0 0)), (1, .int p1), (2, .int p2), (3, .int p3), (4, .int p4), (5, .ref ao)] := hl
  clear hP hD B ha
  change W p l e (rmx 7 3) s m args below meth c s.heap [] 0 0 _ (F0 m 0 ls [])
  refine lv_aload hx hb dL_pattern_0 (lv_at hl 5 rfl) ?_
  refine lv_iconst (v := 0) hx hb dL_pattern_2 (by decide) ?_
  refine lv_aload_n hx hb dL_pattern_3 rfl (lv_at hl 0 rfl) ?_
  refine lv_iload_n hx hb dL_pattern_4 rfl (lv_at hl 1 rfl) ?_
  refine lv_iload_n hx hb dL_pattern_5 rfl (lv_at hl 2 rfl) ?_
  refine lv_iload_n hx hb dL_pattern_6 rfl (lv_at hl 3 rfl) ?_
  refine lv_iload hx hb dL_pattern_7 (lv_at hl 4 rfl) ?_
  have hW := hW.perm pf2.symm
  refine xc_vi (by decide) hx hb hml hown hts hK hN hE hW (g_cw (n := 4) hts wm50_7 wm50_8 wm50_9 wm1_2 wm50_10 ⟨rfl, by decide +kernel, by decide +kernel, by decide +kernel⟩ ⟨rfl, rfl⟩ ⟨Nat.le_of_ble_eq_true rfl, Nat.le_of_ble_eq_true rfl⟩) ⟨10, (RX10, TX10, 13), _, rfl, rfl, rfl⟩ (c_X10_pattern l hfl D T A ad hok (outc T ao g ++ Z) x_K p1 p2 p3 p4 3 r x_K9 h) rfl hl.1 rfl (Nat.le_of_ble_eq_true rfl) dL_pattern_9 ⟨Nat.le_of_ble_eq_true rfl, Nat.le_of_ble_eq_true rfl⟩ (fun ce q9 H locs hW hce hcv hcl => ?_)
  have hW := hW.perm pf2
  refine vx_catch hown [⟨0, 14, 17, 21⟩, ⟨0, 14, 21, 13⟩] ⟨0, 14, 25, 15⟩ [] (htab.trans rfl) (fun z hz => by
    simp only [List.mem_cons, List.not_mem_nil, or_false] at hz
    rcases hz with rfl | rfl
    · exact Or.inr ⟨by decide, _, hts _ wm11_20, hC _ (List.mem_of_getElem? (i := 2) rfl)⟩
    · exact Or.inr ⟨by decide, _, hts _ wm10_0, hC _ (List.mem_of_getElem? (i := 0) rfl)⟩) (by decide) (by decide) (hts _ wm10_1) (va_Nw.use rfl (hE.2.2.1 (exN 3) (by decide))) hce hcv hcl ?_
  refine lv_astore (lv' := [(6, .ref q9), (0, .ref (ad 0 0)), (1, .int p1), (2, .int p2), (3, .int p3), (4, .int p4), (5, .ref ao)]) hx hb dL_pattern_25 hl (by decide) rfl (fun ls hl => ?_)
  refine lv_iconst (v := 3) hx hb dL_pattern_27 (by decide) ?_
  exact g_reti hx hb hr hlk hW dL_pattern_28
set_option maxHeartbeats 4000000 in
set_option maxRecDepth 100000 in
theorem wL_off_0 (l : Launch) (hfl : l.stackTraces = false) (D : va_G) (T : Nat → ClassId) (A : Nat → Prop) (ad : Nat → Nat → Nat) (hok : okad ad) (Z : va_W) (ao : Nat) (g : Nat → Int64) (x_K : Nat → Ob) (p1 : Int32) (p2 : Int32) (r : Int32) (x_K9 : Nat → Ob) (h : f_X10_off x_K p1 p2 = some (0, r, x_K9)) : Met l yL_off (Cond.codeWith yL_off cL_off 5 (some .int) [(0, 17, 20, 21)] :: wsL_law) (rmx 8 0) (Pw D T A (outc T ao g ++ (oc_X10 T (ad 0) (bb ad) (x_K 0) ++ (wkL T ad x_K L18 ++ Z))) [.ref (ad 0 0), .int p1, .int p2, .ref ao]) (Qgi D A (outc T ao (vp_updL g 0 (if r = 0 then 0 else 1)) ++ (oc_X10 T (ad 0) (bb ad) (x_K9 0) ++ (wkL T ad x_K9 L18 ++ Z))) 0) (ex1 0) (ex6 0) A := by
  refine va_MetW (cc := cL_off) (maxL := 5) (ret := (some .int)) (hh := [(0, 17, 20, 21)]) (by decide +kernel) rfl ?_
  intro p e s m args below meth c s₁ B hml hv
  obtain ⟨ha, hP, hK, hD, hN, hE, hC⟩ := hv
  have hx := B.exec
  have hb := B.bytes
  have hr := B.returns
  have hlk := B.notSynchronized
  have hts0 := atoms_spec (ws := Cond.codeWith yL_off cL_off 5 (some .int) [(0, 17, 20, 21)] :: wsL_law) B.pre
  have hts : ∀ w ∈ wsL_law, w.before args s = true := fun w hw => hts0 w (List.mem_cons_of_mem _ hw)
  have htab := vx_table (x := yL_word) B (hts0 _ List.mem_cons_self)
  have hown : s.vm.findClass RL = some m.cls := findClass_of_methodNamed B.named
  have hW : Wd D A s.heap (outc T ao g ++ (oc_X10 T (ad 0) (bb ad) (x_K 0) ++ (wkL T ad x_K L18 ++ Z))) s.heap [] := ⟨hP, hD, va_S.rf⟩
  have hl := lv_entry [.ref (ad 0 0), .int p1, .int p2, .ref ao] (n := 5) (Nat.le_of_ble_eq_true rfl)
  refine W.eq (en_eq ha) ?_
  generalize (lg_sl [.ref (ad 0 0), .int p1, .int p2, .ref ao] ++ List.replicate (5 - (lg_sl [.ref (ad 0 0), .int p1, .int p2, .ref ao]).length) Slot.unset).toArray = ls at hl ⊢
  have hl : lv_has ls 5 [(0, .ref (ad 0 0)), (1, .int p1), (2, .int p2), (3, .ref ao)] := hl
  clear hP hD B ha
  change W p l e (rmx 8 0) s m args below meth c s.heap [] 0 0 _ (F0 m 0 ls [])
  refine lv_aload_n hx hb dL_off_0 rfl (lv_at hl 3 rfl) ?_
  refine lv_iconst (v := 0) hx hb dL_off_1 (by decide) ?_
  refine lv_aload_n hx hb dL_off_2 rfl (lv_at hl 0 rfl) ?_
  refine lv_iload_n hx hb dL_off_3 rfl (lv_at hl 1 rfl) ?_
  refine lv_iload_n hx hb dL_off_4 rfl (lv_at hl 2 rfl) ?_
  have hW := hW.perm pf2.symm
  refine x0_vi hx hb hml hown hts hK hN hE hW (g_cw (n := 2) hts wm51_10 wm51_11 wm51_12 wm1_2 wm51_13 ⟨rfl, by decide +kernel, by decide +kernel, by decide +kernel⟩ ⟨rfl, rfl⟩ ⟨Nat.le_of_ble_eq_true rfl, Nat.le_of_ble_eq_true rfl⟩) ⟨10, (RX10, TX10, 13), _, rfl, rfl, rfl⟩ (c_X10_off l hfl D T A ad hok (outc T ao g ++ Z) x_K p1 p2 0 r x_K9 h) rfl hl.1 rfl (Nat.le_of_ble_eq_true rfl) dL_off_5 ⟨Nat.zero_le _, Nat.zero_le _⟩ (fun H locs hW => ?_)
  have hW := hW.perm pf2
  refine lv_if_eq (tgt := 15) hx hb dL_off_8 (by decide) (fun c1 => ?_) (fun c1 => ?_)
  · rw [if_pos c1]
    refine lv_lconst (v := 0) hx hb dL_off_15 (by decide) ?_
    refine g_last hx hb hK hW dL_off_16 (fun H locs hW => ?_)
    refine lv_goto (tgt := 24) hx hb dL_off_17 (by decide) ?_
    refine lv_iconst (v := 0) hx hb dL_off_24 (by decide) ?_
    exact g_reti hx hb hr hlk hW dL_off_25
  · rw [if_neg c1]
    refine lv_lconst (v := 1) hx hb dL_off_11 (by decide) ?_
    refine lv_goto (tgt := 16) hx hb dL_off_12 (by decide) ?_
    refine g_last hx hb hK hW dL_off_16 (fun H locs hW => ?_)
    refine lv_goto (tgt := 24) hx hb dL_off_17 (by decide) ?_
    refine lv_iconst (v := 0) hx hb dL_off_24 (by decide) ?_
    exact g_reti hx hb hr hlk hW dL_off_25
set_option maxHeartbeats 4000000 in
set_option maxRecDepth 100000 in
theorem wL_off_1 (l : Launch) (hfl : l.stackTraces = false) (D : va_G) (T : Nat → ClassId) (A : Nat → Prop) (ad : Nat → Nat → Nat) (hok : okad ad) (Z : va_W) (ao : Nat) (g : Nat → Int64) (x_K : Nat → Ob) (p1 : Int32) (p2 : Int32) (r : Int32) (x_K9 : Nat → Ob) (h : f_X10_off x_K p1 p2 = some (1, r, x_K9)) : Met l yL_off (Cond.codeWith yL_off cL_off 5 (some .int) [(0, 17, 20, 21)] :: wsL_law) (rmx 8 1) (Pw D T A (outc T ao g ++ (oc_X10 T (ad 0) (bb ad) (x_K 0) ++ (wkL T ad x_K L18 ++ Z))) [.ref (ad 0 0), .int p1, .int p2, .ref ao]) (Qgi D A (outc T ao g ++ (oc_X10 T (ad 0) (bb ad) (x_K9 0) ++ (wkL T ad x_K9 L18 ++ Z))) 1) (ex1 1) (ex6 1) A := by
  refine va_MetW (cc := cL_off) (maxL := 5) (ret := (some .int)) (hh := [(0, 17, 20, 21)]) (by decide +kernel) rfl ?_
  intro p e s m args below meth c s₁ B hml hv
  obtain ⟨ha, hP, hK, hD, hN, hE, hC⟩ := hv
  have hx := B.exec
  have hb := B.bytes
  have hr := B.returns
  have hlk := B.notSynchronized
  have hts0 := atoms_spec (ws := Cond.codeWith yL_off cL_off 5 (some .int) [(0, 17, 20, 21)] :: wsL_law) B.pre
  have hts : ∀ w ∈ wsL_law, w.before args s = true := fun w hw => hts0 w (List.mem_cons_of_mem _ hw)
  have htab := vx_table (x := yL_word) B (hts0 _ List.mem_cons_self)
  have hown : s.vm.findClass RL = some m.cls := findClass_of_methodNamed B.named
  have hW : Wd D A s.heap (outc T ao g ++ (oc_X10 T (ad 0) (bb ad) (x_K 0) ++ (wkL T ad x_K L18 ++ Z))) s.heap [] := ⟨hP, hD, va_S.rf⟩
  have hl := lv_entry [.ref (ad 0 0), .int p1, .int p2, .ref ao] (n := 5) (Nat.le_of_ble_eq_true rfl)
  refine W.eq (en_eq ha) ?_
  generalize (lg_sl [.ref (ad 0 0), .int p1, .int p2, .ref ao] ++ List.replicate (5 - (lg_sl [.ref (ad 0 0), .int p1, .int p2, .ref ao]).length) Slot.unset).toArray = ls at hl ⊢
  have hl : lv_has ls 5 [(0, .ref (ad 0 0)), (1, .int p1), (2, .int p2), (3, .ref ao)] := hl
  clear hP hD B ha
  change W p l e (rmx 8 1) s m args below meth c s.heap [] 0 0 _ (F0 m 0 ls [])
  refine lv_aload_n hx hb dL_off_0 rfl (lv_at hl 3 rfl) ?_
  refine lv_iconst (v := 0) hx hb dL_off_1 (by decide) ?_
  refine lv_aload_n hx hb dL_off_2 rfl (lv_at hl 0 rfl) ?_
  refine lv_iload_n hx hb dL_off_3 rfl (lv_at hl 1 rfl) ?_
  refine lv_iload_n hx hb dL_off_4 rfl (lv_at hl 2 rfl) ?_
  have hW := hW.perm pf2.symm
  refine xc_vi (by decide) hx hb hml hown hts hK hN hE hW (g_cw (n := 2) hts wm51_10 wm51_11 wm51_12 wm1_2 wm51_13 ⟨rfl, by decide +kernel, by decide +kernel, by decide +kernel⟩ ⟨rfl, rfl⟩ ⟨Nat.le_of_ble_eq_true rfl, Nat.le_of_ble_eq_true rfl⟩) ⟨10, (RX10, TX10, 13), _, rfl, rfl, rfl⟩ (c_X10_off l hfl D T A ad hok (outc T ao g ++ Z) x_K p1 p2 1 r x_K9 h) rfl hl.1 rfl (Nat.le_of_ble_eq_true rfl) dL_off_5 ⟨Nat.le_of_ble_eq_true rfl, Nat.le_of_ble_eq_true rfl⟩ (fun ce q9 H locs hW hce hcv hcl => ?_)
  have hW := hW.perm pf2
  refine vx_catch hown [] ⟨0, 17, 20, 21⟩ [] (htab.trans rfl) (fun z hz => absurd hz List.not_mem_nil) (by decide) (by decide) (hts _ wm11_20) (va_Nw.use rfl (hE.2.2.1 (exN 1) (by decide))) hce hcv hcl ?_
  refine lv_astore (lv' := [(4, .ref q9), (0, .ref (ad 0 0)), (1, .int p1), (2, .int p2), (3, .ref ao)]) hx hb dL_off_20 hl (by decide) rfl (fun ls hl => ?_)
  refine lv_iconst (v := 1) hx hb dL_off_22 (by decide) ?_
  exact g_reti hx hb hr hlk hW dL_off_23
set_option maxHeartbeats 4000000 in
set_option maxRecDepth 100000 in
theorem wL_styleFaults_0 (l : Launch) (hfl : l.stackTraces = false) (D : va_G) (T : Nat → ClassId) (A : Nat → Prop) (ad : Nat → Nat → Nat) (hok : okad ad) (Z : va_W) (ao : Nat) (g : Nat → Int64) (x_K : Nat → Ob) (p1 : Int32) (r : Int32) (x_K9 : Nat → Ob) (h : f_X10_styleFaults x_K p1 = some (0, r, x_K9)) : Met l yL_styleFaults (Cond.codeWith yL_styleFaults cL_styleFaults 4 (some .int) [(0, 9, 12, 21)] :: wsL_law) (rmx 8 0) (Pw D T A (outc T ao g ++ (oc_X10 T (ad 0) (bb ad) (x_K 0) ++ (wkL T ad x_K L18 ++ Z))) [.ref (ad 0 0), .int p1, .ref ao]) (Qgi D A (outc T ao (vp_updL g 0 r.toInt64) ++ (oc_X10 T (ad 0) (bb ad) (x_K9 0) ++ (wkL T ad x_K9 L18 ++ Z))) 0) (ex1 0) (ex6 0) A := by
  refine va_MetW (cc := cL_styleFaults) (maxL := 4) (ret := (some .int)) (hh := [(0, 9, 12, 21)]) (by decide +kernel) rfl ?_
  intro p e s m args below meth c s₁ B hml hv
  obtain ⟨ha, hP, hK, hD, hN, hE, hC⟩ := hv
  have hx := B.exec
  have hb := B.bytes
  have hr := B.returns
  have hlk := B.notSynchronized
  have hts0 := atoms_spec (ws := Cond.codeWith yL_styleFaults cL_styleFaults 4 (some .int) [(0, 9, 12, 21)] :: wsL_law) B.pre
  have hts : ∀ w ∈ wsL_law, w.before args s = true := fun w hw => hts0 w (List.mem_cons_of_mem _ hw)
  have htab := vx_table (x := yL_word) B (hts0 _ List.mem_cons_self)
  have hown : s.vm.findClass RL = some m.cls := findClass_of_methodNamed B.named
  have hW : Wd D A s.heap (outc T ao g ++ (oc_X10 T (ad 0) (bb ad) (x_K 0) ++ (wkL T ad x_K L18 ++ Z))) s.heap [] := ⟨hP, hD, va_S.rf⟩
  have hl := lv_entry [.ref (ad 0 0), .int p1, .ref ao] (n := 4) (Nat.le_of_ble_eq_true rfl)
  refine W.eq (en_eq ha) ?_
  generalize (lg_sl [.ref (ad 0 0), .int p1, .ref ao] ++ List.replicate (4 - (lg_sl [.ref (ad 0 0), .int p1, .ref ao]).length) Slot.unset).toArray = ls at hl ⊢
  have hl : lv_has ls 4 [(0, .ref (ad 0 0)), (1, .int p1), (2, .ref ao)] := hl
  clear hP hD B ha
  change W p l e (rmx 8 0) s m args below meth c s.heap [] 0 0 _ (F0 m 0 ls [])
  refine lv_aload_n hx hb dL_styleFaults_0 rfl (lv_at hl 2 rfl) ?_
  refine lv_iconst (v := 0) hx hb dL_styleFaults_1 (by decide) ?_
  refine lv_aload_n hx hb dL_styleFaults_2 rfl (lv_at hl 0 rfl) ?_
  refine lv_iload_n hx hb dL_styleFaults_3 rfl (lv_at hl 1 rfl) ?_
  have hW := hW.perm pf2.symm
  refine x0_vi hx hb hml hown hts hK hN hE hW (g_cw (n := 1) hts wm52_6 wm52_7 wm52_8 wm1_2 wm52_9 ⟨rfl, by decide +kernel, by decide +kernel, by decide +kernel⟩ ⟨rfl, rfl⟩ ⟨Nat.le_of_ble_eq_true rfl, Nat.le_of_ble_eq_true rfl⟩) ⟨10, (RX10, TX10, 13), _, rfl, rfl, rfl⟩ (c_X10_styleFaults l hfl D T A ad hok (outc T ao g ++ Z) x_K p1 0 r x_K9 h) rfl hl.1 rfl (Nat.le_of_ble_eq_true rfl) dL_styleFaults_4 ⟨Nat.zero_le _, Nat.zero_le _⟩ (fun H locs hW => ?_)
  have hW := hW.perm pf2
  refine lv_i2l (v := r.toInt64) hx hb dL_styleFaults_7 rfl ?_
  refine g_last hx hb hK hW dL_styleFaults_8 (fun H locs hW => ?_)
  refine lv_goto (tgt := 15) hx hb dL_styleFaults_9 (by decide) ?_
  refine lv_iconst (v := 0) hx hb dL_styleFaults_15 (by decide) ?_
  exact g_reti hx hb hr hlk hW dL_styleFaults_16
set_option maxHeartbeats 4000000 in
set_option maxRecDepth 100000 in
theorem wL_styleFaults_1 (l : Launch) (hfl : l.stackTraces = false) (D : va_G) (T : Nat → ClassId) (A : Nat → Prop) (ad : Nat → Nat → Nat) (hok : okad ad) (Z : va_W) (ao : Nat) (g : Nat → Int64) (x_K : Nat → Ob) (p1 : Int32) (r : Int32) (x_K9 : Nat → Ob) (h : f_X10_styleFaults x_K p1 = some (1, r, x_K9)) : Met l yL_styleFaults (Cond.codeWith yL_styleFaults cL_styleFaults 4 (some .int) [(0, 9, 12, 21)] :: wsL_law) (rmx 8 1) (Pw D T A (outc T ao g ++ (oc_X10 T (ad 0) (bb ad) (x_K 0) ++ (wkL T ad x_K L18 ++ Z))) [.ref (ad 0 0), .int p1, .ref ao]) (Qgi D A (outc T ao g ++ (oc_X10 T (ad 0) (bb ad) (x_K9 0) ++ (wkL T ad x_K9 L18 ++ Z))) 1) (ex1 1) (ex6 1) A := by
  refine va_MetW (cc := cL_styleFaults) (maxL := 4) (ret := (some .int)) (hh := [(0, 9, 12, 21)]) (by decide +kernel) rfl ?_
  intro p e s m args below meth c s₁ B hml hv
  obtain ⟨ha, hP, hK, hD, hN, hE, hC⟩ := hv
  have hx := B.exec
  have hb := B.bytes
  have hr := B.returns
  have hlk := B.notSynchronized
  have hts0 := atoms_spec (ws := Cond.codeWith yL_styleFaults cL_styleFaults 4 (some .int) [(0, 9, 12, 21)] :: wsL_law) B.pre
  have hts : ∀ w ∈ wsL_law, w.before args s = true := fun w hw => hts0 w (List.mem_cons_of_mem _ hw)
  have htab := vx_table (x := yL_word) B (hts0 _ List.mem_cons_self)
  have hown : s.vm.findClass RL = some m.cls := findClass_of_methodNamed B.named
  have hW : Wd D A s.heap (outc T ao g ++ (oc_X10 T (ad 0) (bb ad) (x_K 0) ++ (wkL T ad x_K L18 ++ Z))) s.heap [] := ⟨hP, hD, va_S.rf⟩
  have hl := lv_entry [.ref (ad 0 0), .int p1, .ref ao] (n := 4) (Nat.le_of_ble_eq_true rfl)
  refine W.eq (en_eq ha) ?_
  generalize (lg_sl [.ref (ad 0 0), .int p1, .ref ao] ++ List.replicate (4 - (lg_sl [.ref (ad 0 0), .int p1, .ref ao]).length) Slot.unset).toArray = ls at hl ⊢
  have hl : lv_has ls 4 [(0, .ref (ad 0 0)), (1, .int p1), (2, .ref ao)] := hl
  clear hP hD B ha
  change W p l e (rmx 8 1) s m args below meth c s.heap [] 0 0 _ (F0 m 0 ls [])
  refine lv_aload_n hx hb dL_styleFaults_0 rfl (lv_at hl 2 rfl) ?_
  refine lv_iconst (v := 0) hx hb dL_styleFaults_1 (by decide) ?_
  refine lv_aload_n hx hb dL_styleFaults_2 rfl (lv_at hl 0 rfl) ?_
  refine lv_iload_n hx hb dL_styleFaults_3 rfl (lv_at hl 1 rfl) ?_
  have hW := hW.perm pf2.symm
  refine xc_vi (by decide) hx hb hml hown hts hK hN hE hW (g_cw (n := 1) hts wm52_6 wm52_7 wm52_8 wm1_2 wm52_9 ⟨rfl, by decide +kernel, by decide +kernel, by decide +kernel⟩ ⟨rfl, rfl⟩ ⟨Nat.le_of_ble_eq_true rfl, Nat.le_of_ble_eq_true rfl⟩) ⟨10, (RX10, TX10, 13), _, rfl, rfl, rfl⟩ (c_X10_styleFaults l hfl D T A ad hok (outc T ao g ++ Z) x_K p1 1 r x_K9 h) rfl hl.1 rfl (Nat.le_of_ble_eq_true rfl) dL_styleFaults_4 ⟨Nat.le_of_ble_eq_true rfl, Nat.le_of_ble_eq_true rfl⟩ (fun ce q9 H locs hW hce hcv hcl => ?_)
  have hW := hW.perm pf2
  refine vx_catch hown [] ⟨0, 9, 12, 21⟩ [] (htab.trans rfl) (fun z hz => absurd hz List.not_mem_nil) (by decide) (by decide) (hts _ wm11_20) (va_Nw.use rfl (hE.2.2.1 (exN 1) (by decide))) hce hcv hcl ?_
  refine lv_astore_n (lv' := [(3, .ref q9), (0, .ref (ad 0 0)), (1, .int p1), (2, .ref ao)]) hx hb dL_styleFaults_12 rfl hl (by decide) rfl (fun ls hl => ?_)
  refine lv_iconst (v := 1) hx hb dL_styleFaults_13 (by decide) ?_
  exact g_reti hx hb hr hlk hW dL_styleFaults_14
set_option maxHeartbeats 4000000 in
set_option maxRecDepth 100000 in
theorem wL_styleFault_0 (l : Launch) (hfl : l.stackTraces = false) (D : va_G) (T : Nat → ClassId) (A : Nat → Prop) (ad : Nat → Nat → Nat) (hok : okad ad) (Z : va_W) (ao : Nat) (g : Nat → Int64) (x_K : Nat → Ob) (p1 : Int32) (p2 : Int32) (r : Int32) (x_K9 : Nat → Ob) (h : f_X10_styleFault x_K p1 p2 = some (0, r, x_K9)) : Met l yL_styleFault (Cond.codeWith yL_styleFault cL_styleFault 5 (some .int) [(0, 10, 13, 21)] :: wsL_law) (rmx 8 0) (Pw D T A (outc T ao g ++ (oc_X10 T (ad 0) (bb ad) (x_K 0) ++ (wkL T ad x_K L18 ++ Z))) [.ref (ad 0 0), .int p1, .int p2, .ref ao]) (Qgi D A (outc T ao (vp_updL g 0 r.toInt64) ++ (oc_X10 T (ad 0) (bb ad) (x_K9 0) ++ (wkL T ad x_K9 L18 ++ Z))) 0) (ex1 0) (ex6 0) A := by
  refine va_MetW (cc := cL_styleFault) (maxL := 5) (ret := (some .int)) (hh := [(0, 10, 13, 21)]) (by decide +kernel) rfl ?_
  intro p e s m args below meth c s₁ B hml hv
  obtain ⟨ha, hP, hK, hD, hN, hE, hC⟩ := hv
  have hx := B.exec
  have hb := B.bytes
  have hr := B.returns
  have hlk := B.notSynchronized
  have hts0 := atoms_spec (ws := Cond.codeWith yL_styleFault cL_styleFault 5 (some .int) [(0, 10, 13, 21)] :: wsL_law) B.pre
  have hts : ∀ w ∈ wsL_law, w.before args s = true := fun w hw => hts0 w (List.mem_cons_of_mem _ hw)
  have htab := vx_table (x := yL_word) B (hts0 _ List.mem_cons_self)
  have hown : s.vm.findClass RL = some m.cls := findClass_of_methodNamed B.named
  have hW : Wd D A s.heap (outc T ao g ++ (oc_X10 T (ad 0) (bb ad) (x_K 0) ++ (wkL T ad x_K L18 ++ Z))) s.heap [] := ⟨hP, hD, va_S.rf⟩
  have hl := lv_entry [.ref (ad 0 0), .int p1, .int p2, .ref ao] (n := 5) (Nat.le_of_ble_eq_true rfl)
  refine W.eq (en_eq ha) ?_
  generalize (lg_sl [.ref (ad 0 0), .int p1, .int p2, .ref ao] ++ List.replicate (5 - (lg_sl [.ref (ad 0 0), .int p1, .int p2, .ref ao]).length) Slot.unset).toArray = ls at hl ⊢
  have hl : lv_has ls 5 [(0, .ref (ad 0 0)), (1, .int p1), (2, .int p2), (3, .ref ao)] := hl
  clear hP hD B ha
  change W p l e (rmx 8 0) s m args below meth c s.heap [] 0 0 _ (F0 m 0 ls [])
  refine lv_aload_n hx hb dL_styleFault_0 rfl (lv_at hl 3 rfl) ?_
  refine lv_iconst (v := 0) hx hb dL_styleFault_1 (by decide) ?_
  refine lv_aload_n hx hb dL_styleFault_2 rfl (lv_at hl 0 rfl) ?_
  refine lv_iload_n hx hb dL_styleFault_3 rfl (lv_at hl 1 rfl) ?_
  refine lv_iload_n hx hb dL_styleFault_4 rfl (lv_at hl 2 rfl) ?_
  have hW := hW.perm pf2.symm
  refine x0_vi hx hb hml hown hts hK hN hE hW (g_cw (n := 2) hts wm54_6 wm54_7 wm54_8 wm1_2 wm54_9 ⟨rfl, by decide +kernel, by decide +kernel, by decide +kernel⟩ ⟨rfl, rfl⟩ ⟨Nat.le_of_ble_eq_true rfl, Nat.le_of_ble_eq_true rfl⟩) ⟨10, (RX10, TX10, 13), _, rfl, rfl, rfl⟩ (c_X10_styleFault l hfl D T A ad hok (outc T ao g ++ Z) x_K p1 p2 0 r x_K9 h) rfl hl.1 rfl (Nat.le_of_ble_eq_true rfl) dL_styleFault_5 ⟨Nat.zero_le _, Nat.zero_le _⟩ (fun H locs hW => ?_)
  have hW := hW.perm pf2
  refine lv_i2l (v := r.toInt64) hx hb dL_styleFault_8 rfl ?_
  refine g_last hx hb hK hW dL_styleFault_9 (fun H locs hW => ?_)
  refine lv_goto (tgt := 17) hx hb dL_styleFault_10 (by decide) ?_
  refine lv_iconst (v := 0) hx hb dL_styleFault_17 (by decide) ?_
  exact g_reti hx hb hr hlk hW dL_styleFault_18
set_option maxHeartbeats 4000000 in
set_option maxRecDepth 100000 in
theorem wL_styleFault_1 (l : Launch) (hfl : l.stackTraces = false) (D : va_G) (T : Nat → ClassId) (A : Nat → Prop) (ad : Nat → Nat → Nat) (hok : okad ad) (Z : va_W) (ao : Nat) (g : Nat → Int64) (x_K : Nat → Ob) (p1 : Int32) (p2 : Int32) (r : Int32) (x_K9 : Nat → Ob) (h : f_X10_styleFault x_K p1 p2 = some (1, r, x_K9)) : Met l yL_styleFault (Cond.codeWith yL_styleFault cL_styleFault 5 (some .int) [(0, 10, 13, 21)] :: wsL_law) (rmx 8 1) (Pw D T A (outc T ao g ++ (oc_X10 T (ad 0) (bb ad) (x_K 0) ++ (wkL T ad x_K L18 ++ Z))) [.ref (ad 0 0), .int p1, .int p2, .ref ao]) (Qgi D A (outc T ao g ++ (oc_X10 T (ad 0) (bb ad) (x_K9 0) ++ (wkL T ad x_K9 L18 ++ Z))) 1) (ex1 1) (ex6 1) A := by
  refine va_MetW (cc := cL_styleFault) (maxL := 5) (ret := (some .int)) (hh := [(0, 10, 13, 21)]) (by decide +kernel) rfl ?_
  intro p e s m args below meth c s₁ B hml hv
  obtain ⟨ha, hP, hK, hD, hN, hE, hC⟩ := hv
  have hx := B.exec
  have hb := B.bytes
  have hr := B.returns
  have hlk := B.notSynchronized
  have hts0 := atoms_spec (ws := Cond.codeWith yL_styleFault cL_styleFault 5 (some .int) [(0, 10, 13, 21)] :: wsL_law) B.pre
  have hts : ∀ w ∈ wsL_law, w.before args s = true := fun w hw => hts0 w (List.mem_cons_of_mem _ hw)
  have htab := vx_table (x := yL_word) B (hts0 _ List.mem_cons_self)
  have hown : s.vm.findClass RL = some m.cls := findClass_of_methodNamed B.named
  have hW : Wd D A s.heap (outc T ao g ++ (oc_X10 T (ad 0) (bb ad) (x_K 0) ++ (wkL T ad x_K L18 ++ Z))) s.heap [] := ⟨hP, hD, va_S.rf⟩
  have hl := lv_entry [.ref (ad 0 0), .int p1, .int p2, .ref ao] (n := 5) (Nat.le_of_ble_eq_true rfl)
  refine W.eq (en_eq ha) ?_
  generalize (lg_sl [.ref (ad 0 0), .int p1, .int p2, .ref ao] ++ List.replicate (5 - (lg_sl [.ref (ad 0 0), .int p1, .int p2, .ref ao]).length) Slot.unset).toArray = ls at hl ⊢
  have hl : lv_has ls 5 [(0, .ref (ad 0 0)), (1, .int p1), (2, .int p2), (3, .ref ao)] := hl
  clear hP hD B ha
  change W p l e (rmx 8 1) s m args below meth c s.heap [] 0 0 _ (F0 m 0 ls [])
  refine lv_aload_n hx hb dL_styleFault_0 rfl (lv_at hl 3 rfl) ?_
  refine lv_iconst (v := 0) hx hb dL_styleFault_1 (by decide) ?_
  refine lv_aload_n hx hb dL_styleFault_2 rfl (lv_at hl 0 rfl) ?_
  refine lv_iload_n hx hb dL_styleFault_3 rfl (lv_at hl 1 rfl) ?_
  refine lv_iload_n hx hb dL_styleFault_4 rfl (lv_at hl 2 rfl) ?_
  have hW := hW.perm pf2.symm
  refine xc_vi (by decide) hx hb hml hown hts hK hN hE hW (g_cw (n := 2) hts wm54_6 wm54_7 wm54_8 wm1_2 wm54_9 ⟨rfl, by decide +kernel, by decide +kernel, by decide +kernel⟩ ⟨rfl, rfl⟩ ⟨Nat.le_of_ble_eq_true rfl, Nat.le_of_ble_eq_true rfl⟩) ⟨10, (RX10, TX10, 13), _, rfl, rfl, rfl⟩ (c_X10_styleFault l hfl D T A ad hok (outc T ao g ++ Z) x_K p1 p2 1 r x_K9 h) rfl hl.1 rfl (Nat.le_of_ble_eq_true rfl) dL_styleFault_5 ⟨Nat.le_of_ble_eq_true rfl, Nat.le_of_ble_eq_true rfl⟩ (fun ce q9 H locs hW hce hcv hcl => ?_)
  have hW := hW.perm pf2
  refine vx_catch hown [] ⟨0, 10, 13, 21⟩ [] (htab.trans rfl) (fun z hz => absurd hz List.not_mem_nil) (by decide) (by decide) (hts _ wm11_20) (va_Nw.use rfl (hE.2.2.1 (exN 1) (by decide))) hce hcv hcl ?_
  refine lv_astore (lv' := [(4, .ref q9), (0, .ref (ad 0 0)), (1, .int p1), (2, .int p2), (3, .ref ao)]) hx hb dL_styleFault_13 hl (by decide) rfl (fun ls hl => ?_)
  refine lv_iconst (v := 1) hx hb dL_styleFault_15 (by decide) ?_
  exact g_reti hx hb hr hlk hW dL_styleFault_16
