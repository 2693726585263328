/-! The law from its entry. -/
section STARTS
variable {s : State} {args : Array Value}
theorem st_NN (hts : ∀ w ∈ lw_tbl, w.before args s = true) : NN s := ⟨fun q hq => va_Nw.of rfl (hts _ (in_nfl _ (List.mem_map.mpr ⟨q, hq, rfl⟩))), fun q hq => va_Nw.of rfl (hts _ (in_nml _ (List.mem_map.mpr ⟨q, hq, rfl⟩)))⟩
theorem st_NC (hn : (Jvm.Cond.and given_1 narrow_1).before args s = true) : NC s := by
  have hs := flat_of_before _ hn
  intro q hq
  simp only [ncl, List.mem_cons, List.not_mem_nil, or_false] at hq
  rcases hq with rfl | rfl | rfl
  · exact va_Nc.of (hs (Cond.not (.castable "java/lang/IllegalStateException" "java/lang/IllegalArgumentException")) (by decide +kernel))
  · exact va_Nc.of (hs (Cond.not (.castable "java/lang/IllegalArgumentException" "java/lang/IndexOutOfBoundsException")) (by decide +kernel))
  · exact va_Nc.of (hs (Cond.not (.castable "java/lang/IllegalStateException" "java/lang/IndexOutOfBoundsException")) (by decide +kernel))
theorem st_cl (hts : ∀ w ∈ lw_tbl, w.before args s = true) : ∀ q ∈ vwCl, ∃ (cC : ClassId) (iS : Nat → Nat), u_Kn s q.1 q.2.1 q.2.2 cC iS :=
  have hi : ∀ w ∈ ([.instantiable RX0 9, .instantiable RX1 4, .instantiable RX2 15, .instantiable RX3 6, .instantiable RX4 0, .instantiable RX5 3, .instantiable RX6 9, .instantiable RX7 6, .instantiable RX8 5, .instantiable RX9 5, .instantiable RX10 13] : List Cond), w.before args s = true := fun w hw => hts w (in_ins w hw)
  List.forall_mem_cons.mpr ⟨u_known hts in_wsX00 (hi _ (List.mem_of_getElem? (i := 0) rfl)), List.forall_mem_cons.mpr ⟨u_known hts in_wsX10 (hi _ (List.mem_of_getElem? (i := 1) rfl)), List.forall_mem_cons.mpr ⟨u_known hts in_wsX20 (hi _ (List.mem_of_getElem? (i := 2) rfl)), List.forall_mem_cons.mpr ⟨u_known hts in_wsX30 (hi _ (List.mem_of_getElem? (i := 3) rfl)), List.forall_mem_cons.mpr ⟨u_known hts in_wsX40 (hi _ (List.mem_of_getElem? (i := 4) rfl)), List.forall_mem_cons.mpr ⟨u_known hts in_wsX50 (hi _ (List.mem_of_getElem? (i := 5) rfl)), List.forall_mem_cons.mpr ⟨u_known hts in_wsX60 (hi _ (List.mem_of_getElem? (i := 6) rfl)), List.forall_mem_cons.mpr ⟨u_known hts in_wsX70 (hi _ (List.mem_of_getElem? (i := 7) rfl)), List.forall_mem_cons.mpr ⟨u_known hts in_wsX80 (hi _ (List.mem_of_getElem? (i := 8) rfl)), List.forall_mem_cons.mpr ⟨u_known hts in_wsX90 (hi _ (List.mem_of_getElem? (i := 9) rfl)), List.forall_mem_cons.mpr ⟨u_known hts in_wsX100 (hi _ (List.mem_of_getElem? (i := 10) rfl)), fun _ h => absurd h List.not_mem_nil⟩⟩⟩⟩⟩⟩⟩⟩⟩⟩⟩
theorem st_oth (hts : ∀ w ∈ lw_tbl, w.before args s = true) : (Cond.laysStatic Bundle.tN "UNASSIGNED_STACK" Bundle.steD).before args s = true ∧ (Cond.laysStatic Bundle.tN "SUPPRESSED_SENTINEL" Bundle.listD).before args s = true ∧ (Cond.initialized Bundle.tN).before args s = true ∧ (Cond.arrayOver (.object RX6)).before args s = true ∧ (Cond.arrayClass .int).before args s = true ∧ (Cond.arrayClass .boolean).before args s = true ∧ (Cond.arrayClass .long).before args s = true :=
  ⟨hts _ (in_oth _ (List.mem_of_getElem? (i := 0) rfl)), hts _ (in_oth _ (List.mem_of_getElem? (i := 1) rfl)), hts _ (in_oth _ (List.mem_of_getElem? (i := 2) rfl)), hts _ (in_oth _ (List.mem_of_getElem? (i := 3) rfl)), hts _ (in_oth _ (List.mem_of_getElem? (i := 4) rfl)), hts _ (in_oth _ (List.mem_of_getElem? (i := 5) rfl)), hts _ (in_oth _ (List.mem_of_getElem? (i := 6) rfl))⟩
theorem st_EX {A : Nat → Prop} (hts : ∀ w ∈ lw_tbl, w.before args s = true) (hn : (Jvm.Cond.and given_1 narrow_1).before args s = true) (hA : ∀ a : Nat, a < s.heap.size → ¬ A a) : EX A s s.heap := by
  have hs := flat_of_before _ hn
  obtain ⟨o0, o1, o2, -⟩ := st_oth hts
  refine ⟨vx_Zqof o0 o2 (hs (Cond.isRef (.static "java/lang/Throwable" "UNASSIGNED_STACK" "[Ljava/lang/StackTraceElement;")) (by decide +kernel)) hA, vx_Zqof o1 o2 (hs (Cond.isRef (.static "java/lang/Throwable" "SUPPRESSED_SENTINEL" "Ljava/util/List;")) (by decide +kernel)) hA, fun X hX => va_Nw.of rfl (hts _ (in_exl _ (List.mem_map.mpr ⟨X, hX, rfl⟩))), fun Y hY => va_Nw.of rfl (hts _ (in_dcl _ (List.mem_map.mpr ⟨Y, hY, rfl⟩))), ?_⟩
  intro q hq
  have h1 := hts _ (in_strl _ (List.mem_map.mpr ⟨q, hq, rfl⟩))
  obtain ⟨cC, iS, -, hc, -⟩ := st_cl hts _ (List.mem_of_getElem? (i := 10) rfl)
  obtain ⟨k, cf, i, a, -, -, -, -, -, hev⟩ := Cond.stringRef_spec hc h1
  exact ⟨a, vk_R.of h1 hev⟩
theorem st_arr {t : FieldType} (h : (Cond.arrayClass t).before args s = true) (ht : ∀ C, t ≠ .object C) : ∃ cA, ArrOfT s cA t ∧ va_RA s cA t := by
  obtain ⟨cA, kA, comp, h1, h2, h3⟩ := Cond.arrayClass_spec h
  refine ⟨cA, fun n z => ⟨fun k h => (by cases h), kA, h2, comp, h3⟩, ?_⟩
  cases t <;> first | exact h1 | exact absurd rfl (ht _)
theorem st_K (hts : ∀ w ∈ lw_tbl, w.before args s = true) : ∃ (D : va_G) (T : Nat → ClassId), va_K D vwCl (tys T) s := by
  obtain ⟨-, -, -, o3, o4, o5, o6⟩ := st_oth hts
  obtain ⟨t0, a0, b0⟩ := st_arr o4 (fun C h => by cases h)
  obtain ⟨t1, a1, b1⟩ := st_arr o5 (fun C h => by cases h)
  obtain ⟨t3, a3, b3⟩ := st_arr o6 (fun C h => by cases h)
  obtain ⟨comp, t2, kA, f1, f2, f3, f4, f5⟩ := Cond.arrayOver_spec o3
  have h : ∀ k : Nat, ∃ d : ClassId × (Nat → Nat), ∀ q : vw_C, vwCl[k]? = some q → u_Kn s q.1 q.2.1 q.2.2 d.1 d.2 := by
    intro k
    cases hk : vwCl[k]? with
    | none => exact ⟨(0, fun _ => 0), fun q hq => by cases hq⟩
    | some q =>
      obtain ⟨cC, iS, hh⟩ := st_cl hts q (List.mem_of_getElem? hk)
      exact ⟨(cC, iS), fun q' hq' => by cases hq'; exact hh⟩
  refine ⟨(fun k => (Classical.choose (h k)).1, fun k => (Classical.choose (h k)).2), fun k => if k = 0 then t0 else if k = 1 then t1 else if k = 2 then t2 else t3, fun k q hq => Classical.choose_spec (h k) q hq, ?_⟩
  intro k q hq
  match k, hq with
  | 0, hq => cases hq; exact ⟨a0, b0⟩
  | 1, hq => cases hq; exact ⟨a1, b1⟩
  | 2, hq => cases hq; exact ⟨fun n z => ⟨fun k h => (by cases h), kA, f3, comp, f4⟩, kA, comp, f3, f4, f1, f5⟩
  | 3, hq => cases hq; exact ⟨a3, b3⟩
  | k + 4, hq => simp [tys] at hq
end STARTS
section STARTROWS
variable {p : Program} {l : Launch} {e : Env} {R : Room} {s : State} {m : MethodId} {args : Array Value} {below : List Frame} {meth : Method} {c : Code} {H : Heap} {locs : List Loc} {cells slots : Nat} {Q : State → Prop} {cc : ByteArray} {pc nL b : Nat} {ls : Array Slot} {rest : List Value} {D : va_G} {T : Nat → ClassId} {A : Nat → Prop} {ws : va_W} {H0 : Heap}
theorem i_pre10 {U : State} {av : List Value} (hK : va_K D vwCl (tys T) s) (hN : NN s) (hO : va_AO RX6 s) (hA : ∀ q, s.heap.size ≤ q → A q) (hW : Wd D A s.heap ws H locs) (hU : U.heap = H) (hw : s.WarmedH U.vm) : Pi10 D T A ws av av.toArray U := by
  obtain ⟨a1, a2, a3, a4, a5, a6⟩ := i_pre (av := av) hK hN hA hW hU hw
  exact ⟨a1, a2, a3, a4, a5, a6, va_AO.moved hw.alike hO⟩
theorem n_init10 {S : Type} {post : S → Prop} {f : S → va_W} {y : MethodName} {bytes : ByteArray} {own : String} {maxL index d1 mc ms : Nat} (hx : p.tables.exec = Jvm.exec) (hb : c.code = cc) (hml : c.maxLocals = nL) (hown : s.vm.findClass own = some m.cls) (hts : ∀ w ∈ wsL_law, w.before args s = true) (hK : va_K D vwCl (tys T) s) (hN : NN s) (hO : va_AO RX6 s) (hA : ∀ q, s.heap.size ≤ q → A q) (hW : Wd D A s.heap ws H locs)
    (hM : Met l y (Cond.code y bytes maxL none :: wsL_law) (rmi d1 mc ms) (Pi10 D T A ws [.ref b]) (Qi D A post f) mc ms A) (h1 : Cond.methodLink own index y ∈ wsL_law) (h2 : Cond.instanceMethod y ∈ wsL_law) (h4 : Cond.initialized y.cls ∈ wsL_law) (h5 : Cond.code y bytes maxL none ∈ wsL_law) (hin : y.name = "<init>") (hd : y.cls ≠ "java/lang/invoke/MethodHandle" ∧ y.cls ≠ "java/lang/invoke/VarHandle" ∧ (parseMethodDescriptor y.desc).map (fun d => d.parameters.length) = some 0) (hR : d1 + 1 ≤ R.frames ∧ 8 + (maxL + 11) + 40 * d1 ≤ R.locals) (hsz : ls.size = nL) (h8 : (rest.map fun v => v.category).sum ≤ 8) (d : decode cc pc = .ok (.invokespecial index, 3)) (hf : cells + mc ≤ R.cells ∧ slots + ms ≤ R.slots)
    (kk : ∀ (u : S) (H1 : Heap) (locs1 : List Loc), post u → Wd D A s.heap (f u) H1 locs1 → W p l e R s m args below meth c H1 locs1 (cells + mc) (slots + ms) Q (F0 m (pc + 3) ls rest)) : W p l e R s m args below meth c H locs cells slots Q (F0 m pc ls (.ref b :: rest)) := by
  refine va_callv (va_runI (As := []) (rest := rest) ⟨hx, hb, hml, hown, hts⟩ hM ⟨callB_of 0 hts (gwGood (by
    intro w hw
    rcases List.mem_cons.mp hw with rfl | h
    · exact h5
    · exact h)) rfl rfl rfl (hts _ h4) (hts _ h1) hd hR, hin, hts _ h2⟩ ⟨Pi10_bl, fun U hU hw => i_pre10 hK hN hO hA hW hU hw⟩ rfl rfl hsz rfl (lv_room h8) d hf) hW.2.2 (fun q _ h => h) (fun q h => h) (fun u t H1 locs1 ht hvm hw hB hz1 hk1 hS => ?_)
  exact kk u H1 locs1 hw ⟨by rw [← ht]; exact hB.1, hB.2, hS⟩
end STARTROWS
