/-! The law reads its script. -/
def cellF (L : Nat) (xs : Nat → Int32) (k : Int32) : Int32 := if Int32.ofNat L ≤ k then (((2654435761 : Int64) * (k + 179).toInt64).toUInt64 >>> ((3 : Int32).toInt64.toUInt64 &&& Int64.toUInt64 63)).toInt64.toInt32 else xs k.toNatClampNeg
def Pcell (D : va_G) (A : Nat → Prop) (ws : va_W) (b L : Nat) (xs : Nat → Int32) (av : List Value) : Array Value → State → Prop := va_Pc av (fun U => va_P D vwCl ws U.heap ∧ va_D A ws ∧ va_X b L xs U U.heap ∧ b < U.heap.size)
theorem Pcell_bl {D : va_G} {A : Nat → Prop} {ws : va_W} {b L : Nat} {xs : Nat → Int32} {av : List Value} : FrameBlind (Pcell D A ws b L xs av) := fun a U g mk q => by
  obtain ⟨q0, qP, qD, qX, qb⟩ := q
  exact ⟨q0, qP, qD, va_X.moved (u := U) (U := U.calling g mk a) (Vm.Alike.refl U.vm) qX, qb⟩
set_option maxHeartbeats 16000000 in
set_option maxRecDepth 100000 in
theorem c_L_cell (l : Launch) (D : va_G) (A : Nat → Prop) (Z : va_W) (b L : Nat) (xs : Nat → Int32) (k : Nat) (hbA : ¬ A b) (hk : k < 83) (hL : L ≤ 260) : Met l yL_cell (Cond.code yL_cell cL_cell 2 (some .int) :: wsL_law) (rmL 0 0) (Pcell D A Z b L xs [.ref b, .int (iN k)]) (Qgi D A Z (cellF L xs (iN k))) 0 0 A := by
  refine Met.ofW (cc := cL_cell) (maxL := 2) (ret := (some .int)) (by decide +kernel) rfl ?_
  intro p e s m args below meth c s₁ B hml hv
  obtain ⟨ha, hP, hD, hX, hbl⟩ := hv
  have hx := B.exec
  have hb := B.bytes
  have hr := B.returns
  have hlk := B.notSynchronized
  have hts : ∀ w ∈ wsL_law, w.before args s = true := fun w hw => atoms_spec B.pre w (List.mem_cons_of_mem _ hw)
  have hown : s.vm.findClass RL = some m.cls := findClass_of_methodNamed B.named
  have hW : Wd D A s.heap (Z) s.heap [] := ⟨hP, hD, va_S.rf⟩
  have hl := lv_entry [.ref b, .int (iN k)] (n := 2) (Nat.le_of_ble_eq_true rfl)
  refine W.eq (en_eq ha) ?_
  generalize (lg_sl [.ref b, .int (iN k)] ++ List.replicate (2 - (lg_sl [.ref b, .int (iN k)]).length) Slot.unset).toArray = ls at hl ⊢
  have hl : lv_has ls 2 [(0, .ref b), (1, .int (iN k))] := hl
  clear hP hD B ha
  obtain ⟨Q, hQ⟩ : ∃ Q, Q = MQ below (Qgi D A (Z) (cellF L xs (iN k))) args s 0 0 A := ⟨_, rfl⟩
  rw [← hQ]
  change W p l e (rmL 0 0) s m args below meth c s.heap [] 0 0 Q (F0 m 0 ls [])
  refine lv_iload_n hx hb dL_cell_0 rfl (lv_at hl 1 rfl) ?_
  refine lv_aload_n hx hb dL_cell_1 rfl (lv_at hl 0 rfl) ?_
  refine va_slen hx hb hX hbl hbA hW.2.2 dL_cell_2 ?_
  refine lv_icmp_ge (tgt := 12) hx hb dL_cell_3 (by decide) (fun c1 => ?_) (fun c1 => ?_)
  · refine lv_ldc2 (v := (2654435761 : Int64)) hx hb hown (hts _ wm7_7) dL_cell_12 ?_
    refine lv_iload_n hx hb dL_cell_15 rfl (lv_at hl 1 rfl) ?_
    refine lv_sipush (v := 179) hx hb dL_cell_16 (by decide) ?_
    refine lv_iadd hx hb dL_cell_19 ?_
    refine lv_i2l (v := (iN k + 179).toInt64) hx hb dL_cell_20 rfl ?_
    refine lv_lmul hx hb dL_cell_21 ?_
    refine lv_iconst (v := 3) hx hb dL_cell_22 (by decide) ?_
    refine lv_lushr (v := (((2654435761 : Int64) * (iN k + 179).toInt64).toUInt64 >>> ((3 : Int32).toInt64.toUInt64 &&& Int64.toUInt64 63)).toInt64) hx hb dL_cell_23 rfl ?_
    refine lv_l2i (v := (((2654435761 : Int64) * (iN k + 179).toInt64).toUInt64 >>> ((3 : Int32).toInt64.toUInt64 &&& Int64.toUInt64 63)).toInt64.toInt32) hx hb dL_cell_24 rfl ?_
    have e : cellF L xs (iN k) = (((2654435761 : Int64) * (iN k + 179).toInt64).toUInt64 >>> ((3 : Int32).toInt64.toUInt64 &&& Int64.toUInt64 63)).toInt64.toInt32 := if_pos c1
    rw [hQ, e]
    exact g_reti hx hb hr hlk hW dL_cell_25
  · have hin : vp_in (iN k) L := by
      refine (vp_in_nI ?_ (by omega) : vp_in (nI k) L)
      have : ¬ (iN L ≤ iN k) := c1
      rw [iN_le (by omega) (by omega)] at this
      omega
    refine lv_aload_n hx hb dL_cell_6 rfl (lv_at hl 0 rfl) ?_
    refine lv_iload_n hx hb dL_cell_7 rfl (lv_at hl 1 rfl) ?_
    refine va_sld hx hb hX hbl hbA hW.2.2 hin dL_cell_8 ?_
    refine lv_goto (tgt := 25) hx hb dL_cell_9 (by decide) ?_
    have e : cellF L xs (iN k) = xs (iN k).toNatClampNeg := if_neg c1
    rw [hQ, e]
    exact g_reti hx hb hr hlk hW dL_cell_25
theorem l_cell {p : Program} {l : Launch} {e : Env} {R : Room} {s : State} {m : MethodId} {args : Array Value} {below : List Frame} {meth : Method} {c : Code} {H : Heap} {locs : List Loc} {cells slots : Nat} {Q : State → Prop} {cc : ByteArray} {pc nL : Nat} {ls : Array Slot} {rest st : List Value} {D : va_G} {A : Nat → Prop} {ws : va_W} {b L : Nat} {xs : Nat → Int32} {k : Nat} (hx : p.tables.exec = Jvm.exec) (hb : c.code = cc) (hml : c.maxLocals = nL) (hown : s.vm.findClass RL = some m.cls) (hts : ∀ w ∈ wsL_law, w.before args s = true) (hW : Wd D A s.heap ws H locs) (hX : va_X b L xs s s.heap) (hbl : b < s.heap.size) (hbA : ¬ A b) (hk : k < 83) (hL : L ≤ 260) (hR : 1 ≤ R.frames ∧ 21 ≤ R.locals) (hsz : ls.size = nL) (hst : st = .int (iN k) :: .ref b :: rest) (h8 : (rest.map fun v => v.category).sum ≤ 8) (d : decode cc pc = .ok (.invokestatic 236, 3)) (hf : cells ≤ R.cells ∧ slots ≤ R.slots)
    (kk : ∀ (H1 : Heap) (locs1 : List Loc), Wd D A s.heap ws H1 locs1 → W p l e R s m args below meth c H1 locs1 cells slots Q (F0 m (pc + 3) ls (.int (cellF L xs (iN k)) :: rest))) : W p l e R s m args below meth c H locs cells slots Q (F0 m pc ls st) := by
  subst hst
  refine va_calli (va_runS (As := [.ref b, .int (iN k)]) (rest := rest) ⟨hx, hb, hml, hown, hts⟩ (c_L_cell l D A ws b L xs k hbA hk hL) (g_cs (n := 2) hts wm7_3 wm7_4 wm7_5 wm7_6 ⟨by decide +kernel, by decide +kernel, by decide +kernel⟩ hrmL hR) ⟨Pcell_bl, fun U hU hw => ⟨rfl, by rw [hU]; exact hW.1, hW.2.1, by rw [hU]; exact va_X.kept (va_X.moved hw.alike hX) (hW.2.2.2.1 b hbl hbA), by rw [hU]; exact Nat.lt_of_lt_of_le hbl hW.2.2.1⟩⟩ rfl rfl hsz rfl (lv_room h8) d hf) hW.2.2 (fun q _ h => h) (fun q h => h) (fun r2 u t H1 locs1 ht hvm hw hB hz1 hk1 hS => ?_)
  subst hw
  exact kk H1 locs1 ⟨by rw [← ht]; exact hB.1, hB.2, hS⟩
