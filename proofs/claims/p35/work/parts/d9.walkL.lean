set_option maxHeartbeats 16000000 in
set_option maxRecDepth 100000 in
theorem c_L_lexicon (l : Launch) (hfl : l.stackTraces = false) (D : va_G) (T : Nat → ClassId) (A : Nat → Prop) (ad : Nat → Nat → Nat) (hok : okad ad) (a_c : Nat) (a_w : Nat) (a_u : Nat) (Z : va_W) (x_K : Nat → Ob) (x_c : Nat → Int32) (x_w : Nat → Int32) (x_u : Nat → Int32) (p2 : Int32) (p3 : Int32) (r : Int32) (x_K9 : Nat → Ob) (x_c9 : Nat → Int32) (x_w9 : Nat → Int32) (x_u9 : Nat → Int32) (h : f_L_lexicon x_K x_c x_w x_u p2 p3 = some (r, x_K9, x_c9, x_w9, x_u9)) : Met l yL_lexicon (Cond.code yL_lexicon cL_lexicon 14 (some .boolean) :: wsL_law) (rmL 9 1) (Pl D T A (oA T 12 a_c x_c ++ (oA T 24 a_w x_w ++ (oA T 2 a_u x_u ++ (oc_X10 T (ad 0) (bb ad) (x_K 0) ++ (wkL T ad x_K L18 ++ Z))))) [.ref (ad 0 0), .int p2, .int p3, .ref a_c, .ref a_w, .ref a_u]) (Qgi D A (oA T 12 a_c x_c9 ++ (oA T 24 a_w x_w9 ++ (oA T 2 a_u x_u9 ++ (oc_X10 T (ad 0) (bb ad) (x_K9 0) ++ (wkL T ad x_K9 L18 ++ Z))))) r) 1 16 A := by
  refine Met.ofW (cc := cL_lexicon) (maxL := 14) (ret := (some .boolean)) (by decide +kernel) rfl ?_
  intro p e s m args below meth c s₁ B hml hv
  obtain ⟨ha, hP, hK, hD, hN, hE, hC, hA⟩ := hv
  have hx := B.exec
  have hb := B.bytes
  have hr := B.returns
  have hlk := B.notSynchronized
  have hts : ∀ w ∈ wsL_law, w.before args s = true := fun w hw => atoms_spec B.pre w (List.mem_cons_of_mem _ hw)
  have hown : s.vm.findClass RL = some m.cls := findClass_of_methodNamed B.named
  have hW : Wd D A s.heap (oA T 12 a_c x_c ++ (oA T 24 a_w x_w ++ (oA T 2 a_u x_u ++ (oc_X10 T (ad 0) (bb ad) (x_K 0) ++ (wkL T ad x_K L18 ++ Z))))) s.heap [] := ⟨hP, hD, va_S.rf⟩
  have hl := lv_entry [.ref (ad 0 0), .int p2, .int p3, .ref a_c, .ref a_w, .ref a_u] (n := 14) (Nat.le_of_ble_eq_true rfl)
  refine W.eq (en_eq ha) ?_
  generalize (lg_sl [.ref (ad 0 0), .int p2, .int p3, .ref a_c, .ref a_w, .ref a_u] ++ List.replicate (14 - (lg_sl [.ref (ad 0 0), .int p2, .int p3, .ref a_c, .ref a_w, .ref a_u]).length) Slot.unset).toArray = ls at hl ⊢
  have hl : lv_has ls 14 [(0, .ref (ad 0 0)), (1, .int p2), (2, .int p3), (3, .ref a_c), (4, .ref a_w), (5, .ref a_u)] := hl
  clear hP hD B ha
  obtain ⟨Q, hQ⟩ : ∃ Q, Q = MQ below (Qgi D A (oA T 12 a_c x_c9 ++ (oA T 24 a_w x_w9 ++ (oA T 2 a_u x_u9 ++ (oc_X10 T (ad 0) (bb ad) (x_K9 0) ++ (wkL T ad x_K9 L18 ++ Z))))) r) args s 1 16 A := ⟨_, rfl⟩
  rw [← hQ]
  change W p l e (rmL 9 1) s m args below meth c s.heap [] 0 (16 * 0) Q (F0 m 0 ls [])
  rw [f_L_lexicon] at h
  suffices hm : ∀ (H : Heap) (locs : List Loc), Wd D A s.heap (oA T 12 a_c x_c ++ (oA T 24 a_w x_w ++ (oA T 2 a_u x_u ++ (oc_X10 T (ad 0) (bb ad) (x_K 0) ++ (wkL T ad x_K L18 ++ Z))))) H locs → W p l e (rmL 9 1) s m args below meth c H locs 0 (16 * 0) Q (F0 m 0 ls []) from hm _ _ hW
  clear hW
  intro H locs hW
  have J473 : ∀ (x_K_473 : Nat → Ob) (x_c_473 : Nat → Int32) (x_w_473 : Nat → Int32) (x_u_473 : Nat → Int32) (x_N_473 : Nat) (v8_473 : Int32) (v9_473 : Int32) (v10_473 : Int32) (v11_473 : Int32) (v12_473 : Int32) (v13_473 : Int32) (hN_473 : x_N_473 ≤ 1) (H : Heap) (locs : List Loc) (ls : Array Slot), Wd D A s.heap (oA T 12 a_c x_c_473 ++ (oA T 24 a_w x_w_473 ++ (oA T 2 a_u x_u_473 ++ (oc_X10 T (ad 0) (bb ad) (x_K_473 0) ++ (wkL T ad x_K_473 L18 ++ Z))))) H locs → lv_has ls 14 [(0, .ref (ad 0 0)), (8, .int v8_473), (9, .int v9_473), (10, .int v10_473), (11, .int v11_473), (12, .int v12_473), (13, .int v13_473)] → f_L_lexicon_J473 x_K_473 x_c_473 x_w_473 x_u_473 x_N_473 v8_473 v9_473 v10_473 v11_473 v12_473 v13_473 = some (r, x_K9, x_c9, x_w9, x_u9) → W p l e (rmL 9 1) s m args below meth c H locs x_N_473 (16 * x_N_473) Q (F0 m 473 ls []) := by
    intro x_K_473 x_c_473 x_w_473 x_u_473 x_N_473 v8_473 v9_473 v10_473 v11_473 v12_473 v13_473 hN_473 H locs ls hW hl h
    rw [f_L_lexicon_J473] at h
    refine lv_aload_n hx hb dL_lexicon_473 rfl (lv_at hl 0 rfl) ?_
    refine lv_iload hx hb dL_lexicon_474 (lv_at hl 5 rfl) ?_
    refine lv_iload hx hb dL_lexicon_476 (lv_at hl 1 rfl) ?_
    refine lv_iload hx hb dL_lexicon_478 (lv_at hl 2 rfl) ?_
    refine lv_iload hx hb dL_lexicon_480 (lv_at hl 3 rfl) ?_
    refine lv_iload hx hb dL_lexicon_482 (lv_at hl 4 rfl) ?_
    replace hW := hW.perm pf4
    replace hW := hW.perm pf4
    obtain ⟨r28, x_K29, q30, h⟩ := bnd2_s h
    obtain ⟨gN31, h⟩ := grd_s h
    have gN31 := of_decide_eq_true gN31
    refine cs_L_182 hx hb hml hown hts hK hN hE hC hA hW (c_L_guesses l hfl D T A ad hok (oA T 12 a_c x_c_473 ++ (oA T 24 a_w x_w_473 ++ (oA T 2 a_u x_u_473 ++ Z))) x_K_473 v12_473 v8_473 v9_473 v10_473 v11_473 r28 x_K29 q30) ⟨Nat.le_of_ble_eq_true rfl, Nat.le_of_ble_eq_true rfl⟩ hl.1 rfl (Nat.le_of_ble_eq_true rfl) dL_lexicon_484 (hfB gN31) rfl (fun H locs hW => ?_)
    replace hW := hW.perm pf1
    replace hW := hW.perm pf1
    replace hW := hW.perm pf4
    replace hW := hW.perm pf4
    replace hW := hW.perm pf4
    refine lv_iload hx hb dL_lexicon_487 (lv_at hl 6 rfl) ?_
    refine lv_if_eq (tgt := 496) hx hb dL_lexicon_489 (by decide) (fun c32 => ?_) (fun c32 => ?_)
    · replace h := ite_t c32 h
      refine lv_sipush (v := (-1002)) hx hb dL_lexicon_496 (by decide) ?_
      refine lv_icmp_ne (tgt := 506) hx hb dL_lexicon_499 (by decide) (fun c33 => ?_) (fun c33 => ?_)
      · replace h := ite_f c33 h
        refine lv_iconst (v := 0) hx hb dL_lexicon_506 (by decide) ?_
        obtain ⟨rfl, rfl, rfl, rfl, rfl⟩ := ret5 h
        rw [hQ]
        refine W.widen (k := 1) (n := 16) gN31 (Nat.mul_le_mul_left 16 gN31) ?_
        exact g_retz hx hb hr hlk hW (by decide) dL_lexicon_507
      · replace h := ite_t c33 h
        refine lv_iconst (v := 1) hx hb dL_lexicon_502 (by decide) ?_
        refine lv_goto (tgt := 507) hx hb dL_lexicon_503 (by decide) ?_
        obtain ⟨rfl, rfl, rfl, rfl, rfl⟩ := ret5 h
        rw [hQ]
        refine W.widen (k := 1) (n := 16) gN31 (Nat.mul_le_mul_left 16 gN31) ?_
        exact g_retz hx hb hr hlk hW (by decide) dL_lexicon_507
    · replace h := ite_f c32 h
      refine lv_iconst (v := 1) hx hb dL_lexicon_492 (by decide) ?_
      refine lv_goto (tgt := 499) hx hb dL_lexicon_493 (by decide) ?_
      refine lv_icmp_ne (tgt := 506) hx hb dL_lexicon_499 (by decide) (fun c34 => ?_) (fun c34 => ?_)
      · replace h := ite_f c34 h
        refine lv_iconst (v := 0) hx hb dL_lexicon_506 (by decide) ?_
        obtain ⟨rfl, rfl, rfl, rfl, rfl⟩ := ret5 h
        rw [hQ]
        refine W.widen (k := 1) (n := 16) gN31 (Nat.mul_le_mul_left 16 gN31) ?_
        exact g_retz hx hb hr hlk hW (by decide) dL_lexicon_507
      · replace h := ite_t c34 h
        refine lv_iconst (v := 1) hx hb dL_lexicon_502 (by decide) ?_
        refine lv_goto (tgt := 507) hx hb dL_lexicon_503 (by decide) ?_
        obtain ⟨rfl, rfl, rfl, rfl, rfl⟩ := ret5 h
        rw [hQ]
        refine W.widen (k := 1) (n := 16) gN31 (Nat.mul_le_mul_left 16 gN31) ?_
        exact g_retz hx hb hr hlk hW (by decide) dL_lexicon_507
  have J435 : ∀ (x_K_435 : Nat → Ob) (x_c_435 : Nat → Int32) (x_w_435 : Nat → Int32) (x_u_435 : Nat → Int32) (x_N_435 : Nat) (v8_435 : Int32) (v9_435 : Int32) (v10_435 : Int32) (v11_435 : Int32) (v12_435 : Int32) (v13_435 : Int32) (hN_435 : x_N_435 ≤ 1) (H : Heap) (locs : List Loc) (ls : Array Slot), Wd D A s.heap (oA T 12 a_c x_c_435 ++ (oA T 24 a_w x_w_435 ++ (oA T 2 a_u x_u_435 ++ (oc_X10 T (ad 0) (bb ad) (x_K_435 0) ++ (wkL T ad x_K_435 L18 ++ Z))))) H locs → lv_has ls 14 [(0, .ref (ad 0 0)), (3, .ref a_c), (5, .ref a_u), (8, .int v8_435), (9, .int v9_435), (10, .int v10_435), (11, .int v11_435), (12, .int v12_435), (13, .int v13_435)] → f_L_lexicon_J435 x_K_435 x_c_435 x_w_435 x_u_435 x_N_435 v8_435 v9_435 v10_435 v11_435 v12_435 v13_435 = some (r, x_K9, x_c9, x_w9, x_u9) → W p l e (rmL 9 1) s m args below meth c H locs x_N_435 (16 * x_N_435) Q (F0 m 435 ls []) := by
    intro x_K_435 x_c_435 x_w_435 x_u_435 x_N_435 v8_435 v9_435 v10_435 v11_435 v12_435 v13_435 hN_435 H locs ls hW hl h
    rw [f_L_lexicon_J435] at h
    refine lv_iload hx hb dL_lexicon_435 (lv_at hl 8 rfl) ?_
    refine lv_if_eq (tgt := 473) hx hb dL_lexicon_437 (by decide) (fun c27 => ?_) (fun c27 => ?_)
    · replace h := ite_t c27 h
      exact J473 _ _ _ _ _ _ _ _ _ _ _ hN_435 H locs ls hW (lv_sub hl [0, 3, 4, 5, 6, 7, 8] rfl) h
    · replace h := ite_f c27 h
      refine lv_aload hx hb dL_lexicon_440 (lv_at hl 2 rfl) ?_
      refine lv_iload hx hb dL_lexicon_442 (lv_at hl 7 rfl) ?_
      refine lv_sipush (v := 1000) hx hb dL_lexicon_444 (by decide) ?_
      refine lv_iload hx hb dL_lexicon_447 (lv_at hl 3 rfl) ?_
      refine lv_imul hx hb dL_lexicon_449 ?_
      refine lv_bipush (v := 100) hx hb dL_lexicon_450 (by decide) ?_
      refine lv_iload hx hb dL_lexicon_452 (lv_at hl 4 rfl) ?_
      refine lv_imul hx hb dL_lexicon_454 ?_
      refine lv_iadd hx hb dL_lexicon_455 ?_
      refine lv_bipush (v := 10) hx hb dL_lexicon_456 (by decide) ?_
      refine lv_iload hx hb dL_lexicon_458 (lv_at hl 5 rfl) ?_
      refine lv_imul hx hb dL_lexicon_460 ?_
      refine lv_iadd hx hb dL_lexicon_461 ?_
      refine lv_iload hx hb dL_lexicon_462 (lv_at hl 6 rfl) ?_
      refine lv_iadd hx hb dL_lexicon_464 ?_
      obtain ⟨g35, h⟩ := grd_s h
      refine g_iast (ws9 := oA T 12 a_c x_c_435 ++ (oA T 24 a_w x_w_435 ++ (oA T 2 a_u (upd x_u_435 v12_435.toNatClampNeg ((((1000 * v8_435) + (100 * v9_435)) + (10 * v10_435)) + v11_435)) ++ (oc_X10 T (ad 0) (bb ad) (x_K_435 0) ++ (wkL T ad x_K_435 L18 ++ Z))))) hx hb hK hW 2 rfl g35 rfl dL_lexicon_465 (fun H locs hW => ?_)
      obtain ⟨x_u36, ex_u36⟩ : ∃ y : Nat → Int32, y = upd x_u_435 v12_435.toNatClampNeg ((((1000 * v8_435) + (100 * v9_435)) + (10 * v10_435)) + v11_435) := ⟨_, rfl⟩
      rw [← ex_u36] at hW
      replace h := lb_at ex_u36 h
      refine lv_aload_n hx hb dL_lexicon_466 rfl (lv_at hl 1 rfl) ?_
      refine lv_iconst (v := 4) hx hb dL_lexicon_467 (by decide) ?_
      refine lv_dup2_11 hx hb dL_lexicon_468 rfl rfl ?_
      refine g_iald hx hb hK hW 0 rfl (by decide) dL_lexicon_469 ?_
      refine lv_iconst (v := 1) hx hb dL_lexicon_470 (by decide) ?_
      refine lv_iadd hx hb dL_lexicon_471 ?_
      refine g_iast (ws9 := oA T 12 a_c (upd x_c_435 (4 : Int32).toNatClampNeg ((x_c_435 (4 : Int32).toNatClampNeg) + 1)) ++ (oA T 24 a_w x_w_435 ++ (oA T 2 a_u x_u36 ++ (oc_X10 T (ad 0) (bb ad) (x_K_435 0) ++ (wkL T ad x_K_435 L18 ++ Z))))) hx hb hK hW 0 rfl (by decide) rfl dL_lexicon_472 (fun H locs hW => ?_)
      obtain ⟨x_c37, ex_c37⟩ : ∃ y : Nat → Int32, y = upd x_c_435 (4 : Int32).toNatClampNeg ((x_c_435 (4 : Int32).toNatClampNeg) + 1) := ⟨_, rfl⟩
      rw [← ex_c37] at hW
      replace h := lb_at ex_c37 h
      exact J473 _ _ _ _ _ _ _ _ _ _ _ hN_435 H locs ls hW (lv_sub hl [0, 3, 4, 5, 6, 7, 8] rfl) h
  have J418 : ∀ (x_K_418 : Nat → Ob) (x_c_418 : Nat → Int32) (x_w_418 : Nat → Int32) (x_u_418 : Nat → Int32) (x_N_418 : Nat) (v8_418 : Int32) (v9_418 : Int32) (v10_418 : Int32) (v11_418 : Int32) (v12_418 : Int32) (s0_418 : Int32) (hN_418 : x_N_418 ≤ 1) (H : Heap) (locs : List Loc) (ls : Array Slot), Wd D A s.heap (oA T 12 a_c x_c_418 ++ (oA T 24 a_w x_w_418 ++ (oA T 2 a_u x_u_418 ++ (oc_X10 T (ad 0) (bb ad) (x_K_418 0) ++ (wkL T ad x_K_418 L18 ++ Z))))) H locs → lv_has ls 14 [(0, .ref (ad 0 0)), (3, .ref a_c), (5, .ref a_u), (8, .int v8_418), (9, .int v9_418), (10, .int v10_418), (11, .int v11_418), (12, .int v12_418)] → f_L_lexicon_J418 x_K_418 x_c_418 x_w_418 x_u_418 x_N_418 v8_418 v9_418 v10_418 v11_418 v12_418 s0_418 = some (r, x_K9, x_c9, x_w9, x_u9) → W p l e (rmL 9 1) s m args below meth c H locs x_N_418 (16 * x_N_418) Q (F0 m 418 ls [.int s0_418]) := by
    intro x_K_418 x_c_418 x_w_418 x_u_418 x_N_418 v8_418 v9_418 v10_418 v11_418 v12_418 s0_418 hN_418 H locs ls hW hl h
    rw [f_L_lexicon_J418] at h
    refine lv_istore (lv' := [(13, .int s0_418), (0, .ref (ad 0 0)), (3, .ref a_c), (5, .ref a_u), (8, .int v8_418), (9, .int v9_418), (10, .int v10_418), (11, .int v11_418), (12, .int v12_418)]) hx hb dL_lexicon_418 hl (by decide) rfl (fun ls hl => ?_)
    refine lv_iload hx hb dL_lexicon_420 (lv_at hl 0 rfl) ?_
    refine lv_if_eq (tgt := 435) hx hb dL_lexicon_422 (by decide) (fun c26 => ?_) (fun c26 => ?_)
    · replace h := ite_t c26 h
      exact J435 _ _ _ _ _ _ _ _ _ _ _ hN_418 H locs ls hW (lv_sub hl [1, 2, 3, 4, 5, 6, 7, 8, 0] rfl) h
    · replace h := ite_f c26 h
      refine lv_aload hx hb dL_lexicon_425 (lv_at hl 3 rfl) ?_
      refine lv_iload hx hb dL_lexicon_427 (lv_at hl 8 rfl) ?_
      obtain ⟨g38, h⟩ := grd_s h
      refine g_iald hx hb hK hW 2 rfl g38 dL_lexicon_429 ?_
      refine lv_if_lt (tgt := 435) hx hb dL_lexicon_430 (by decide) (fun c39 => ?_) (fun c39 => ?_)
      · replace h := ite_t c39 h
        exact J435 _ _ _ _ _ _ _ _ _ _ _ hN_418 H locs ls hW (lv_sub hl [1, 2, 3, 4, 5, 6, 7, 8, 0] rfl) h
      · replace h := ite_f c39 h
        refine lv_iconst (v := 1) hx hb dL_lexicon_433 (by decide) ?_
        obtain ⟨rfl, rfl, rfl, rfl, rfl⟩ := ret5 h
        rw [hQ]
        refine W.widen (k := 1) (n := 16) hN_418 (Nat.mul_le_mul_left 16 hN_418) ?_
        exact g_retz hx hb hr hlk hW (by decide) dL_lexicon_434
  have J417 : ∀ (x_K_417 : Nat → Ob) (x_c_417 : Nat → Int32) (x_w_417 : Nat → Int32) (x_u_417 : Nat → Int32) (x_N_417 : Nat) (v8_417 : Int32) (v9_417 : Int32) (v10_417 : Int32) (v11_417 : Int32) (v12_417 : Int32) (hN_417 : x_N_417 ≤ 1) (H : Heap) (locs : List Loc) (ls : Array Slot), Wd D A s.heap (oA T 12 a_c x_c_417 ++ (oA T 24 a_w x_w_417 ++ (oA T 2 a_u x_u_417 ++ (oc_X10 T (ad 0) (bb ad) (x_K_417 0) ++ (wkL T ad x_K_417 L18 ++ Z))))) H locs → lv_has ls 14 [(0, .ref (ad 0 0)), (3, .ref a_c), (5, .ref a_u), (8, .int v8_417), (9, .int v9_417), (10, .int v10_417), (11, .int v11_417), (12, .int v12_417)] → f_L_lexicon_J417 x_K_417 x_c_417 x_w_417 x_u_417 x_N_417 v8_417 v9_417 v10_417 v11_417 v12_417 = some (r, x_K9, x_c9, x_w9, x_u9) → W p l e (rmL 9 1) s m args below meth c H locs x_N_417 (16 * x_N_417) Q (F0 m 417 ls []) := by
    intro x_K_417 x_c_417 x_w_417 x_u_417 x_N_417 v8_417 v9_417 v10_417 v11_417 v12_417 hN_417 H locs ls hW hl h
    rw [f_L_lexicon_J417] at h
    refine lv_iconst (v := 0) hx hb dL_lexicon_417 (by decide) ?_
    exact J418 _ _ _ _ _ _ _ _ _ _ _ hN_417 H locs ls hW (lv_sub hl [0, 1, 2, 3, 4, 5, 6, 7] rfl) h
  have J337 : ∀ (x_K_337 : Nat → Ob) (x_c_337 : Nat → Int32) (x_w_337 : Nat → Int32) (x_u_337 : Nat → Int32) (x_N_337 : Nat) (v6_337 : Int32) (v7_337 : Int32) (v8_337 : Int32) (v9_337 : Int32) (v10_337 : Int32) (v11_337 : Int32) (v12_337 : Int32) (hN_337 : x_N_337 ≤ 1) (H : Heap) (locs : List Loc) (ls : Array Slot), Wd D A s.heap (oA T 12 a_c x_c_337 ++ (oA T 24 a_w x_w_337 ++ (oA T 2 a_u x_u_337 ++ (oc_X10 T (ad 0) (bb ad) (x_K_337 0) ++ (wkL T ad x_K_337 L18 ++ Z))))) H locs → lv_has ls 14 [(0, .ref (ad 0 0)), (4, .ref a_w), (6, .int v6_337), (7, .int v7_337), (8, .int v8_337), (9, .int v9_337), (10, .int v10_337), (11, .int v11_337), (12, .int v12_337)] → f_L_lexicon_J337 x_K_337 x_c_337 x_w_337 x_u_337 x_N_337 v6_337 v7_337 v8_337 v9_337 v10_337 v11_337 v12_337 = some (r, x_K9, x_c9, x_w9, x_u9) → W p l e (rmL 9 1) s m args below meth c H locs x_N_337 (16 * x_N_337) Q (F0 m 337 ls []) := by
    intro x_K_337 x_c_337 x_w_337 x_u_337 x_N_337 v6_337 v7_337 v8_337 v9_337 v10_337 v11_337 v12_337 hN_337 H locs ls hW hl h
    rw [f_L_lexicon_J337] at h
    refine lv_aload_n hx hb dL_lexicon_337 rfl (lv_at hl 0 rfl) ?_
    refine lv_iload hx hb dL_lexicon_338 (lv_at hl 2 rfl) ?_
    refine lv_bipush (v := 7) hx hb dL_lexicon_340 (by decide) ?_
    refine lv_iload hx hb dL_lexicon_342 (lv_at hl 4 rfl) ?_
    refine lv_iload hx hb dL_lexicon_344 (lv_at hl 5 rfl) ?_
    refine lv_iload hx hb dL_lexicon_346 (lv_at hl 6 rfl) ?_
    refine lv_iload hx hb dL_lexicon_348 (lv_at hl 7 rfl) ?_
    replace hW := hW.perm pf4
    replace hW := hW.perm pf4
    obtain ⟨r44, x_K45, q46, h⟩ := bnd2_s h
    obtain ⟨gN47, h⟩ := grd_s h
    have gN47 := of_decide_eq_true gN47
    refine cs_L_178 hx hb hml hown hts hK hN hE hC hA hW (c_L_tells l hfl D T A ad hok (oA T 12 a_c x_c_337 ++ (oA T 24 a_w x_w_337 ++ (oA T 2 a_u x_u_337 ++ Z))) x_K_337 v6_337 7 v8_337 v9_337 v10_337 v11_337 r44 x_K45 q46) ⟨Nat.le_of_ble_eq_true rfl, Nat.le_of_ble_eq_true rfl⟩ hl.1 rfl (Nat.le_of_ble_eq_true rfl) dL_lexicon_350 (hfB gN47) rfl (fun H locs hW => ?_)
    replace hW := hW.perm pf1
    replace hW := hW.perm pf1
    replace hW := hW.perm pf4
    replace hW := hW.perm pf4
    replace hW := hW.perm pf4
    refine lv_iload hx hb dL_lexicon_353 (lv_at hl 3 rfl) ?_
    refine lv_if_ne (tgt := 364) hx hb dL_lexicon_355 (by decide) (fun c48 => ?_) (fun c48 => ?_)
    · replace h := ite_f c48 h
      refine lv_iload hx hb dL_lexicon_364 (lv_at hl 8 rfl) ?_
      refine lv_if_eq (tgt := 381) hx hb dL_lexicon_366 (by decide) (fun c49 => ?_) (fun c49 => ?_)
      · replace h := ite_t c49 h
        refine lv_sipush (v := (-1002)) hx hb dL_lexicon_381 (by decide) ?_
        refine lv_icmp_ne (tgt := 391) hx hb dL_lexicon_384 (by decide) (fun c50 => ?_) (fun c50 => ?_)
        · replace h := ite_f c50 h
          refine lv_iconst (v := 0) hx hb dL_lexicon_391 (by decide) ?_
          obtain ⟨rfl, rfl, rfl, rfl, rfl⟩ := ret5 h
          rw [hQ]
          refine W.widen (k := 1) (n := 16) gN47 (Nat.mul_le_mul_left 16 gN47) ?_
          exact g_retz hx hb hr hlk hW (by decide) dL_lexicon_392
        · replace h := ite_t c50 h
          refine lv_iconst (v := 1) hx hb dL_lexicon_387 (by decide) ?_
          refine lv_goto (tgt := 392) hx hb dL_lexicon_388 (by decide) ?_
          obtain ⟨rfl, rfl, rfl, rfl, rfl⟩ := ret5 h
          rw [hQ]
          refine W.widen (k := 1) (n := 16) gN47 (Nat.mul_le_mul_left 16 gN47) ?_
          exact g_retz hx hb hr hlk hW (by decide) dL_lexicon_392
      · replace h := ite_f c49 h
        refine lv_aload hx hb dL_lexicon_369 (lv_at hl 1 rfl) ?_
        refine lv_iconst (v := 4) hx hb dL_lexicon_371 (by decide) ?_
        refine lv_iload hx hb dL_lexicon_372 (lv_at hl 2 rfl) ?_
        refine lv_imul hx hb dL_lexicon_374 ?_
        refine lv_iconst (v := 1) hx hb dL_lexicon_375 (by decide) ?_
        refine lv_iadd hx hb dL_lexicon_376 ?_
        obtain ⟨g51, h⟩ := grd_s h
        refine g_iald hx hb hK hW 1 rfl g51 dL_lexicon_377 ?_
        refine lv_goto (tgt := 384) hx hb dL_lexicon_378 (by decide) ?_
        refine lv_icmp_ne (tgt := 391) hx hb dL_lexicon_384 (by decide) (fun c52 => ?_) (fun c52 => ?_)
        · replace h := ite_f c52 h
          refine lv_iconst (v := 0) hx hb dL_lexicon_391 (by decide) ?_
          obtain ⟨rfl, rfl, rfl, rfl, rfl⟩ := ret5 h
          rw [hQ]
          refine W.widen (k := 1) (n := 16) gN47 (Nat.mul_le_mul_left 16 gN47) ?_
          exact g_retz hx hb hr hlk hW (by decide) dL_lexicon_392
        · replace h := ite_t c52 h
          refine lv_iconst (v := 1) hx hb dL_lexicon_387 (by decide) ?_
          refine lv_goto (tgt := 392) hx hb dL_lexicon_388 (by decide) ?_
          obtain ⟨rfl, rfl, rfl, rfl, rfl⟩ := ret5 h
          rw [hQ]
          refine W.widen (k := 1) (n := 16) gN47 (Nat.mul_le_mul_left 16 gN47) ?_
          exact g_retz hx hb hr hlk hW (by decide) dL_lexicon_392
    · replace h := ite_t c48 h
      refine lv_sipush (v := (-1001)) hx hb dL_lexicon_358 (by decide) ?_
      refine lv_goto (tgt := 384) hx hb dL_lexicon_361 (by decide) ?_
      refine lv_icmp_ne (tgt := 391) hx hb dL_lexicon_384 (by decide) (fun c53 => ?_) (fun c53 => ?_)
      · replace h := ite_f c53 h
        refine lv_iconst (v := 0) hx hb dL_lexicon_391 (by decide) ?_
        obtain ⟨rfl, rfl, rfl, rfl, rfl⟩ := ret5 h
        rw [hQ]
        refine W.widen (k := 1) (n := 16) gN47 (Nat.mul_le_mul_left 16 gN47) ?_
        exact g_retz hx hb hr hlk hW (by decide) dL_lexicon_392
      · replace h := ite_t c53 h
        refine lv_iconst (v := 1) hx hb dL_lexicon_387 (by decide) ?_
        refine lv_goto (tgt := 392) hx hb dL_lexicon_388 (by decide) ?_
        obtain ⟨rfl, rfl, rfl, rfl, rfl⟩ := ret5 h
        rw [hQ]
        refine W.widen (k := 1) (n := 16) gN47 (Nat.mul_le_mul_left 16 gN47) ?_
        exact g_retz hx hb hr hlk hW (by decide) dL_lexicon_392
  have J267 : ∀ (x_K_267 : Nat → Ob) (x_c_267 : Nat → Int32) (x_w_267 : Nat → Int32) (x_u_267 : Nat → Int32) (x_N_267 : Nat) (v6_267 : Int32) (v7_267 : Int32) (v8_267 : Int32) (v9_267 : Int32) (v10_267 : Int32) (v11_267 : Int32) (v12_267 : Int32) (hN_267 : x_N_267 ≤ 1) (H : Heap) (locs : List Loc) (ls : Array Slot), Wd D A s.heap (oA T 12 a_c x_c_267 ++ (oA T 24 a_w x_w_267 ++ (oA T 2 a_u x_u_267 ++ (oc_X10 T (ad 0) (bb ad) (x_K_267 0) ++ (wkL T ad x_K_267 L18 ++ Z))))) H locs → lv_has ls 14 [(0, .ref (ad 0 0)), (3, .ref a_c), (4, .ref a_w), (6, .int v6_267), (7, .int v7_267), (8, .int v8_267), (9, .int v9_267), (10, .int v10_267), (11, .int v11_267), (12, .int v12_267)] → f_L_lexicon_J267 x_K_267 x_c_267 x_w_267 x_u_267 x_N_267 v6_267 v7_267 v8_267 v9_267 v10_267 v11_267 v12_267 = some (r, x_K9, x_c9, x_w9, x_u9) → W p l e (rmL 9 1) s m args below meth c H locs x_N_267 (16 * x_N_267) Q (F0 m 267 ls []) := by
    intro x_K_267 x_c_267 x_w_267 x_u_267 x_N_267 v6_267 v7_267 v8_267 v9_267 v10_267 v11_267 v12_267 hN_267 H locs ls hW hl h
    rw [f_L_lexicon_J267] at h
    refine lv_iload hx hb dL_lexicon_267 (lv_at hl 4 rfl) ?_
    refine lv_if_eq (tgt := 337) hx hb dL_lexicon_269 (by decide) (fun c43 => ?_) (fun c43 => ?_)
    · replace h := ite_t c43 h
      exact J337 _ _ _ _ _ _ _ _ _ _ _ _ hN_267 H locs ls hW (lv_sub hl [0, 2, 3, 4, 5, 6, 7, 8, 9] rfl) h
    · replace h := ite_f c43 h
      refine lv_iload hx hb dL_lexicon_272 (lv_at hl 9 rfl) ?_
      refine lv_if_eq (tgt := 337) hx hb dL_lexicon_274 (by decide) (fun c54 => ?_) (fun c54 => ?_)
      · replace h := ite_t c54 h
        exact J337 _ _ _ _ _ _ _ _ _ _ _ _ hN_267 H locs ls hW (lv_sub hl [0, 2, 3, 4, 5, 6, 7, 8, 9] rfl) h
      · replace h := ite_f c54 h
        refine lv_aload hx hb dL_lexicon_277 (lv_at hl 2 rfl) ?_
        refine lv_iconst (v := 4) hx hb dL_lexicon_279 (by decide) ?_
        refine lv_iload hx hb dL_lexicon_280 (lv_at hl 3 rfl) ?_
        refine lv_imul hx hb dL_lexicon_282 ?_
        refine lv_iconst (v := 2) hx hb dL_lexicon_283 (by decide) ?_
        refine lv_iadd hx hb dL_lexicon_284 ?_
        refine lv_aload hx hb dL_lexicon_285 (lv_at hl 2 rfl) ?_
        refine lv_iconst (v := 4) hx hb dL_lexicon_287 (by decide) ?_
        refine lv_iload hx hb dL_lexicon_288 (lv_at hl 3 rfl) ?_
        refine lv_imul hx hb dL_lexicon_290 ?_
        refine lv_iconst (v := 1) hx hb dL_lexicon_291 (by decide) ?_
        refine lv_iadd hx hb dL_lexicon_292 ?_
        obtain ⟨g55, h⟩ := grd_s h
        refine g_iald hx hb hK hW 1 rfl g55 dL_lexicon_293 ?_
        refine lv_iadd hx hb dL_lexicon_294 ?_
        refine lv_sipush (v := 1000) hx hb dL_lexicon_295 (by decide) ?_
        refine lv_iload hx hb dL_lexicon_298 (lv_at hl 5 rfl) ?_
        refine lv_imul hx hb dL_lexicon_300 ?_
        refine lv_bipush (v := 100) hx hb dL_lexicon_301 (by decide) ?_
        refine lv_iload hx hb dL_lexicon_303 (lv_at hl 6 rfl) ?_
        refine lv_imul hx hb dL_lexicon_305 ?_
        refine lv_iadd hx hb dL_lexicon_306 ?_
        refine lv_bipush (v := 10) hx hb dL_lexicon_307 (by decide) ?_
        refine lv_iload hx hb dL_lexicon_309 (lv_at hl 7 rfl) ?_
        refine lv_imul hx hb dL_lexicon_311 ?_
        refine lv_iadd hx hb dL_lexicon_312 ?_
        refine lv_iload hx hb dL_lexicon_313 (lv_at hl 8 rfl) ?_
        refine lv_iadd hx hb dL_lexicon_315 ?_
        obtain ⟨g56, h⟩ := grd_s h
        refine g_iast (ws9 := oA T 12 a_c x_c_267 ++ (oA T 24 a_w (upd x_w_267 (((4 * v6_267) + 2) + (x_w_267 ((4 * v6_267) + 1).toNatClampNeg)).toNatClampNeg ((((1000 * v8_267) + (100 * v9_267)) + (10 * v10_267)) + v11_267)) ++ (oA T 2 a_u x_u_267 ++ (oc_X10 T (ad 0) (bb ad) (x_K_267 0) ++ (wkL T ad x_K_267 L18 ++ Z))))) hx hb hK hW 1 rfl g56 rfl dL_lexicon_316 (fun H locs hW => ?_)
        obtain ⟨x_w57, ex_w57⟩ : ∃ y : Nat → Int32, y = upd x_w_267 (((4 * v6_267) + 2) + (x_w_267 ((4 * v6_267) + 1).toNatClampNeg)).toNatClampNeg ((((1000 * v8_267) + (100 * v9_267)) + (10 * v10_267)) + v11_267) := ⟨_, rfl⟩
        rw [← ex_w57] at hW
        replace h := lb_at ex_w57 h
        refine lv_aload hx hb dL_lexicon_317 (lv_at hl 2 rfl) ?_
        refine lv_iconst (v := 4) hx hb dL_lexicon_319 (by decide) ?_
        refine lv_iload hx hb dL_lexicon_320 (lv_at hl 3 rfl) ?_
        refine lv_imul hx hb dL_lexicon_322 ?_
        refine lv_iconst (v := 1) hx hb dL_lexicon_323 (by decide) ?_
        refine lv_iadd hx hb dL_lexicon_324 ?_
        refine lv_dup2_11 hx hb dL_lexicon_325 rfl rfl ?_
        obtain ⟨g58, h⟩ := grd_s h
        refine g_iald hx hb hK hW 1 rfl g58 dL_lexicon_326 ?_
        refine lv_iconst (v := 1) hx hb dL_lexicon_327 (by decide) ?_
        refine lv_iadd hx hb dL_lexicon_328 ?_
        obtain ⟨g59, h⟩ := grd_s h
        refine g_iast (ws9 := oA T 12 a_c x_c_267 ++ (oA T 24 a_w (upd x_w57 ((4 * v6_267) + 1).toNatClampNeg ((x_w57 ((4 * v6_267) + 1).toNatClampNeg) + 1)) ++ (oA T 2 a_u x_u_267 ++ (oc_X10 T (ad 0) (bb ad) (x_K_267 0) ++ (wkL T ad x_K_267 L18 ++ Z))))) hx hb hK hW 1 rfl g59 rfl dL_lexicon_329 (fun H locs hW => ?_)
        obtain ⟨x_w60, ex_w60⟩ : ∃ y : Nat → Int32, y = upd x_w57 ((4 * v6_267) + 1).toNatClampNeg ((x_w57 ((4 * v6_267) + 1).toNatClampNeg) + 1) := ⟨_, rfl⟩
        rw [← ex_w60] at hW
        replace h := lb_at ex_w60 h
        refine lv_aload_n hx hb dL_lexicon_330 rfl (lv_at hl 1 rfl) ?_
        refine lv_iconst (v := 4) hx hb dL_lexicon_331 (by decide) ?_
        refine lv_dup2_11 hx hb dL_lexicon_332 rfl rfl ?_
        refine g_iald hx hb hK hW 0 rfl (by decide) dL_lexicon_333 ?_
        refine lv_iconst (v := 1) hx hb dL_lexicon_334 (by decide) ?_
        refine lv_iadd hx hb dL_lexicon_335 ?_
        refine g_iast (ws9 := oA T 12 a_c (upd x_c_267 (4 : Int32).toNatClampNeg ((x_c_267 (4 : Int32).toNatClampNeg) + 1)) ++ (oA T 24 a_w x_w60 ++ (oA T 2 a_u x_u_267 ++ (oc_X10 T (ad 0) (bb ad) (x_K_267 0) ++ (wkL T ad x_K_267 L18 ++ Z))))) hx hb hK hW 0 rfl (by decide) rfl dL_lexicon_336 (fun H locs hW => ?_)
        obtain ⟨x_c61, ex_c61⟩ : ∃ y : Nat → Int32, y = upd x_c_267 (4 : Int32).toNatClampNeg ((x_c_267 (4 : Int32).toNatClampNeg) + 1) := ⟨_, rfl⟩
        rw [← ex_c61] at hW
        replace h := lb_at ex_c61 h
        exact J337 _ _ _ _ _ _ _ _ _ _ _ _ hN_267 H locs ls hW (lv_sub hl [0, 2, 3, 4, 5, 6, 7, 8, 9] rfl) h
  have J240 : ∀ (x_K_240 : Nat → Ob) (x_c_240 : Nat → Int32) (x_w_240 : Nat → Int32) (x_u_240 : Nat → Int32) (x_N_240 : Nat) (v6_240 : Int32) (v7_240 : Int32) (v8_240 : Int32) (v9_240 : Int32) (v10_240 : Int32) (v11_240 : Int32) (s0_240 : Int32) (hN_240 : x_N_240 ≤ 1) (H : Heap) (locs : List Loc) (ls : Array Slot), Wd D A s.heap (oA T 12 a_c x_c_240 ++ (oA T 24 a_w x_w_240 ++ (oA T 2 a_u x_u_240 ++ (oc_X10 T (ad 0) (bb ad) (x_K_240 0) ++ (wkL T ad x_K_240 L18 ++ Z))))) H locs → lv_has ls 14 [(0, .ref (ad 0 0)), (3, .ref a_c), (4, .ref a_w), (6, .int v6_240), (7, .int v7_240), (8, .int v8_240), (9, .int v9_240), (10, .int v10_240), (11, .int v11_240)] → f_L_lexicon_J240 x_K_240 x_c_240 x_w_240 x_u_240 x_N_240 v6_240 v7_240 v8_240 v9_240 v10_240 v11_240 s0_240 = some (r, x_K9, x_c9, x_w9, x_u9) → W p l e (rmL 9 1) s m args below meth c H locs x_N_240 (16 * x_N_240) Q (F0 m 240 ls [.int s0_240]) := by
    intro x_K_240 x_c_240 x_w_240 x_u_240 x_N_240 v6_240 v7_240 v8_240 v9_240 v10_240 v11_240 s0_240 hN_240 H locs ls hW hl h
    rw [f_L_lexicon_J240] at h
    refine lv_istore (lv' := [(12, .int s0_240), (0, .ref (ad 0 0)), (3, .ref a_c), (4, .ref a_w), (6, .int v6_240), (7, .int v7_240), (8, .int v8_240), (9, .int v9_240), (10, .int v10_240), (11, .int v11_240)]) hx hb dL_lexicon_240 hl (by decide) rfl (fun ls hl => ?_)
    refine lv_iload hx hb dL_lexicon_242 (lv_at hl 5 rfl) ?_
    refine lv_if_eq (tgt := 267) hx hb dL_lexicon_244 (by decide) (fun c42 => ?_) (fun c42 => ?_)
    · replace h := ite_t c42 h
      exact J267 _ _ _ _ _ _ _ _ _ _ _ _ hN_240 H locs ls hW (lv_sub hl [1, 2, 3, 4, 5, 6, 7, 8, 9, 0] rfl) h
    · replace h := ite_f c42 h
      refine lv_iload hx hb dL_lexicon_247 (lv_at hl 0 rfl) ?_
      refine lv_if_eq (tgt := 267) hx hb dL_lexicon_249 (by decide) (fun c62 => ?_) (fun c62 => ?_)
      · replace h := ite_t c62 h
        exact J267 _ _ _ _ _ _ _ _ _ _ _ _ hN_240 H locs ls hW (lv_sub hl [1, 2, 3, 4, 5, 6, 7, 8, 9, 0] rfl) h
      · replace h := ite_f c62 h
        refine lv_aload hx hb dL_lexicon_252 (lv_at hl 3 rfl) ?_
        refine lv_iconst (v := 4) hx hb dL_lexicon_254 (by decide) ?_
        refine lv_iload hx hb dL_lexicon_255 (lv_at hl 4 rfl) ?_
        refine lv_imul hx hb dL_lexicon_257 ?_
        refine lv_iconst (v := 1) hx hb dL_lexicon_258 (by decide) ?_
        refine lv_iadd hx hb dL_lexicon_259 ?_
        obtain ⟨g63, h⟩ := grd_s h
        refine g_iald hx hb hK hW 1 rfl g63 dL_lexicon_260 ?_
        refine lv_iconst (v := 2) hx hb dL_lexicon_261 (by decide) ?_
        refine lv_icmp_ne (tgt := 267) hx hb dL_lexicon_262 (by decide) (fun c64 => ?_) (fun c64 => ?_)
        · replace h := ite_f c64 h
          exact J267 _ _ _ _ _ _ _ _ _ _ _ _ hN_240 H locs ls hW (lv_sub hl [1, 2, 3, 4, 5, 6, 7, 8, 9, 0] rfl) h
        · replace h := ite_t c64 h
          refine lv_iconst (v := 1) hx hb dL_lexicon_265 (by decide) ?_
          obtain ⟨rfl, rfl, rfl, rfl, rfl⟩ := ret5 h
          rw [hQ]
          refine W.widen (k := 1) (n := 16) hN_240 (Nat.mul_le_mul_left 16 hN_240) ?_
          exact g_retz hx hb hr hlk hW (by decide) dL_lexicon_266
  have J239 : ∀ (x_K_239 : Nat → Ob) (x_c_239 : Nat → Int32) (x_w_239 : Nat → Int32) (x_u_239 : Nat → Int32) (x_N_239 : Nat) (v6_239 : Int32) (v7_239 : Int32) (v8_239 : Int32) (v9_239 : Int32) (v10_239 : Int32) (v11_239 : Int32) (hN_239 : x_N_239 ≤ 1) (H : Heap) (locs : List Loc) (ls : Array Slot), Wd D A s.heap (oA T 12 a_c x_c_239 ++ (oA T 24 a_w x_w_239 ++ (oA T 2 a_u x_u_239 ++ (oc_X10 T (ad 0) (bb ad) (x_K_239 0) ++ (wkL T ad x_K_239 L18 ++ Z))))) H locs → lv_has ls 14 [(0, .ref (ad 0 0)), (3, .ref a_c), (4, .ref a_w), (6, .int v6_239), (7, .int v7_239), (8, .int v8_239), (9, .int v9_239), (10, .int v10_239), (11, .int v11_239)] → f_L_lexicon_J239 x_K_239 x_c_239 x_w_239 x_u_239 x_N_239 v6_239 v7_239 v8_239 v9_239 v10_239 v11_239 = some (r, x_K9, x_c9, x_w9, x_u9) → W p l e (rmL 9 1) s m args below meth c H locs x_N_239 (16 * x_N_239) Q (F0 m 239 ls []) := by
    intro x_K_239 x_c_239 x_w_239 x_u_239 x_N_239 v6_239 v7_239 v8_239 v9_239 v10_239 v11_239 hN_239 H locs ls hW hl h
    rw [f_L_lexicon_J239] at h
    refine lv_iconst (v := 0) hx hb dL_lexicon_239 (by decide) ?_
    exact J240 _ _ _ _ _ _ _ _ _ _ _ _ hN_239 H locs ls hW (lv_sub hl [0, 1, 2, 3, 4, 5, 6, 7, 8] rfl) h
  have J184 : ∀ (x_K_184 : Nat → Ob) (x_c_184 : Nat → Int32) (x_w_184 : Nat → Int32) (x_u_184 : Nat → Int32) (x_N_184 : Nat) (v12_184 : Int32) (hN_184 : x_N_184 ≤ 1) (H : Heap) (locs : List Loc) (ls : Array Slot), Wd D A s.heap (oA T 12 a_c x_c_184 ++ (oA T 24 a_w x_w_184 ++ (oA T 2 a_u x_u_184 ++ (oc_X10 T (ad 0) (bb ad) (x_K_184 0) ++ (wkL T ad x_K_184 L18 ++ Z))))) H locs → lv_has ls 14 [(0, .ref (ad 0 0)), (3, .ref a_c), (12, .int v12_184)] → f_L_lexicon_J184 x_K_184 x_c_184 x_w_184 x_u_184 x_N_184 v12_184 = some (r, x_K9, x_c9, x_w9, x_u9) → W p l e (rmL 9 1) s m args below meth c H locs x_N_184 (16 * x_N_184) Q (F0 m 184 ls []) := by
    intro x_K_184 x_c_184 x_w_184 x_u_184 x_N_184 v12_184 hN_184 H locs ls hW hl h
    rw [f_L_lexicon_J184] at h
    refine lv_aload_n hx hb dL_lexicon_184 rfl (lv_at hl 0 rfl) ?_
    refine lv_iload hx hb dL_lexicon_185 (lv_at hl 2 rfl) ?_
    replace hW := hW.perm pf4
    replace hW := hW.perm pf4
    obtain ⟨r73, x_K74, q75, h⟩ := bnd2_s h
    obtain ⟨gN76, h⟩ := grd_s h
    have gN76 := of_decide_eq_true gN76
    refine cs_L_174 hx hb hml hown hts hK hN hE hC hA hW (c_L_adds l hfl D T A ad hok (oA T 12 a_c x_c_184 ++ (oA T 24 a_w x_w_184 ++ (oA T 2 a_u x_u_184 ++ Z))) x_K_184 v12_184 r73 x_K74 q75) ⟨Nat.le_of_ble_eq_true rfl, Nat.le_of_ble_eq_true rfl⟩ hl.1 rfl (Nat.le_of_ble_eq_true rfl) dL_lexicon_187 (hfB gN76) rfl (fun H locs hW => ?_)
    replace hW := hW.perm pf1
    replace hW := hW.perm pf1
    replace hW := hW.perm pf4
    replace hW := hW.perm pf4
    replace hW := hW.perm pf4
    refine lv_iload hx hb dL_lexicon_190 (lv_at hl 2 rfl) ?_
    refine lv_bipush (v := 10) hx hb dL_lexicon_192 (by decide) ?_
    refine lv_icmp_ge (tgt := 205) hx hb dL_lexicon_194 (by decide) (fun c77 => ?_) (fun c77 => ?_)
    · replace h := ite_t c77 h
      refine lv_sipush (v := (-1002)) hx hb dL_lexicon_205 (by decide) ?_
      refine lv_icmp_ne (tgt := 215) hx hb dL_lexicon_208 (by decide) (fun c78 => ?_) (fun c78 => ?_)
      · replace h := ite_f c78 h
        refine lv_iconst (v := 0) hx hb dL_lexicon_215 (by decide) ?_
        obtain ⟨rfl, rfl, rfl, rfl, rfl⟩ := ret5 h
        rw [hQ]
        refine W.widen (k := 1) (n := 16) gN76 (Nat.mul_le_mul_left 16 gN76) ?_
        exact g_retz hx hb hr hlk hW (by decide) dL_lexicon_216
      · replace h := ite_t c78 h
        refine lv_iconst (v := 1) hx hb dL_lexicon_211 (by decide) ?_
        refine lv_goto (tgt := 216) hx hb dL_lexicon_212 (by decide) ?_
        obtain ⟨rfl, rfl, rfl, rfl, rfl⟩ := ret5 h
        rw [hQ]
        refine W.widen (k := 1) (n := 16) gN76 (Nat.mul_le_mul_left 16 gN76) ?_
        exact g_retz hx hb hr hlk hW (by decide) dL_lexicon_216
    · replace h := ite_f c77 h
      refine lv_aload_n hx hb dL_lexicon_197 rfl (lv_at hl 1 rfl) ?_
      refine lv_iconst (v := 0) hx hb dL_lexicon_198 (by decide) ?_
      refine g_iald hx hb hK hW 0 rfl (by decide) dL_lexicon_199 ?_
      refine lv_iconst (v := 1) hx hb dL_lexicon_200 (by decide) ?_
      refine lv_isub hx hb dL_lexicon_201 ?_
      refine lv_goto (tgt := 208) hx hb dL_lexicon_202 (by decide) ?_
      refine lv_icmp_ne (tgt := 215) hx hb dL_lexicon_208 (by decide) (fun c79 => ?_) (fun c79 => ?_)
      · replace h := ite_f c79 h
        refine lv_iconst (v := 0) hx hb dL_lexicon_215 (by decide) ?_
        obtain ⟨rfl, rfl, rfl, rfl, rfl⟩ := ret5 h
        rw [hQ]
        refine W.widen (k := 1) (n := 16) gN76 (Nat.mul_le_mul_left 16 gN76) ?_
        exact g_retz hx hb hr hlk hW (by decide) dL_lexicon_216
      · replace h := ite_t c79 h
        refine lv_iconst (v := 1) hx hb dL_lexicon_211 (by decide) ?_
        refine lv_goto (tgt := 216) hx hb dL_lexicon_212 (by decide) ?_
        obtain ⟨rfl, rfl, rfl, rfl, rfl⟩ := ret5 h
        rw [hQ]
        refine W.widen (k := 1) (n := 16) gN76 (Nat.mul_le_mul_left 16 gN76) ?_
        exact g_retz hx hb hr hlk hW (by decide) dL_lexicon_216
  have J160 : ∀ (x_K_160 : Nat → Ob) (x_c_160 : Nat → Int32) (x_w_160 : Nat → Int32) (x_u_160 : Nat → Int32) (x_N_160 : Nat) (v12_160 : Int32) (hN_160 : x_N_160 ≤ 1) (H : Heap) (locs : List Loc) (ls : Array Slot), Wd D A s.heap (oA T 12 a_c x_c_160 ++ (oA T 24 a_w x_w_160 ++ (oA T 2 a_u x_u_160 ++ (oc_X10 T (ad 0) (bb ad) (x_K_160 0) ++ (wkL T ad x_K_160 L18 ++ Z))))) H locs → lv_has ls 14 [(0, .ref (ad 0 0)), (3, .ref a_c), (4, .ref a_w), (12, .int v12_160)] → f_L_lexicon_J160 x_K_160 x_c_160 x_w_160 x_u_160 x_N_160 v12_160 = some (r, x_K9, x_c9, x_w9, x_u9) → W p l e (rmL 9 1) s m args below meth c H locs x_N_160 (16 * x_N_160) Q (F0 m 160 ls []) := by
    intro x_K_160 x_c_160 x_w_160 x_u_160 x_N_160 v12_160 hN_160 H locs ls hW hl h
    rw [f_L_lexicon_J160] at h
    refine lv_iload hx hb dL_lexicon_160 (lv_at hl 3 rfl) ?_
    refine lv_bipush (v := 10) hx hb dL_lexicon_162 (by decide) ?_
    refine lv_icmp_ge (tgt := 184) hx hb dL_lexicon_164 (by decide) (fun c72 => ?_) (fun c72 => ?_)
    · replace h := ite_t c72 h
      exact J184 _ _ _ _ _ _ hN_160 H locs ls hW (lv_sub hl [0, 1, 3] rfl) h
    · replace h := ite_f c72 h
      refine lv_aload hx hb dL_lexicon_167 (lv_at hl 2 rfl) ?_
      refine lv_iconst (v := 4) hx hb dL_lexicon_169 (by decide) ?_
      refine lv_aload_n hx hb dL_lexicon_170 rfl (lv_at hl 1 rfl) ?_
      refine lv_iconst (v := 0) hx hb dL_lexicon_171 (by decide) ?_
      refine g_iald hx hb hK hW 0 rfl (by decide) dL_lexicon_172 ?_
      refine lv_imul hx hb dL_lexicon_173 ?_
      refine lv_iload hx hb dL_lexicon_174 (lv_at hl 3 rfl) ?_
      obtain ⟨g80, h⟩ := grd_s h
      refine g_iast (ws9 := oA T 12 a_c x_c_160 ++ (oA T 24 a_w (upd x_w_160 (4 * (x_c_160 (0 : Int32).toNatClampNeg)).toNatClampNeg v12_160) ++ (oA T 2 a_u x_u_160 ++ (oc_X10 T (ad 0) (bb ad) (x_K_160 0) ++ (wkL T ad x_K_160 L18 ++ Z))))) hx hb hK hW 1 rfl g80 rfl dL_lexicon_176 (fun H locs hW => ?_)
      obtain ⟨x_w81, ex_w81⟩ : ∃ y : Nat → Int32, y = upd x_w_160 (4 * (x_c_160 (0 : Int32).toNatClampNeg)).toNatClampNeg v12_160 := ⟨_, rfl⟩
      rw [← ex_w81] at hW
      replace h := lb_at ex_w81 h
      refine lv_aload_n hx hb dL_lexicon_177 rfl (lv_at hl 1 rfl) ?_
      refine lv_iconst (v := 0) hx hb dL_lexicon_178 (by decide) ?_
      refine lv_dup2_11 hx hb dL_lexicon_179 rfl rfl ?_
      refine g_iald hx hb hK hW 0 rfl (by decide) dL_lexicon_180 ?_
      refine lv_iconst (v := 1) hx hb dL_lexicon_181 (by decide) ?_
      refine lv_iadd hx hb dL_lexicon_182 ?_
      refine g_iast (ws9 := oA T 12 a_c (upd x_c_160 (0 : Int32).toNatClampNeg ((x_c_160 (0 : Int32).toNatClampNeg) + 1)) ++ (oA T 24 a_w x_w81 ++ (oA T 2 a_u x_u_160 ++ (oc_X10 T (ad 0) (bb ad) (x_K_160 0) ++ (wkL T ad x_K_160 L18 ++ Z))))) hx hb hK hW 0 rfl (by decide) rfl dL_lexicon_183 (fun H locs hW => ?_)
      obtain ⟨x_c82, ex_c82⟩ : ∃ y : Nat → Int32, y = upd x_c_160 (0 : Int32).toNatClampNeg ((x_c_160 (0 : Int32).toNatClampNeg) + 1) := ⟨_, rfl⟩
      rw [← ex_c82] at hW
      replace h := lb_at ex_c82 h
      exact J184 _ _ _ _ _ _ hN_160 H locs ls hW (lv_sub hl [0, 1, 3] rfl) h
  have J141 : ∀ (x_K_141 : Nat → Ob) (x_c_141 : Nat → Int32) (x_w_141 : Nat → Int32) (x_u_141 : Nat → Int32) (x_N_141 : Nat) (s0_141 : Int32) (hN_141 : x_N_141 ≤ 1) (H : Heap) (locs : List Loc) (ls : Array Slot), Wd D A s.heap (oA T 12 a_c x_c_141 ++ (oA T 24 a_w x_w_141 ++ (oA T 2 a_u x_u_141 ++ (oc_X10 T (ad 0) (bb ad) (x_K_141 0) ++ (wkL T ad x_K_141 L18 ++ Z))))) H locs → lv_has ls 14 [(0, .ref (ad 0 0)), (3, .ref a_c), (4, .ref a_w)] → f_L_lexicon_J141 x_K_141 x_c_141 x_w_141 x_u_141 x_N_141 s0_141 = some (r, x_K9, x_c9, x_w9, x_u9) → W p l e (rmL 9 1) s m args below meth c H locs x_N_141 (16 * x_N_141) Q (F0 m 141 ls [.int s0_141]) := by
    intro x_K_141 x_c_141 x_w_141 x_u_141 x_N_141 s0_141 hN_141 H locs ls hW hl h
    rw [f_L_lexicon_J141] at h
    refine lv_istore (lv' := [(12, .int s0_141), (0, .ref (ad 0 0)), (3, .ref a_c), (4, .ref a_w)]) hx hb dL_lexicon_141 hl (by decide) rfl (fun ls hl => ?_)
    refine lv_iload hx hb dL_lexicon_143 (lv_at hl 0 rfl) ?_
    refine lv_bipush (v := 10) hx hb dL_lexicon_145 (by decide) ?_
    refine lv_icmp_ge (tgt := 160) hx hb dL_lexicon_147 (by decide) (fun c71 => ?_) (fun c71 => ?_)
    · replace h := ite_t c71 h
      exact J160 _ _ _ _ _ _ hN_141 H locs ls hW (lv_sub hl [1, 2, 3, 0] rfl) h
    · replace h := ite_f c71 h
      refine lv_aload_n hx hb dL_lexicon_150 rfl (lv_at hl 2 rfl) ?_
      refine lv_iconst (v := 0) hx hb dL_lexicon_151 (by decide) ?_
      refine g_iald hx hb hK hW 0 rfl (by decide) dL_lexicon_152 ?_
      refine lv_bipush (v := 6) hx hb dL_lexicon_153 (by decide) ?_
      refine lv_icmp_ne (tgt := 160) hx hb dL_lexicon_155 (by decide) (fun c83 => ?_) (fun c83 => ?_)
      · replace h := ite_f c83 h
        exact J160 _ _ _ _ _ _ hN_141 H locs ls hW (lv_sub hl [1, 2, 3, 0] rfl) h
      · replace h := ite_t c83 h
        refine lv_iconst (v := 1) hx hb dL_lexicon_158 (by decide) ?_
        obtain ⟨rfl, rfl, rfl, rfl, rfl⟩ := ret5 h
        rw [hQ]
        refine W.widen (k := 1) (n := 16) hN_141 (Nat.mul_le_mul_left 16 hN_141) ?_
        exact g_retz hx hb hr hlk hW (by decide) dL_lexicon_159
  have J97 : ∀ (x_K_97 : Nat → Ob) (x_c_97 : Nat → Int32) (x_w_97 : Nat → Int32) (x_u_97 : Nat → Int32) (x_N_97 : Nat) (v1_97 : Int32) (v2_97 : Int32) (v6_97 : Int32) (v7_97 : Int32) (v8_97 : Int32) (s0_97 : Int32) (hN_97 : x_N_97 ≤ 1) (H : Heap) (locs : List Loc) (ls : Array Slot), Wd D A s.heap (oA T 12 a_c x_c_97 ++ (oA T 24 a_w x_w_97 ++ (oA T 2 a_u x_u_97 ++ (oc_X10 T (ad 0) (bb ad) (x_K_97 0) ++ (wkL T ad x_K_97 L18 ++ Z))))) H locs → lv_has ls 14 [(0, .ref (ad 0 0)), (1, .int v1_97), (2, .int v2_97), (3, .ref a_c), (4, .ref a_w), (5, .ref a_u), (6, .int v6_97), (7, .int v7_97), (8, .int v8_97)] → f_L_lexicon_J97 x_K_97 x_c_97 x_w_97 x_u_97 x_N_97 v1_97 v2_97 v6_97 v7_97 v8_97 s0_97 = some (r, x_K9, x_c9, x_w9, x_u9) → W p l e (rmL 9 1) s m args below meth c H locs x_N_97 (16 * x_N_97) Q (F0 m 97 ls [.int s0_97]) := by
    intro x_K_97 x_c_97 x_w_97 x_u_97 x_N_97 v1_97 v2_97 v6_97 v7_97 v8_97 s0_97 hN_97 H locs ls hW hl h
    rw [f_L_lexicon_J97] at h
    refine lv_istore (lv' := [(9, .int s0_97), (0, .ref (ad 0 0)), (1, .int v1_97), (2, .int v2_97), (3, .ref a_c), (4, .ref a_w), (5, .ref a_u), (6, .int v6_97), (7, .int v7_97), (8, .int v8_97)]) hx hb dL_lexicon_97 hl (by decide) rfl (fun ls hl => ?_)
    refine lv_iload_n hx hb dL_lexicon_99 rfl (lv_at hl 3 rfl) ?_
    refine lv_bipush (v := 8) hx hb dL_lexicon_100 (by decide) ?_
    refine lv_ishr hx hb dL_lexicon_102 ?_
    refine lv_iconst (v := 3) hx hb dL_lexicon_103 (by decide) ?_
    obtain ⟨r17, q18, h⟩ := bnd1_s h
    refine cs_L_171 hx hb hml hown hts hK hN hE hC hA hW (c_L_some l D T A (oA T 12 a_c x_c_97 ++ (oA T 24 a_w x_w_97 ++ (oA T 2 a_u x_u_97 ++ (oc_X10 T (ad 0) (bb ad) (x_K_97 0) ++ (wkL T ad x_K_97 L18 ++ Z))))) (v2_97 >>> ((8 : Int32) &&& 31)) 3 r17 q18) ⟨Nat.le_of_ble_eq_true rfl, Nat.le_of_ble_eq_true rfl⟩ hl.1 rfl (Nat.le_of_ble_eq_true rfl) dL_lexicon_104 (hf0 hN_97) rfl (fun H locs hW => ?_)
    refine lv_istore (lv' := [(10, .int r17), (9, .int s0_97), (0, .ref (ad 0 0)), (1, .int v1_97), (2, .int v2_97), (3, .ref a_c), (4, .ref a_w), (5, .ref a_u), (6, .int v6_97), (7, .int v7_97), (8, .int v8_97)]) hx hb dL_lexicon_107 hl (by decide) rfl (fun ls hl => ?_)
    refine lv_iload_n hx hb dL_lexicon_109 rfl (lv_at hl 4 rfl) ?_
    refine lv_iconst (v := 4) hx hb dL_lexicon_110 (by decide) ?_
    refine lv_ishr hx hb dL_lexicon_111 ?_
    refine lv_iconst (v := 3) hx hb dL_lexicon_112 (by decide) ?_
    obtain ⟨r19, q20, h⟩ := bnd1_s h
    refine cs_L_171 hx hb hml hown hts hK hN hE hC hA hW (c_L_some l D T A (oA T 12 a_c x_c_97 ++ (oA T 24 a_w x_w_97 ++ (oA T 2 a_u x_u_97 ++ (oc_X10 T (ad 0) (bb ad) (x_K_97 0) ++ (wkL T ad x_K_97 L18 ++ Z))))) (v2_97 >>> ((4 : Int32) &&& 31)) 3 r19 q20) ⟨Nat.le_of_ble_eq_true rfl, Nat.le_of_ble_eq_true rfl⟩ hl.1 rfl (Nat.le_of_ble_eq_true rfl) dL_lexicon_113 (hf0 hN_97) rfl (fun H locs hW => ?_)
    refine lv_istore (lv' := [(11, .int r19), (10, .int r17), (9, .int s0_97), (0, .ref (ad 0 0)), (1, .int v1_97), (2, .int v2_97), (3, .ref a_c), (4, .ref a_w), (5, .ref a_u), (6, .int v6_97), (7, .int v7_97), (8, .int v8_97)]) hx hb dL_lexicon_116 hl (by decide) rfl (fun ls hl => ?_)
    refine lv_iload_n hx hb dL_lexicon_118 rfl (lv_at hl 4 rfl) ?_
    refine lv_if_ne (tgt := 217) hx hb dL_lexicon_119 (by decide) (fun c21 => ?_) (fun c21 => ?_)
    · replace h := ite_f c21 h
      refine lv_iload_n hx hb dL_lexicon_217 rfl (lv_at hl 4 rfl) ?_
      refine lv_iconst (v := 1) hx hb dL_lexicon_218 (by decide) ?_
      refine lv_icmp_ne (tgt := 393) hx hb dL_lexicon_219 (by decide) (fun c22 => ?_) (fun c22 => ?_)
      · replace h := ite_f c22 h
        refine lv_iload_n hx hb dL_lexicon_393 rfl (lv_at hl 5 rfl) ?_
        refine lv_iconst (v := 2) hx hb dL_lexicon_394 (by decide) ?_
        obtain ⟨r23, q24, h⟩ := bnd1_s h
        refine cs_L_171 hx hb hml hown hts hK hN hE hC hA hW (c_L_some l D T A (oA T 12 a_c x_c_97 ++ (oA T 24 a_w x_w_97 ++ (oA T 2 a_u x_u_97 ++ (oc_X10 T (ad 0) (bb ad) (x_K_97 0) ++ (wkL T ad x_K_97 L18 ++ Z))))) v2_97 2 r23 q24) ⟨Nat.le_of_ble_eq_true rfl, Nat.le_of_ble_eq_true rfl⟩ hl.1 rfl (Nat.le_of_ble_eq_true rfl) dL_lexicon_395 (hf0 hN_97) rfl (fun H locs hW => ?_)
        refine lv_istore (lv' := [(12, .int r23), (11, .int r19), (10, .int r17), (9, .int s0_97), (0, .ref (ad 0 0)), (1, .int v1_97), (2, .int v2_97), (3, .ref a_c), (4, .ref a_w), (5, .ref a_u), (6, .int v6_97), (7, .int v7_97), (8, .int v8_97)]) hx hb dL_lexicon_398 hl (by decide) rfl (fun ls hl => ?_)
        refine lv_iload hx hb dL_lexicon_400 (lv_at hl 12 rfl) ?_
        refine lv_bipush (v := 10) hx hb dL_lexicon_402 (by decide) ?_
        refine lv_icmp_ge (tgt := 417) hx hb dL_lexicon_404 (by decide) (fun c25 => ?_) (fun c25 => ?_)
        · replace h := ite_t c25 h
          exact J417 _ _ _ _ _ _ _ _ _ _ hN_97 H locs ls hW (lv_sub hl [4, 7, 9, 12, 3, 2, 1, 0] rfl) h
        · replace h := ite_f c25 h
          refine lv_iload hx hb dL_lexicon_407 (lv_at hl 3 rfl) ?_
          refine lv_iconst (v := 4) hx hb dL_lexicon_409 (by decide) ?_
          refine lv_icmp_ge (tgt := 417) hx hb dL_lexicon_410 (by decide) (fun c40 => ?_) (fun c40 => ?_)
          · replace h := ite_t c40 h
            exact J417 _ _ _ _ _ _ _ _ _ _ hN_97 H locs ls hW (lv_sub hl [4, 7, 9, 12, 3, 2, 1, 0] rfl) h
          · replace h := ite_f c40 h
            refine lv_iconst (v := 1) hx hb dL_lexicon_413 (by decide) ?_
            refine lv_goto (tgt := 418) hx hb dL_lexicon_414 (by decide) ?_
            exact J418 _ _ _ _ _ _ _ _ _ _ _ hN_97 H locs ls hW (lv_sub hl [4, 7, 9, 12, 3, 2, 1, 0] rfl) h
      · replace h := ite_t c22 h
        refine lv_iload hx hb dL_lexicon_222 (lv_at hl 11 rfl) ?_
        refine lv_bipush (v := 10) hx hb dL_lexicon_224 (by decide) ?_
        refine lv_icmp_ge (tgt := 239) hx hb dL_lexicon_226 (by decide) (fun c41 => ?_) (fun c41 => ?_)
        · replace h := ite_t c41 h
          exact J239 _ _ _ _ _ _ _ _ _ _ _ hN_97 H locs ls hW (lv_sub hl [3, 6, 7, 9, 10, 11, 2, 1, 0] rfl) h
        · replace h := ite_f c41 h
          refine lv_iload hx hb dL_lexicon_229 (lv_at hl 2 rfl) ?_
          refine lv_iconst (v := 4) hx hb dL_lexicon_231 (by decide) ?_
          refine lv_icmp_ge (tgt := 239) hx hb dL_lexicon_232 (by decide) (fun c65 => ?_) (fun c65 => ?_)
          · replace h := ite_t c65 h
            exact J239 _ _ _ _ _ _ _ _ _ _ _ hN_97 H locs ls hW (lv_sub hl [3, 6, 7, 9, 10, 11, 2, 1, 0] rfl) h
          · replace h := ite_f c65 h
            refine lv_iconst (v := 1) hx hb dL_lexicon_235 (by decide) ?_
            refine lv_goto (tgt := 240) hx hb dL_lexicon_236 (by decide) ?_
            exact J240 _ _ _ _ _ _ _ _ _ _ _ _ hN_97 H locs ls hW (lv_sub hl [3, 6, 7, 9, 10, 11, 2, 1, 0] rfl) h
    · replace h := ite_t c21 h
      refine lv_iload_n hx hb dL_lexicon_122 rfl (lv_at hl 5 rfl) ?_
      refine lv_bipush (v := 30) hx hb dL_lexicon_123 (by decide) ?_
      obtain ⟨r66, q67, h⟩ := bnd1_s h
      refine cs_L_171 hx hb hml hown hts hK hN hE hC hA hW (c_L_some l D T A (oA T 12 a_c x_c_97 ++ (oA T 24 a_w x_w_97 ++ (oA T 2 a_u x_u_97 ++ (oc_X10 T (ad 0) (bb ad) (x_K_97 0) ++ (wkL T ad x_K_97 L18 ++ Z))))) v2_97 30 r66 q67) ⟨Nat.le_of_ble_eq_true rfl, Nat.le_of_ble_eq_true rfl⟩ hl.1 rfl (Nat.le_of_ble_eq_true rfl) dL_lexicon_125 (hf0 hN_97) rfl (fun H locs hW => ?_)
      refine lv_if_ne (tgt := 136) hx hb dL_lexicon_128 (by decide) (fun c68 => ?_) (fun c68 => ?_)
      · replace h := ite_f c68 h
        refine lv_iload_n hx hb dL_lexicon_136 rfl (lv_at hl 5 rfl) ?_
        refine lv_iconst (v := 2) hx hb dL_lexicon_137 (by decide) ?_
        obtain ⟨r69, q70, h⟩ := bnd1_s h
        refine cs_L_171 hx hb hml hown hts hK hN hE hC hA hW (c_L_some l D T A (oA T 12 a_c x_c_97 ++ (oA T 24 a_w x_w_97 ++ (oA T 2 a_u x_u_97 ++ (oc_X10 T (ad 0) (bb ad) (x_K_97 0) ++ (wkL T ad x_K_97 L18 ++ Z))))) v2_97 2 r69 q70) ⟨Nat.le_of_ble_eq_true rfl, Nat.le_of_ble_eq_true rfl⟩ hl.1 rfl (Nat.le_of_ble_eq_true rfl) dL_lexicon_138 (hf0 hN_97) rfl (fun H locs hW => ?_)
        exact J141 _ _ _ _ _ _ hN_97 H locs ls hW (lv_sub hl [3, 6, 7] rfl) h
      · replace h := ite_t c68 h
        refine lv_bipush (v := 10) hx hb dL_lexicon_131 (by decide) ?_
        refine lv_goto (tgt := 141) hx hb dL_lexicon_133 (by decide) ?_
        exact J141 _ _ _ _ _ _ hN_97 H locs ls hW (lv_sub hl [3, 6, 7] rfl) h
  have J71 : ∀ (x_K_71 : Nat → Ob) (x_c_71 : Nat → Int32) (x_w_71 : Nat → Int32) (x_u_71 : Nat → Int32) (x_N_71 : Nat) (v1_71 : Int32) (v2_71 : Int32) (v6_71 : Int32) (v7_71 : Int32) (s0_71 : Int32) (hN_71 : x_N_71 ≤ 1) (H : Heap) (locs : List Loc) (ls : Array Slot), Wd D A s.heap (oA T 12 a_c x_c_71 ++ (oA T 24 a_w x_w_71 ++ (oA T 2 a_u x_u_71 ++ (oc_X10 T (ad 0) (bb ad) (x_K_71 0) ++ (wkL T ad x_K_71 L18 ++ Z))))) H locs → lv_has ls 14 [(0, .ref (ad 0 0)), (1, .int v1_71), (2, .int v2_71), (3, .ref a_c), (4, .ref a_w), (5, .ref a_u), (6, .int v6_71), (7, .int v7_71)] → f_L_lexicon_J71 x_K_71 x_c_71 x_w_71 x_u_71 x_N_71 v1_71 v2_71 v6_71 v7_71 s0_71 = some (r, x_K9, x_c9, x_w9, x_u9) → W p l e (rmL 9 1) s m args below meth c H locs x_N_71 (16 * x_N_71) Q (F0 m 71 ls [.int s0_71]) := by
    intro x_K_71 x_c_71 x_w_71 x_u_71 x_N_71 v1_71 v2_71 v6_71 v7_71 s0_71 hN_71 H locs ls hW hl h
    rw [f_L_lexicon_J71] at h
    refine lv_istore (lv' := [(8, .int s0_71), (0, .ref (ad 0 0)), (1, .int v1_71), (2, .int v2_71), (3, .ref a_c), (4, .ref a_w), (5, .ref a_u), (6, .int v6_71), (7, .int v7_71)]) hx hb dL_lexicon_71 hl (by decide) rfl (fun ls hl => ?_)
    refine lv_iload_n hx hb dL_lexicon_73 rfl (lv_at hl 3 rfl) ?_
    refine lv_bipush (v := 7) hx hb dL_lexicon_74 (by decide) ?_
    refine lv_ishr hx hb dL_lexicon_76 ?_
    refine lv_bipush (v := 60) hx hb dL_lexicon_77 (by decide) ?_
    obtain ⟨r12, q13, h⟩ := bnd1_s h
    refine cs_L_171 hx hb hml hown hts hK hN hE hC hA hW (c_L_some l D T A (oA T 12 a_c x_c_71 ++ (oA T 24 a_w x_w_71 ++ (oA T 2 a_u x_u_71 ++ (oc_X10 T (ad 0) (bb ad) (x_K_71 0) ++ (wkL T ad x_K_71 L18 ++ Z))))) (v2_71 >>> ((7 : Int32) &&& 31)) 60 r12 q13) ⟨Nat.le_of_ble_eq_true rfl, Nat.le_of_ble_eq_true rfl⟩ hl.1 rfl (Nat.le_of_ble_eq_true rfl) dL_lexicon_79 (hf0 hN_71) rfl (fun H locs hW => ?_)
    refine lv_if_ne (tgt := 89) hx hb dL_lexicon_82 (by decide) (fun c14 => ?_) (fun c14 => ?_)
    · replace h := ite_f c14 h
      refine lv_iload_n hx hb dL_lexicon_89 rfl (lv_at hl 3 rfl) ?_
      refine lv_bipush (v := 6) hx hb dL_lexicon_90 (by decide) ?_
      refine lv_ishr hx hb dL_lexicon_92 ?_
      refine lv_iconst (v := 3) hx hb dL_lexicon_93 (by decide) ?_
      obtain ⟨r15, q16, h⟩ := bnd1_s h
      refine cs_L_171 hx hb hml hown hts hK hN hE hC hA hW (c_L_some l D T A (oA T 12 a_c x_c_71 ++ (oA T 24 a_w x_w_71 ++ (oA T 2 a_u x_u_71 ++ (oc_X10 T (ad 0) (bb ad) (x_K_71 0) ++ (wkL T ad x_K_71 L18 ++ Z))))) (v2_71 >>> ((6 : Int32) &&& 31)) 3 r15 q16) ⟨Nat.le_of_ble_eq_true rfl, Nat.le_of_ble_eq_true rfl⟩ hl.1 rfl (Nat.le_of_ble_eq_true rfl) dL_lexicon_94 (hf0 hN_71) rfl (fun H locs hW => ?_)
      exact J97 _ _ _ _ _ _ _ _ _ _ _ hN_71 H locs ls hW (lv_sub hl [1, 2, 3, 4, 5, 6, 7, 8, 0] rfl) h
    · replace h := ite_t c14 h
      refine lv_iconst (v := 4) hx hb dL_lexicon_85 (by decide) ?_
      refine lv_goto (tgt := 97) hx hb dL_lexicon_86 (by decide) ?_
      exact J97 _ _ _ _ _ _ _ _ _ _ _ hN_71 H locs ls hW (lv_sub hl [1, 2, 3, 4, 5, 6, 7, 8, 0] rfl) h
  have J24 : ∀ (x_K_24 : Nat → Ob) (x_c_24 : Nat → Int32) (x_w_24 : Nat → Int32) (x_u_24 : Nat → Int32) (x_N_24 : Nat) (v1_24 : Int32) (v2_24 : Int32) (v6_24 : Int32) (s0_24 : Int32) (hN_24 : x_N_24 ≤ 1) (H : Heap) (locs : List Loc) (ls : Array Slot), Wd D A s.heap (oA T 12 a_c x_c_24 ++ (oA T 24 a_w x_w_24 ++ (oA T 2 a_u x_u_24 ++ (oc_X10 T (ad 0) (bb ad) (x_K_24 0) ++ (wkL T ad x_K_24 L18 ++ Z))))) H locs → lv_has ls 14 [(0, .ref (ad 0 0)), (1, .int v1_24), (2, .int v2_24), (3, .ref a_c), (4, .ref a_w), (5, .ref a_u), (6, .int v6_24)] → f_L_lexicon_J24 x_K_24 x_c_24 x_w_24 x_u_24 x_N_24 v1_24 v2_24 v6_24 s0_24 = some (r, x_K9, x_c9, x_w9, x_u9) → W p l e (rmL 9 1) s m args below meth c H locs x_N_24 (16 * x_N_24) Q (F0 m 24 ls [.int s0_24]) := by
    intro x_K_24 x_c_24 x_w_24 x_u_24 x_N_24 v1_24 v2_24 v6_24 s0_24 hN_24 H locs ls hW hl h
    rw [f_L_lexicon_J24] at h
    refine lv_istore (lv' := [(7, .int s0_24), (0, .ref (ad 0 0)), (1, .int v1_24), (2, .int v2_24), (3, .ref a_c), (4, .ref a_w), (5, .ref a_u), (6, .int v6_24)]) hx hb dL_lexicon_24 hl (by decide) rfl (fun ls hl => ?_)
    refine lv_iload_n hx hb dL_lexicon_26 rfl (lv_at hl 3 rfl) ?_
    refine lv_iconst (v := 3) hx hb dL_lexicon_27 (by decide) ?_
    refine lv_ishr hx hb dL_lexicon_28 ?_
    refine lv_bipush (v := 40) hx hb dL_lexicon_29 (by decide) ?_
    obtain ⟨r4, q5, h⟩ := bnd1_s h
    refine cs_L_171 hx hb hml hown hts hK hN hE hC hA hW (c_L_some l D T A (oA T 12 a_c x_c_24 ++ (oA T 24 a_w x_w_24 ++ (oA T 2 a_u x_u_24 ++ (oc_X10 T (ad 0) (bb ad) (x_K_24 0) ++ (wkL T ad x_K_24 L18 ++ Z))))) (v2_24 >>> ((3 : Int32) &&& 31)) 40 r4 q5) ⟨Nat.le_of_ble_eq_true rfl, Nat.le_of_ble_eq_true rfl⟩ hl.1 rfl (Nat.le_of_ble_eq_true rfl) dL_lexicon_31 (hf0 hN_24) rfl (fun H locs hW => ?_)
    refine lv_if_ne (tgt := 42) hx hb dL_lexicon_34 (by decide) (fun c6 => ?_) (fun c6 => ?_)
    · replace h := ite_f c6 h
      refine lv_iload_n hx hb dL_lexicon_42 rfl (lv_at hl 3 rfl) ?_
      refine lv_iconst (v := 3) hx hb dL_lexicon_43 (by decide) ?_
      refine lv_ishr hx hb dL_lexicon_44 ?_
      refine lv_iconst (v := 3) hx hb dL_lexicon_45 (by decide) ?_
      obtain ⟨r7, q8, h⟩ := bnd1_s h
      refine cs_L_171 hx hb hml hown hts hK hN hE hC hA hW (c_L_some l D T A (oA T 12 a_c x_c_24 ++ (oA T 24 a_w x_w_24 ++ (oA T 2 a_u x_u_24 ++ (oc_X10 T (ad 0) (bb ad) (x_K_24 0) ++ (wkL T ad x_K_24 L18 ++ Z))))) (v2_24 >>> ((3 : Int32) &&& 31)) 3 r7 q8) ⟨Nat.le_of_ble_eq_true rfl, Nat.le_of_ble_eq_true rfl⟩ hl.1 rfl (Nat.le_of_ble_eq_true rfl) dL_lexicon_46 (hf0 hN_24) rfl (fun H locs hW => ?_)
      refine lv_if_ne (tgt := 62) hx hb dL_lexicon_49 (by decide) (fun c9 => ?_) (fun c9 => ?_)
      · replace h := ite_f c9 h
        refine lv_iconst (v := 2) hx hb dL_lexicon_62 (by decide) ?_
        refine lv_iload_n hx hb dL_lexicon_63 rfl (lv_at hl 3 rfl) ?_
        refine lv_iconst (v := 5) hx hb dL_lexicon_64 (by decide) ?_
        refine lv_ishr hx hb dL_lexicon_65 ?_
        refine lv_iconst (v := 4) hx hb dL_lexicon_66 (by decide) ?_
        obtain ⟨r10, q11, h⟩ := bnd1_s h
        refine cs_L_171 hx hb hml hown hts hK hN hE hC hA hW (c_L_some l D T A (oA T 12 a_c x_c_24 ++ (oA T 24 a_w x_w_24 ++ (oA T 2 a_u x_u_24 ++ (oc_X10 T (ad 0) (bb ad) (x_K_24 0) ++ (wkL T ad x_K_24 L18 ++ Z))))) (v2_24 >>> ((5 : Int32) &&& 31)) 4 r10 q11) ⟨Nat.le_of_ble_eq_true rfl, Nat.le_of_ble_eq_true rfl⟩ hl.1 rfl (Nat.le_of_ble_eq_true rfl) dL_lexicon_67 (hf0 hN_24) rfl (fun H locs hW => ?_)
        refine lv_iadd hx hb dL_lexicon_70 ?_
        exact J71 _ _ _ _ _ _ _ _ _ _ hN_24 H locs ls hW (lv_sub hl [1, 2, 3, 4, 5, 6, 7, 0] rfl) h
      · replace h := ite_t c9 h
        refine lv_iload_n hx hb dL_lexicon_52 rfl (lv_at hl 3 rfl) ?_
        refine lv_iconst (v := 2) hx hb dL_lexicon_53 (by decide) ?_
        refine lv_ishr hx hb dL_lexicon_54 ?_
        refine lv_iconst (v := 2) hx hb dL_lexicon_55 (by decide) ?_
        obtain ⟨r84, q85, h⟩ := bnd1_s h
        refine cs_L_171 hx hb hml hown hts hK hN hE hC hA hW (c_L_some l D T A (oA T 12 a_c x_c_24 ++ (oA T 24 a_w x_w_24 ++ (oA T 2 a_u x_u_24 ++ (oc_X10 T (ad 0) (bb ad) (x_K_24 0) ++ (wkL T ad x_K_24 L18 ++ Z))))) (v2_24 >>> ((2 : Int32) &&& 31)) 2 r84 q85) ⟨Nat.le_of_ble_eq_true rfl, Nat.le_of_ble_eq_true rfl⟩ hl.1 rfl (Nat.le_of_ble_eq_true rfl) dL_lexicon_56 (hf0 hN_24) rfl (fun H locs hW => ?_)
        refine lv_goto (tgt := 71) hx hb dL_lexicon_59 (by decide) ?_
        exact J71 _ _ _ _ _ _ _ _ _ _ hN_24 H locs ls hW (lv_sub hl [1, 2, 3, 4, 5, 6, 7, 0] rfl) h
    · replace h := ite_t c6 h
      refine lv_bipush (v := 10) hx hb dL_lexicon_37 (by decide) ?_
      refine lv_goto (tgt := 71) hx hb dL_lexicon_39 (by decide) ?_
      exact J71 _ _ _ _ _ _ _ _ _ _ hN_24 H locs ls hW (lv_sub hl [1, 2, 3, 4, 5, 6, 7, 0] rfl) h
  refine lv_iload_n hx hb dL_lexicon_0 rfl (lv_at hl 2 rfl) ?_
  refine lv_aload_n hx hb dL_lexicon_1 rfl (lv_at hl 3 rfl) ?_
  refine lv_iconst (v := 0) hx hb dL_lexicon_2 (by decide) ?_
  refine g_iald hx hb hK hW 0 rfl (by decide) dL_lexicon_3 ?_
  refine lv_iconst (v := 1) hx hb dL_lexicon_4 (by decide) ?_
  refine lv_iadd hx hb dL_lexicon_5 ?_
  obtain ⟨r1, q2, h⟩ := bnd1_s h
  refine cs_L_171 hx hb hml hown hts hK hN hE hC hA hW (c_L_some l D T A (oA T 12 a_c x_c ++ (oA T 24 a_w x_w ++ (oA T 2 a_u x_u ++ (oc_X10 T (ad 0) (bb ad) (x_K 0) ++ (wkL T ad x_K L18 ++ Z))))) p3 ((x_c (0 : Int32).toNatClampNeg) + 1) r1 q2) ⟨Nat.le_of_ble_eq_true rfl, Nat.le_of_ble_eq_true rfl⟩ hl.1 rfl (Nat.le_of_ble_eq_true rfl) dL_lexicon_6 (hf0 (Nat.zero_le _)) rfl (fun H locs hW => ?_)
  refine lv_istore (lv' := [(6, .int r1), (0, .ref (ad 0 0)), (1, .int p2), (2, .int p3), (3, .ref a_c), (4, .ref a_w), (5, .ref a_u)]) hx hb dL_lexicon_9 hl (by decide) rfl (fun ls hl => ?_)
  refine lv_iload hx hb dL_lexicon_11 (lv_at hl 0 rfl) ?_
  refine lv_aload_n hx hb dL_lexicon_13 rfl (lv_at hl 4 rfl) ?_
  refine lv_iconst (v := 0) hx hb dL_lexicon_14 (by decide) ?_
  refine g_iald hx hb hK hW 0 rfl (by decide) dL_lexicon_15 ?_
  refine lv_icmp_ge (tgt := 23) hx hb dL_lexicon_16 (by decide) (fun c3 => ?_) (fun c3 => ?_)
  · replace h := ite_t c3 h
    refine lv_iconst (v := 0) hx hb dL_lexicon_23 (by decide) ?_
    exact J24 _ _ _ _ _ _ _ _ _ (Nat.zero_le _) H locs ls hW (lv_sub hl [1, 2, 3, 4, 5, 6, 0] rfl) h
  · replace h := ite_f c3 h
    refine lv_iconst (v := 1) hx hb dL_lexicon_19 (by decide) ?_
    refine lv_goto (tgt := 24) hx hb dL_lexicon_20 (by decide) ?_
    exact J24 _ _ _ _ _ _ _ _ _ (Nat.zero_le _) H locs ls hW (lv_sub hl [1, 2, 3, 4, 5, 6, 0] rfl) h
set_option maxHeartbeats 16000000 in
set_option maxRecDepth 100000 in
theorem c_L_grammar (l : Launch) (hfl : l.stackTraces = false) (D : va_G) (T : Nat → ClassId) (A : Nat → Prop) (ad : Nat → Nat → Nat) (hok : okad ad) (a_c : Nat) (a_t : Nat) (a_g : Nat) (a_q : Nat) (a_n : Nat) (Z : va_W) (x_K : Nat → Ob) (x_c : Nat → Int32) (x_t : Nat → Int32) (x_g : Nat → Int32) (x_q : Nat → Int32) (x_n : Nat → Int32) (p2 : Int32) (p3 : Int32) (r : Int32) (x_K9 : Nat → Ob) (x_c9 : Nat → Int32) (x_t9 : Nat → Int32) (x_g9 : Nat → Int32) (x_q9 : Nat → Int32) (x_n9 : Nat → Int32) (h : f_L_grammar x_K x_c x_t x_g x_q x_n p2 p3 = some (r, x_K9, x_c9, x_t9, x_g9, x_q9, x_n9)) : Met l yL_grammar (Cond.code yL_grammar cL_grammar 18 (some .boolean) :: wsL_law) (rmL 8 1) (Pl D T A (oA T 12 a_c x_c ++ (oA T 20 a_t x_t ++ (oA T 20 a_g x_g ++ (oA T 60 a_q x_q ++ (oA T 5 a_n x_n ++ (oc_X10 T (ad 0) (bb ad) (x_K 0) ++ (wkL T ad x_K L18 ++ Z))))))) [.ref (ad 0 0), .int p2, .int p3, .ref a_c, .ref a_t, .ref a_g, .ref a_q, .ref a_n]) (Qgi D A (oA T 12 a_c x_c9 ++ (oA T 20 a_t x_t9 ++ (oA T 20 a_g x_g9 ++ (oA T 60 a_q x_q9 ++ (oA T 5 a_n x_n9 ++ (oc_X10 T (ad 0) (bb ad) (x_K9 0) ++ (wkL T ad x_K9 L18 ++ Z))))))) r) 1 16 A := by
  refine Met.ofW (cc := cL_grammar) (maxL := 18) (ret := (some .boolean)) (by decide +kernel) rfl ?_
  intro p e s m args below meth c s₁ B hml hv
  obtain ⟨ha, hP, hK, hD, hN, hE, hC, hA⟩ := hv
  have hx := B.exec
  have hb := B.bytes
  have hr := B.returns
  have hlk := B.notSynchronized
  have hts : ∀ w ∈ wsL_law, w.before args s = true := fun w hw => atoms_spec B.pre w (List.mem_cons_of_mem _ hw)
  have hown : s.vm.findClass RL = some m.cls := findClass_of_methodNamed B.named
  have hW : Wd D A s.heap (oA T 12 a_c x_c ++ (oA T 20 a_t x_t ++ (oA T 20 a_g x_g ++ (oA T 60 a_q x_q ++ (oA T 5 a_n x_n ++ (oc_X10 T (ad 0) (bb ad) (x_K 0) ++ (wkL T ad x_K L18 ++ Z))))))) s.heap [] := ⟨hP, hD, va_S.rf⟩
  have hl := lv_entry [.ref (ad 0 0), .int p2, .int p3, .ref a_c, .ref a_t, .ref a_g, .ref a_q, .ref a_n] (n := 18) (Nat.le_of_ble_eq_true rfl)
  refine W.eq (en_eq ha) ?_
  generalize (lg_sl [.ref (ad 0 0), .int p2, .int p3, .ref a_c, .ref a_t, .ref a_g, .ref a_q, .ref a_n] ++ List.replicate (18 - (lg_sl [.ref (ad 0 0), .int p2, .int p3, .ref a_c, .ref a_t, .ref a_g, .ref a_q, .ref a_n]).length) Slot.unset).toArray = ls at hl ⊢
  have hl : lv_has ls 18 [(0, .ref (ad 0 0)), (1, .int p2), (2, .int p3), (3, .ref a_c), (4, .ref a_t), (5, .ref a_g), (6, .ref a_q), (7, .ref a_n)] := hl
  clear hP hD B ha
  obtain ⟨Q, hQ⟩ : ∃ Q, Q = MQ below (Qgi D A (oA T 12 a_c x_c9 ++ (oA T 20 a_t x_t9 ++ (oA T 20 a_g x_g9 ++ (oA T 60 a_q x_q9 ++ (oA T 5 a_n x_n9 ++ (oc_X10 T (ad 0) (bb ad) (x_K9 0) ++ (wkL T ad x_K9 L18 ++ Z))))))) r) args s 1 16 A := ⟨_, rfl⟩
  rw [← hQ]
  change W p l e (rmL 8 1) s m args below meth c s.heap [] 0 (16 * 0) Q (F0 m 0 ls [])
  rw [f_L_grammar] at h
  suffices hm : ∀ (H : Heap) (locs : List Loc), Wd D A s.heap (oA T 12 a_c x_c ++ (oA T 20 a_t x_t ++ (oA T 20 a_g x_g ++ (oA T 60 a_q x_q ++ (oA T 5 a_n x_n ++ (oc_X10 T (ad 0) (bb ad) (x_K 0) ++ (wkL T ad x_K L18 ++ Z))))))) H locs → W p l e (rmL 8 1) s m args below meth c H locs 0 (16 * 0) Q (F0 m 0 ls []) from hm _ _ hW
  clear hW
  intro H locs hW
  have J769 : ∀ (x_K_769 : Nat → Ob) (x_c_769 : Nat → Int32) (x_t_769 : Nat → Int32) (x_g_769 : Nat → Int32) (x_q_769 : Nat → Int32) (x_n_769 : Nat → Int32) (x_N_769 : Nat) (v10_769 : Int32) (v11_769 : Int32) (v12_769 : Int32) (v13_769 : Int32) (v14_769 : Int32) (v15_769 : Int32) (v16_769 : Int32) (hN_769 : x_N_769 ≤ 1) (H : Heap) (locs : List Loc) (ls : Array Slot), Wd D A s.heap (oA T 12 a_c x_c_769 ++ (oA T 20 a_t x_t_769 ++ (oA T 20 a_g x_g_769 ++ (oA T 60 a_q x_q_769 ++ (oA T 5 a_n x_n_769 ++ (oc_X10 T (ad 0) (bb ad) (x_K_769 0) ++ (wkL T ad x_K_769 L18 ++ Z))))))) H locs → lv_has ls 18 [(0, .ref (ad 0 0)), (7, .ref a_n), (10, .int v10_769), (11, .int v11_769), (12, .int v12_769), (13, .int v13_769), (14, .int v14_769), (15, .int v15_769), (16, .int v16_769)] → f_L_grammar_J769 x_K_769 x_c_769 x_t_769 x_g_769 x_q_769 x_n_769 x_N_769 v10_769 v11_769 v12_769 v13_769 v14_769 v15_769 v16_769 = some (r, x_K9, x_c9, x_t9, x_g9, x_q9, x_n9) → W p l e (rmL 8 1) s m args below meth c H locs x_N_769 (16 * x_N_769) Q (F0 m 769 ls []) := by
    intro x_K_769 x_c_769 x_t_769 x_g_769 x_q_769 x_n_769 x_N_769 v10_769 v11_769 v12_769 v13_769 v14_769 v15_769 v16_769 hN_769 H locs ls hW hl h
    rw [f_L_grammar_J769] at h
    refine lv_aload_n hx hb dL_grammar_769 rfl (lv_at hl 0 rfl) ?_
    refine lv_iload hx hb dL_grammar_770 (lv_at hl 2 rfl) ?_
    refine lv_iload hx hb dL_grammar_772 (lv_at hl 4 rfl) ?_
    refine lv_iload hx hb dL_grammar_774 (lv_at hl 5 rfl) ?_
    refine lv_iload hx hb dL_grammar_776 (lv_at hl 6 rfl) ?_
    refine lv_iload hx hb dL_grammar_778 (lv_at hl 7 rfl) ?_
    replace hW := hW.perm pf6
    replace hW := hW.perm pf6
    obtain ⟨r30, x_K31, q32, h⟩ := bnd2_s h
    obtain ⟨gN33, h⟩ := grd_s h
    have gN33 := of_decide_eq_true gN33
    refine cs_L_189 hx hb hml hown hts hK hN hE hC hA hW (c_L_equates l hfl D T A ad hok (oA T 12 a_c x_c_769 ++ (oA T 20 a_t x_t_769 ++ (oA T 20 a_g x_g_769 ++ (oA T 60 a_q x_q_769 ++ (oA T 5 a_n x_n_769 ++ Z))))) x_K_769 v10_769 v12_769 v13_769 v14_769 v15_769 r30 x_K31 q32) ⟨Nat.le_of_ble_eq_true rfl, Nat.le_of_ble_eq_true rfl⟩ hl.1 rfl (Nat.le_of_ble_eq_true rfl) dL_grammar_780 (hfB gN33) rfl (fun H locs hW => ?_)
    replace hW := hW.perm pf1
    replace hW := hW.perm pf1
    replace hW := hW.perm pf6
    replace hW := hW.perm pf6
    replace hW := hW.perm pf6
    replace hW := hW.perm pf6
    replace hW := hW.perm pf6
    refine lv_iload hx hb dL_grammar_783 (lv_at hl 3 rfl) ?_
    refine lv_if_ne (tgt := 794) hx hb dL_grammar_785 (by decide) (fun c34 => ?_) (fun c34 => ?_)
    · replace h := ite_f c34 h
      refine lv_iload hx hb dL_grammar_794 (lv_at hl 8 rfl) ?_
      refine lv_if_eq (tgt := 809) hx hb dL_grammar_796 (by decide) (fun c35 => ?_) (fun c35 => ?_)
      · replace h := ite_t c35 h
        refine lv_sipush (v := (-1002)) hx hb dL_grammar_809 (by decide) ?_
        refine lv_icmp_ne (tgt := 819) hx hb dL_grammar_812 (by decide) (fun c36 => ?_) (fun c36 => ?_)
        · replace h := ite_f c36 h
          refine lv_iconst (v := 0) hx hb dL_grammar_819 (by decide) ?_
          obtain ⟨rfl, rfl, rfl, rfl, rfl, rfl, rfl⟩ := ret7 h
          rw [hQ]
          refine W.widen (k := 1) (n := 16) gN33 (Nat.mul_le_mul_left 16 gN33) ?_
          exact g_retz hx hb hr hlk hW (by decide) dL_grammar_820
        · replace h := ite_t c36 h
          refine lv_iconst (v := 1) hx hb dL_grammar_815 (by decide) ?_
          refine lv_goto (tgt := 820) hx hb dL_grammar_816 (by decide) ?_
          obtain ⟨rfl, rfl, rfl, rfl, rfl, rfl, rfl⟩ := ret7 h
          rw [hQ]
          refine W.widen (k := 1) (n := 16) gN33 (Nat.mul_le_mul_left 16 gN33) ?_
          exact g_retz hx hb hr hlk hW (by decide) dL_grammar_820
      · replace h := ite_f c35 h
        refine lv_aload hx hb dL_grammar_799 (lv_at hl 1 rfl) ?_
        refine lv_iload hx hb dL_grammar_801 (lv_at hl 2 rfl) ?_
        obtain ⟨g37, h⟩ := grd_s h
        refine g_iald hx hb hK hW 4 rfl g37 dL_grammar_803 ?_
        refine lv_iconst (v := 1) hx hb dL_grammar_804 (by decide) ?_
        refine lv_isub hx hb dL_grammar_805 ?_
        refine lv_goto (tgt := 812) hx hb dL_grammar_806 (by decide) ?_
        refine lv_icmp_ne (tgt := 819) hx hb dL_grammar_812 (by decide) (fun c38 => ?_) (fun c38 => ?_)
        · replace h := ite_f c38 h
          refine lv_iconst (v := 0) hx hb dL_grammar_819 (by decide) ?_
          obtain ⟨rfl, rfl, rfl, rfl, rfl, rfl, rfl⟩ := ret7 h
          rw [hQ]
          refine W.widen (k := 1) (n := 16) gN33 (Nat.mul_le_mul_left 16 gN33) ?_
          exact g_retz hx hb hr hlk hW (by decide) dL_grammar_820
        · replace h := ite_t c38 h
          refine lv_iconst (v := 1) hx hb dL_grammar_815 (by decide) ?_
          refine lv_goto (tgt := 820) hx hb dL_grammar_816 (by decide) ?_
          obtain ⟨rfl, rfl, rfl, rfl, rfl, rfl, rfl⟩ := ret7 h
          rw [hQ]
          refine W.widen (k := 1) (n := 16) gN33 (Nat.mul_le_mul_left 16 gN33) ?_
          exact g_retz hx hb hr hlk hW (by decide) dL_grammar_820
    · replace h := ite_t c34 h
      refine lv_sipush (v := (-1001)) hx hb dL_grammar_788 (by decide) ?_
      refine lv_goto (tgt := 812) hx hb dL_grammar_791 (by decide) ?_
      refine lv_icmp_ne (tgt := 819) hx hb dL_grammar_812 (by decide) (fun c39 => ?_) (fun c39 => ?_)
      · replace h := ite_f c39 h
        refine lv_iconst (v := 0) hx hb dL_grammar_819 (by decide) ?_
        obtain ⟨rfl, rfl, rfl, rfl, rfl, rfl, rfl⟩ := ret7 h
        rw [hQ]
        refine W.widen (k := 1) (n := 16) gN33 (Nat.mul_le_mul_left 16 gN33) ?_
        exact g_retz hx hb hr hlk hW (by decide) dL_grammar_820
      · replace h := ite_t c39 h
        refine lv_iconst (v := 1) hx hb dL_grammar_815 (by decide) ?_
        refine lv_goto (tgt := 820) hx hb dL_grammar_816 (by decide) ?_
        obtain ⟨rfl, rfl, rfl, rfl, rfl, rfl, rfl⟩ := ret7 h
        rw [hQ]
        refine W.widen (k := 1) (n := 16) gN33 (Nat.mul_le_mul_left 16 gN33) ?_
        exact g_retz hx hb hr hlk hW (by decide) dL_grammar_820
  have J694 : ∀ (x_K_694 : Nat → Ob) (x_c_694 : Nat → Int32) (x_t_694 : Nat → Int32) (x_g_694 : Nat → Int32) (x_q_694 : Nat → Int32) (x_n_694 : Nat → Int32) (x_N_694 : Nat) (v10_694 : Int32) (v11_694 : Int32) (v12_694 : Int32) (v13_694 : Int32) (v14_694 : Int32) (v15_694 : Int32) (v16_694 : Int32) (hN_694 : x_N_694 ≤ 1) (H : Heap) (locs : List Loc) (ls : Array Slot), Wd D A s.heap (oA T 12 a_c x_c_694 ++ (oA T 20 a_t x_t_694 ++ (oA T 20 a_g x_g_694 ++ (oA T 60 a_q x_q_694 ++ (oA T 5 a_n x_n_694 ++ (oc_X10 T (ad 0) (bb ad) (x_K_694 0) ++ (wkL T ad x_K_694 L18 ++ Z))))))) H locs → lv_has ls 18 [(0, .ref (ad 0 0)), (3, .ref a_c), (6, .ref a_q), (7, .ref a_n), (10, .int v10_694), (11, .int v11_694), (12, .int v12_694), (13, .int v13_694), (14, .int v14_694), (15, .int v15_694), (16, .int v16_694)] → f_L_grammar_J694 x_K_694 x_c_694 x_t_694 x_g_694 x_q_694 x_n_694 x_N_694 v10_694 v11_694 v12_694 v13_694 v14_694 v15_694 v16_694 = some (r, x_K9, x_c9, x_t9, x_g9, x_q9, x_n9) → W p l e (rmL 8 1) s m args below meth c H locs x_N_694 (16 * x_N_694) Q (F0 m 694 ls []) := by
    intro x_K_694 x_c_694 x_t_694 x_g_694 x_q_694 x_n_694 x_N_694 v10_694 v11_694 v12_694 v13_694 v14_694 v15_694 v16_694 hN_694 H locs ls hW hl h
    rw [f_L_grammar_J694] at h
    refine lv_iload hx hb dL_grammar_694 (lv_at hl 5 rfl) ?_
    refine lv_if_eq (tgt := 769) hx hb dL_grammar_696 (by decide) (fun c29 => ?_) (fun c29 => ?_)
    · replace h := ite_t c29 h
      exact J769 _ _ _ _ _ _ _ _ _ _ _ _ _ _ hN_694 H locs ls hW (lv_sub hl [0, 3, 4, 5, 6, 7, 8, 9, 10] rfl) h
    · replace h := ite_f c29 h
      refine lv_iload hx hb dL_grammar_699 (lv_at hl 10 rfl) ?_
      refine lv_if_eq (tgt := 769) hx hb dL_grammar_701 (by decide) (fun c40 => ?_) (fun c40 => ?_)
      · replace h := ite_t c40 h
        exact J769 _ _ _ _ _ _ _ _ _ _ _ _ _ _ hN_694 H locs ls hW (lv_sub hl [0, 3, 4, 5, 6, 7, 8, 9, 10] rfl) h
      · replace h := ite_f c40 h
        refine lv_bipush (v := 12) hx hb dL_grammar_704 (by decide) ?_
        refine lv_iload hx hb dL_grammar_706 (lv_at hl 4 rfl) ?_
        refine lv_imul hx hb dL_grammar_708 ?_
        refine lv_aload hx hb dL_grammar_709 (lv_at hl 3 rfl) ?_
        refine lv_iload hx hb dL_grammar_711 (lv_at hl 4 rfl) ?_
        obtain ⟨g41, h⟩ := grd_s h
        refine g_iald hx hb hK hW 4 rfl g41 dL_grammar_713 ?_
        refine lv_iadd hx hb dL_grammar_714 ?_
        refine lv_topi (fun w17_42 ew17_42 => ?_)
        replace h := lb_at ew17_42 h
        refine lv_istore (lv' := [(17, .int w17_42), (0, .ref (ad 0 0)), (3, .ref a_c), (6, .ref a_q), (7, .ref a_n), (10, .int v10_694), (11, .int v11_694), (12, .int v12_694), (13, .int v13_694), (14, .int v14_694), (15, .int v15_694), (16, .int v16_694)]) hx hb dL_grammar_715 hl (by decide) rfl (fun ls hl => ?_)
        refine lv_aload hx hb dL_grammar_717 (lv_at hl 3 rfl) ?_
        refine lv_iload hx hb dL_grammar_719 (lv_at hl 0 rfl) ?_
        refine lv_iload hx hb dL_grammar_721 (lv_at hl 7 rfl) ?_
        obtain ⟨g43, h⟩ := grd_s h
        refine g_iast (ws9 := oA T 12 a_c x_c_694 ++ (oA T 20 a_t x_t_694 ++ (oA T 20 a_g x_g_694 ++ (oA T 60 a_q (upd x_q_694 w17_42.toNatClampNeg v12_694) ++ (oA T 5 a_n x_n_694 ++ (oc_X10 T (ad 0) (bb ad) (x_K_694 0) ++ (wkL T ad x_K_694 L18 ++ Z))))))) hx hb hK hW 3 rfl g43 rfl dL_grammar_723 (fun H locs hW => ?_)
        obtain ⟨x_q44, ex_q44⟩ : ∃ y : Nat → Int32, y = upd x_q_694 w17_42.toNatClampNeg v12_694 := ⟨_, rfl⟩
        rw [← ex_q44] at hW
        replace h := lb_at ex_q44 h
        refine lv_aload hx hb dL_grammar_724 (lv_at hl 3 rfl) ?_
        refine lv_iload hx hb dL_grammar_726 (lv_at hl 0 rfl) ?_
        refine lv_iconst (v := 3) hx hb dL_grammar_728 (by decide) ?_
        refine lv_iadd hx hb dL_grammar_729 ?_
        refine lv_iload hx hb dL_grammar_730 (lv_at hl 8 rfl) ?_
        obtain ⟨g45, h⟩ := grd_s h
        refine g_iast (ws9 := oA T 12 a_c x_c_694 ++ (oA T 20 a_t x_t_694 ++ (oA T 20 a_g x_g_694 ++ (oA T 60 a_q (upd x_q44 (w17_42 + 3).toNatClampNeg v13_694) ++ (oA T 5 a_n x_n_694 ++ (oc_X10 T (ad 0) (bb ad) (x_K_694 0) ++ (wkL T ad x_K_694 L18 ++ Z))))))) hx hb hK hW 3 rfl g45 rfl dL_grammar_732 (fun H locs hW => ?_)
        obtain ⟨x_q46, ex_q46⟩ : ∃ y : Nat → Int32, y = upd x_q44 (w17_42 + 3).toNatClampNeg v13_694 := ⟨_, rfl⟩
        rw [← ex_q46] at hW
        replace h := lb_at ex_q46 h
        refine lv_aload hx hb dL_grammar_733 (lv_at hl 3 rfl) ?_
        refine lv_iload hx hb dL_grammar_735 (lv_at hl 0 rfl) ?_
        refine lv_bipush (v := 6) hx hb dL_grammar_737 (by decide) ?_
        refine lv_iadd hx hb dL_grammar_739 ?_
        refine lv_iload hx hb dL_grammar_740 (lv_at hl 9 rfl) ?_
        obtain ⟨g47, h⟩ := grd_s h
        refine g_iast (ws9 := oA T 12 a_c x_c_694 ++ (oA T 20 a_t x_t_694 ++ (oA T 20 a_g x_g_694 ++ (oA T 60 a_q (upd x_q46 (w17_42 + 6).toNatClampNeg v14_694) ++ (oA T 5 a_n x_n_694 ++ (oc_X10 T (ad 0) (bb ad) (x_K_694 0) ++ (wkL T ad x_K_694 L18 ++ Z))))))) hx hb hK hW 3 rfl g47 rfl dL_grammar_742 (fun H locs hW => ?_)
        obtain ⟨x_q48, ex_q48⟩ : ∃ y : Nat → Int32, y = upd x_q46 (w17_42 + 6).toNatClampNeg v14_694 := ⟨_, rfl⟩
        rw [← ex_q48] at hW
        replace h := lb_at ex_q48 h
        refine lv_aload hx hb dL_grammar_743 (lv_at hl 3 rfl) ?_
        refine lv_iload hx hb dL_grammar_745 (lv_at hl 0 rfl) ?_
        refine lv_bipush (v := 9) hx hb dL_grammar_747 (by decide) ?_
        refine lv_iadd hx hb dL_grammar_749 ?_
        refine lv_iload hx hb dL_grammar_750 (lv_at hl 10 rfl) ?_
        obtain ⟨g49, h⟩ := grd_s h
        refine g_iast (ws9 := oA T 12 a_c x_c_694 ++ (oA T 20 a_t x_t_694 ++ (oA T 20 a_g x_g_694 ++ (oA T 60 a_q (upd x_q48 (w17_42 + 9).toNatClampNeg v15_694) ++ (oA T 5 a_n x_n_694 ++ (oc_X10 T (ad 0) (bb ad) (x_K_694 0) ++ (wkL T ad x_K_694 L18 ++ Z))))))) hx hb hK hW 3 rfl g49 rfl dL_grammar_752 (fun H locs hW => ?_)
        obtain ⟨x_q50, ex_q50⟩ : ∃ y : Nat → Int32, y = upd x_q48 (w17_42 + 9).toNatClampNeg v15_694 := ⟨_, rfl⟩
        rw [← ex_q50] at hW
        replace h := lb_at ex_q50 h
        refine lv_aload hx hb dL_grammar_753 (lv_at hl 4 rfl) ?_
        refine lv_iload hx hb dL_grammar_755 (lv_at hl 5 rfl) ?_
        refine lv_dup2_11 hx hb dL_grammar_757 rfl rfl ?_
        obtain ⟨g51, h⟩ := grd_s h
        refine g_iald hx hb hK hW 4 rfl g51 dL_grammar_758 ?_
        refine lv_iconst (v := 1) hx hb dL_grammar_759 (by decide) ?_
        refine lv_iadd hx hb dL_grammar_760 ?_
        obtain ⟨g52, h⟩ := grd_s h
        refine g_iast (ws9 := oA T 12 a_c x_c_694 ++ (oA T 20 a_t x_t_694 ++ (oA T 20 a_g x_g_694 ++ (oA T 60 a_q x_q50 ++ (oA T 5 a_n (upd x_n_694 v10_694.toNatClampNeg ((x_n_694 v10_694.toNatClampNeg) + 1)) ++ (oc_X10 T (ad 0) (bb ad) (x_K_694 0) ++ (wkL T ad x_K_694 L18 ++ Z))))))) hx hb hK hW 4 rfl g52 rfl dL_grammar_761 (fun H locs hW => ?_)
        obtain ⟨x_n53, ex_n53⟩ : ∃ y : Nat → Int32, y = upd x_n_694 v10_694.toNatClampNeg ((x_n_694 v10_694.toNatClampNeg) + 1) := ⟨_, rfl⟩
        rw [← ex_n53] at hW
        replace h := lb_at ex_n53 h
        refine lv_aload_n hx hb dL_grammar_762 rfl (lv_at hl 2 rfl) ?_
        refine lv_iconst (v := 4) hx hb dL_grammar_763 (by decide) ?_
        refine lv_dup2_11 hx hb dL_grammar_764 rfl rfl ?_
        refine g_iald hx hb hK hW 0 rfl (by decide) dL_grammar_765 ?_
        refine lv_iconst (v := 1) hx hb dL_grammar_766 (by decide) ?_
        refine lv_iadd hx hb dL_grammar_767 ?_
        refine g_iast (ws9 := oA T 12 a_c (upd x_c_694 (4 : Int32).toNatClampNeg ((x_c_694 (4 : Int32).toNatClampNeg) + 1)) ++ (oA T 20 a_t x_t_694 ++ (oA T 20 a_g x_g_694 ++ (oA T 60 a_q x_q50 ++ (oA T 5 a_n x_n53 ++ (oc_X10 T (ad 0) (bb ad) (x_K_694 0) ++ (wkL T ad x_K_694 L18 ++ Z))))))) hx hb hK hW 0 rfl (by decide) rfl dL_grammar_768 (fun H locs hW => ?_)
        obtain ⟨x_c54, ex_c54⟩ : ∃ y : Nat → Int32, y = upd x_c_694 (4 : Int32).toNatClampNeg ((x_c_694 (4 : Int32).toNatClampNeg) + 1) := ⟨_, rfl⟩
        rw [← ex_c54] at hW
        replace h := lb_at ex_c54 h
        exact J769 _ _ _ _ _ _ _ _ _ _ _ _ _ _ hN_694 H locs ls hW (lv_sub hl [1, 4, 5, 6, 7, 8, 9, 10, 11] rfl) h
  have J647 : ∀ (x_K_647 : Nat → Ob) (x_c_647 : Nat → Int32) (x_t_647 : Nat → Int32) (x_g_647 : Nat → Int32) (x_q_647 : Nat → Int32) (x_n_647 : Nat → Int32) (x_N_647 : Nat) (v10_647 : Int32) (v11_647 : Int32) (v12_647 : Int32) (v13_647 : Int32) (v14_647 : Int32) (v15_647 : Int32) (s0_647 : Int32) (hN_647 : x_N_647 ≤ 1) (H : Heap) (locs : List Loc) (ls : Array Slot), Wd D A s.heap (oA T 12 a_c x_c_647 ++ (oA T 20 a_t x_t_647 ++ (oA T 20 a_g x_g_647 ++ (oA T 60 a_q x_q_647 ++ (oA T 5 a_n x_n_647 ++ (oc_X10 T (ad 0) (bb ad) (x_K_647 0) ++ (wkL T ad x_K_647 L18 ++ Z))))))) H locs → lv_has ls 18 [(0, .ref (ad 0 0)), (3, .ref a_c), (6, .ref a_q), (7, .ref a_n), (10, .int v10_647), (11, .int v11_647), (12, .int v12_647), (13, .int v13_647), (14, .int v14_647), (15, .int v15_647)] → f_L_grammar_J647 x_K_647 x_c_647 x_t_647 x_g_647 x_q_647 x_n_647 x_N_647 v10_647 v11_647 v12_647 v13_647 v14_647 v15_647 s0_647 = some (r, x_K9, x_c9, x_t9, x_g9, x_q9, x_n9) → W p l e (rmL 8 1) s m args below meth c H locs x_N_647 (16 * x_N_647) Q (F0 m 647 ls [.int s0_647]) := by
    intro x_K_647 x_c_647 x_t_647 x_g_647 x_q_647 x_n_647 x_N_647 v10_647 v11_647 v12_647 v13_647 v14_647 v15_647 s0_647 hN_647 H locs ls hW hl h
    rw [f_L_grammar_J647] at h
    refine lv_istore (lv' := [(16, .int s0_647), (0, .ref (ad 0 0)), (3, .ref a_c), (6, .ref a_q), (7, .ref a_n), (10, .int v10_647), (11, .int v11_647), (12, .int v12_647), (13, .int v13_647), (14, .int v14_647), (15, .int v15_647)]) hx hb dL_grammar_647 hl (by decide) rfl (fun ls hl => ?_)
    refine lv_iload hx hb dL_grammar_649 (lv_at hl 6 rfl) ?_
    refine lv_if_eq (tgt := 694) hx hb dL_grammar_651 (by decide) (fun c28 => ?_) (fun c28 => ?_)
    · replace h := ite_t c28 h
      exact J694 _ _ _ _ _ _ _ _ _ _ _ _ _ _ hN_647 H locs ls hW (lv_sub hl [1, 2, 3, 4, 5, 6, 7, 8, 9, 10, 0] rfl) h
    · replace h := ite_f c28 h
      refine lv_iload hx hb dL_grammar_654 (lv_at hl 0 rfl) ?_
      refine lv_if_eq (tgt := 694) hx hb dL_grammar_656 (by decide) (fun c55 => ?_) (fun c55 => ?_)
      · replace h := ite_t c55 h
        exact J694 _ _ _ _ _ _ _ _ _ _ _ _ _ _ hN_647 H locs ls hW (lv_sub hl [1, 2, 3, 4, 5, 6, 7, 8, 9, 10, 0] rfl) h
      · replace h := ite_f c55 h
        refine lv_aload hx hb dL_grammar_659 (lv_at hl 4 rfl) ?_
        refine lv_iload hx hb dL_grammar_661 (lv_at hl 5 rfl) ?_
        obtain ⟨g56, h⟩ := grd_s h
        refine g_iald hx hb hK hW 4 rfl g56 dL_grammar_663 ?_
        refine lv_iconst (v := 3) hx hb dL_grammar_664 (by decide) ?_
        refine lv_icmp_ne (tgt := 694) hx hb dL_grammar_665 (by decide) (fun c57 => ?_) (fun c57 => ?_)
        · replace h := ite_f c57 h
          exact J694 _ _ _ _ _ _ _ _ _ _ _ _ _ _ hN_647 H locs ls hW (lv_sub hl [1, 2, 3, 4, 5, 6, 7, 8, 9, 10, 0] rfl) h
        · replace h := ite_t c57 h
          refine lv_aload_n hx hb dL_grammar_668 rfl (lv_at hl 1 rfl) ?_
          refine lv_iload hx hb dL_grammar_669 (lv_at hl 5 rfl) ?_
          refine lv_iload hx hb dL_grammar_671 (lv_at hl 7 rfl) ?_
          refine lv_iload hx hb dL_grammar_673 (lv_at hl 8 rfl) ?_
          refine lv_iload hx hb dL_grammar_675 (lv_at hl 9 rfl) ?_
          refine lv_iload hx hb dL_grammar_677 (lv_at hl 10 rfl) ?_
          replace hW := hW.perm pf6
          replace hW := hW.perm pf6
          obtain ⟨r58, x_K59, q60, h⟩ := bnd2_s h
          obtain ⟨gN61, h⟩ := grd_s h
          have gN61 := of_decide_eq_true gN61
          refine cs_L_189 hx hb hml hown hts hK hN hE hC hA hW (c_L_equates l hfl D T A ad hok (oA T 12 a_c x_c_647 ++ (oA T 20 a_t x_t_647 ++ (oA T 20 a_g x_g_647 ++ (oA T 60 a_q x_q_647 ++ (oA T 5 a_n x_n_647 ++ Z))))) x_K_647 v10_647 v12_647 v13_647 v14_647 v15_647 r58 x_K59 q60) ⟨Nat.le_of_ble_eq_true rfl, Nat.le_of_ble_eq_true rfl⟩ hl.1 rfl (Nat.le_of_ble_eq_true rfl) dL_grammar_679 (hfB gN61) rfl (fun H locs hW => ?_)
          replace hW := hW.perm pf1
          replace hW := hW.perm pf1
          replace hW := hW.perm pf6
          replace hW := hW.perm pf6
          replace hW := hW.perm pf6
          replace hW := hW.perm pf6
          replace hW := hW.perm pf6
          refine lv_sipush (v := (-1003)) hx hb dL_grammar_682 (by decide) ?_
          refine lv_icmp_ne (tgt := 692) hx hb dL_grammar_685 (by decide) (fun c62 => ?_) (fun c62 => ?_)
          · replace h := ite_f c62 h
            refine lv_iconst (v := 0) hx hb dL_grammar_692 (by decide) ?_
            obtain ⟨rfl, rfl, rfl, rfl, rfl, rfl, rfl⟩ := ret7 h
            rw [hQ]
            refine W.widen (k := 1) (n := 16) gN61 (Nat.mul_le_mul_left 16 gN61) ?_
            exact g_retz hx hb hr hlk hW (by decide) dL_grammar_693
          · replace h := ite_t c62 h
            refine lv_iconst (v := 1) hx hb dL_grammar_688 (by decide) ?_
            refine lv_goto (tgt := 693) hx hb dL_grammar_689 (by decide) ?_
            obtain ⟨rfl, rfl, rfl, rfl, rfl, rfl, rfl⟩ := ret7 h
            rw [hQ]
            refine W.widen (k := 1) (n := 16) gN61 (Nat.mul_le_mul_left 16 gN61) ?_
            exact g_retz hx hb hr hlk hW (by decide) dL_grammar_693
  have J646 : ∀ (x_K_646 : Nat → Ob) (x_c_646 : Nat → Int32) (x_t_646 : Nat → Int32) (x_g_646 : Nat → Int32) (x_q_646 : Nat → Int32) (x_n_646 : Nat → Int32) (x_N_646 : Nat) (v10_646 : Int32) (v11_646 : Int32) (v12_646 : Int32) (v13_646 : Int32) (v14_646 : Int32) (v15_646 : Int32) (hN_646 : x_N_646 ≤ 1) (H : Heap) (locs : List Loc) (ls : Array Slot), Wd D A s.heap (oA T 12 a_c x_c_646 ++ (oA T 20 a_t x_t_646 ++ (oA T 20 a_g x_g_646 ++ (oA T 60 a_q x_q_646 ++ (oA T 5 a_n x_n_646 ++ (oc_X10 T (ad 0) (bb ad) (x_K_646 0) ++ (wkL T ad x_K_646 L18 ++ Z))))))) H locs → lv_has ls 18 [(0, .ref (ad 0 0)), (3, .ref a_c), (6, .ref a_q), (7, .ref a_n), (10, .int v10_646), (11, .int v11_646), (12, .int v12_646), (13, .int v13_646), (14, .int v14_646), (15, .int v15_646)] → f_L_grammar_J646 x_K_646 x_c_646 x_t_646 x_g_646 x_q_646 x_n_646 x_N_646 v10_646 v11_646 v12_646 v13_646 v14_646 v15_646 = some (r, x_K9, x_c9, x_t9, x_g9, x_q9, x_n9) → W p l e (rmL 8 1) s m args below meth c H locs x_N_646 (16 * x_N_646) Q (F0 m 646 ls []) := by
    intro x_K_646 x_c_646 x_t_646 x_g_646 x_q_646 x_n_646 x_N_646 v10_646 v11_646 v12_646 v13_646 v14_646 v15_646 hN_646 H locs ls hW hl h
    rw [f_L_grammar_J646] at h
    refine lv_iconst (v := 0) hx hb dL_grammar_646 (by decide) ?_
    exact J647 _ _ _ _ _ _ _ _ _ _ _ _ _ _ hN_646 H locs ls hW (lv_sub hl [0, 1, 2, 3, 4, 5, 6, 7, 8, 9] rfl) h
  have J642 : ∀ (x_K_642 : Nat → Ob) (x_c_642 : Nat → Int32) (x_t_642 : Nat → Int32) (x_g_642 : Nat → Int32) (x_q_642 : Nat → Int32) (x_n_642 : Nat → Int32) (x_N_642 : Nat) (v10_642 : Int32) (v11_642 : Int32) (v12_642 : Int32) (v13_642 : Int32) (v14_642 : Int32) (v15_642 : Int32) (hN_642 : x_N_642 ≤ 1) (H : Heap) (locs : List Loc) (ls : Array Slot), Wd D A s.heap (oA T 12 a_c x_c_642 ++ (oA T 20 a_t x_t_642 ++ (oA T 20 a_g x_g_642 ++ (oA T 60 a_q x_q_642 ++ (oA T 5 a_n x_n_642 ++ (oc_X10 T (ad 0) (bb ad) (x_K_642 0) ++ (wkL T ad x_K_642 L18 ++ Z))))))) H locs → lv_has ls 18 [(0, .ref (ad 0 0)), (3, .ref a_c), (6, .ref a_q), (7, .ref a_n), (10, .int v10_642), (11, .int v11_642), (12, .int v12_642), (13, .int v13_642), (14, .int v14_642), (15, .int v15_642)] → f_L_grammar_J642 x_K_642 x_c_642 x_t_642 x_g_642 x_q_642 x_n_642 x_N_642 v10_642 v11_642 v12_642 v13_642 v14_642 v15_642 = some (r, x_K9, x_c9, x_t9, x_g9, x_q9, x_n9) → W p l e (rmL 8 1) s m args below meth c H locs x_N_642 (16 * x_N_642) Q (F0 m 642 ls []) := by
    intro x_K_642 x_c_642 x_t_642 x_g_642 x_q_642 x_n_642 x_N_642 v10_642 v11_642 v12_642 v13_642 v14_642 v15_642 hN_642 H locs ls hW hl h
    rw [f_L_grammar_J642] at h
    refine lv_iconst (v := 1) hx hb dL_grammar_642 (by decide) ?_
    refine lv_goto (tgt := 647) hx hb dL_grammar_643 (by decide) ?_
    exact J647 _ _ _ _ _ _ _ _ _ _ _ _ _ _ hN_642 H locs ls hW (lv_sub hl [0, 1, 2, 3, 4, 5, 6, 7, 8, 9] rfl) h
  have J630 : ∀ (x_K_630 : Nat → Ob) (x_c_630 : Nat → Int32) (x_t_630 : Nat → Int32) (x_g_630 : Nat → Int32) (x_q_630 : Nat → Int32) (x_n_630 : Nat → Int32) (x_N_630 : Nat) (v10_630 : Int32) (v11_630 : Int32) (v12_630 : Int32) (v13_630 : Int32) (v14_630 : Int32) (v15_630 : Int32) (hN_630 : x_N_630 ≤ 1) (H : Heap) (locs : List Loc) (ls : Array Slot), Wd D A s.heap (oA T 12 a_c x_c_630 ++ (oA T 20 a_t x_t_630 ++ (oA T 20 a_g x_g_630 ++ (oA T 60 a_q x_q_630 ++ (oA T 5 a_n x_n_630 ++ (oc_X10 T (ad 0) (bb ad) (x_K_630 0) ++ (wkL T ad x_K_630 L18 ++ Z))))))) H locs → lv_has ls 18 [(0, .ref (ad 0 0)), (3, .ref a_c), (6, .ref a_q), (7, .ref a_n), (10, .int v10_630), (11, .int v11_630), (12, .int v12_630), (13, .int v13_630), (14, .int v14_630), (15, .int v15_630)] → f_L_grammar_J630 x_K_630 x_c_630 x_t_630 x_g_630 x_q_630 x_n_630 x_N_630 v10_630 v11_630 v12_630 v13_630 v14_630 v15_630 = some (r, x_K9, x_c9, x_t9, x_g9, x_q9, x_n9) → W p l e (rmL 8 1) s m args below meth c H locs x_N_630 (16 * x_N_630) Q (F0 m 630 ls []) := by
    intro x_K_630 x_c_630 x_t_630 x_g_630 x_q_630 x_n_630 x_N_630 v10_630 v11_630 v12_630 v13_630 v14_630 v15_630 hN_630 H locs ls hW hl h
    rw [f_L_grammar_J630] at h
    refine lv_iload hx hb dL_grammar_630 (lv_at hl 7 rfl) ?_
    refine lv_iconst (v := 2) hx hb dL_grammar_632 (by decide) ?_
    refine lv_icmp_ge (tgt := 646) hx hb dL_grammar_633 (by decide) (fun c64 => ?_) (fun c64 => ?_)
    · replace h := ite_t c64 h
      exact J646 _ _ _ _ _ _ _ _ _ _ _ _ _ hN_630 H locs ls hW (lv_sub hl [0, 1, 2, 3, 4, 5, 6, 7, 8, 9] rfl) h
    · replace h := ite_f c64 h
      refine lv_iload hx hb dL_grammar_636 (lv_at hl 8 rfl) ?_
      refine lv_iconst (v := 2) hx hb dL_grammar_638 (by decide) ?_
      refine lv_icmp_ge (tgt := 646) hx hb dL_grammar_639 (by decide) (fun c65 => ?_) (fun c65 => ?_)
      · replace h := ite_t c65 h
        exact J646 _ _ _ _ _ _ _ _ _ _ _ _ _ hN_630 H locs ls hW (lv_sub hl [0, 1, 2, 3, 4, 5, 6, 7, 8, 9] rfl) h
      · replace h := ite_f c65 h
        exact J642 _ _ _ _ _ _ _ _ _ _ _ _ _ hN_630 H locs ls hW (lv_sub hl [0, 1, 2, 3, 4, 5, 6, 7, 8, 9] rfl) h
  have J604 : ∀ (x_K_604 : Nat → Ob) (x_c_604 : Nat → Int32) (x_t_604 : Nat → Int32) (x_g_604 : Nat → Int32) (x_q_604 : Nat → Int32) (x_n_604 : Nat → Int32) (x_N_604 : Nat) (v10_604 : Int32) (v11_604 : Int32) (v12_604 : Int32) (v13_604 : Int32) (v14_604 : Int32) (s0_604 : Int32) (hN_604 : x_N_604 ≤ 1) (H : Heap) (locs : List Loc) (ls : Array Slot), Wd D A s.heap (oA T 12 a_c x_c_604 ++ (oA T 20 a_t x_t_604 ++ (oA T 20 a_g x_g_604 ++ (oA T 60 a_q x_q_604 ++ (oA T 5 a_n x_n_604 ++ (oc_X10 T (ad 0) (bb ad) (x_K_604 0) ++ (wkL T ad x_K_604 L18 ++ Z))))))) H locs → lv_has ls 18 [(0, .ref (ad 0 0)), (3, .ref a_c), (5, .ref a_g), (6, .ref a_q), (7, .ref a_n), (10, .int v10_604), (11, .int v11_604), (12, .int v12_604), (13, .int v13_604), (14, .int v14_604)] → f_L_grammar_J604 x_K_604 x_c_604 x_t_604 x_g_604 x_q_604 x_n_604 x_N_604 v10_604 v11_604 v12_604 v13_604 v14_604 s0_604 = some (r, x_K9, x_c9, x_t9, x_g9, x_q9, x_n9) → W p l e (rmL 8 1) s m args below meth c H locs x_N_604 (16 * x_N_604) Q (F0 m 604 ls [.int s0_604]) := by
    intro x_K_604 x_c_604 x_t_604 x_g_604 x_q_604 x_n_604 x_N_604 v10_604 v11_604 v12_604 v13_604 v14_604 s0_604 hN_604 H locs ls hW hl h
    rw [f_L_grammar_J604] at h
    refine lv_istore (lv' := [(15, .int s0_604), (0, .ref (ad 0 0)), (3, .ref a_c), (5, .ref a_g), (6, .ref a_q), (7, .ref a_n), (10, .int v10_604), (11, .int v11_604), (12, .int v12_604), (13, .int v13_604), (14, .int v14_604)]) hx hb dL_grammar_604 hl (by decide) rfl (fun ls hl => ?_)
    refine lv_iload hx hb dL_grammar_606 (lv_at hl 9 rfl) ?_
    refine lv_iload hx hb dL_grammar_608 (lv_at hl 10 rfl) ?_
    refine lv_icmp_eq (tgt := 646) hx hb dL_grammar_610 (by decide) (fun c27 => ?_) (fun c27 => ?_)
    · replace h := ite_t c27 h
      exact J646 _ _ _ _ _ _ _ _ _ _ _ _ _ hN_604 H locs ls hW (lv_sub hl [1, 2, 4, 5, 6, 7, 8, 9, 10, 0] rfl) h
    · replace h := ite_f c27 h
      refine lv_iload hx hb dL_grammar_613 (lv_at hl 7 rfl) ?_
      refine lv_if_eq (tgt := 630) hx hb dL_grammar_615 (by decide) (fun c63 => ?_) (fun c63 => ?_)
      · replace h := ite_t c63 h
        exact J630 _ _ _ _ _ _ _ _ _ _ _ _ _ hN_604 H locs ls hW (lv_sub hl [1, 2, 4, 5, 6, 7, 8, 9, 10, 0] rfl) h
      · replace h := ite_f c63 h
        refine lv_aload hx hb dL_grammar_618 (lv_at hl 3 rfl) ?_
        refine lv_iconst (v := 4) hx hb dL_grammar_620 (by decide) ?_
        refine lv_iload hx hb dL_grammar_621 (lv_at hl 6 rfl) ?_
        refine lv_imul hx hb dL_grammar_623 ?_
        refine lv_iconst (v := 2) hx hb dL_grammar_624 (by decide) ?_
        refine lv_iadd hx hb dL_grammar_625 ?_
        obtain ⟨g66, h⟩ := grd_s h
        refine g_iald hx hb hK hW 2 rfl g66 dL_grammar_626 ?_
        refine lv_if_ge (tgt := 642) hx hb dL_grammar_627 (by decide) (fun c67 => ?_) (fun c67 => ?_)
        · replace h := ite_t c67 h
          exact J642 _ _ _ _ _ _ _ _ _ _ _ _ _ hN_604 H locs ls hW (lv_sub hl [1, 2, 4, 5, 6, 7, 8, 9, 10, 0] rfl) h
        · replace h := ite_f c67 h
          exact J630 _ _ _ _ _ _ _ _ _ _ _ _ _ hN_604 H locs ls hW (lv_sub hl [1, 2, 4, 5, 6, 7, 8, 9, 10, 0] rfl) h
  have J549 : ∀ (x_K_549 : Nat → Ob) (x_c_549 : Nat → Int32) (x_t_549 : Nat → Int32) (x_g_549 : Nat → Int32) (x_q_549 : Nat → Int32) (x_n_549 : Nat → Int32) (x_N_549 : Nat) (v2_549 : Int32) (v10_549 : Int32) (s0_549 : Int32) (hN_549 : x_N_549 ≤ 1) (H : Heap) (locs : List Loc) (ls : Array Slot), Wd D A s.heap (oA T 12 a_c x_c_549 ++ (oA T 20 a_t x_t_549 ++ (oA T 20 a_g x_g_549 ++ (oA T 60 a_q x_q_549 ++ (oA T 5 a_n x_n_549 ++ (oc_X10 T (ad 0) (bb ad) (x_K_549 0) ++ (wkL T ad x_K_549 L18 ++ Z))))))) H locs → lv_has ls 18 [(0, .ref (ad 0 0)), (2, .int v2_549), (3, .ref a_c), (5, .ref a_g), (6, .ref a_q), (7, .ref a_n), (10, .int v10_549)] → f_L_grammar_J549 x_K_549 x_c_549 x_t_549 x_g_549 x_q_549 x_n_549 x_N_549 v2_549 v10_549 s0_549 = some (r, x_K9, x_c9, x_t9, x_g9, x_q9, x_n9) → W p l e (rmL 8 1) s m args below meth c H locs x_N_549 (16 * x_N_549) Q (F0 m 549 ls [.int s0_549]) := by
    intro x_K_549 x_c_549 x_t_549 x_g_549 x_q_549 x_n_549 x_N_549 v2_549 v10_549 s0_549 hN_549 H locs ls hW hl h
    rw [f_L_grammar_J549] at h
    refine lv_istore (lv' := [(11, .int s0_549), (0, .ref (ad 0 0)), (2, .int v2_549), (3, .ref a_c), (5, .ref a_g), (6, .ref a_q), (7, .ref a_n), (10, .int v10_549)]) hx hb dL_grammar_549 hl (by decide) rfl (fun ls hl => ?_)
    refine lv_iload_n hx hb dL_grammar_551 rfl (lv_at hl 2 rfl) ?_
    refine lv_iconst (v := 3) hx hb dL_grammar_552 (by decide) ?_
    refine lv_ishr hx hb dL_grammar_553 ?_
    refine lv_iconst (v := 3) hx hb dL_grammar_554 (by decide) ?_
    obtain ⟨r16, q17, h⟩ := bnd1_s h
    refine cs_L_171 hx hb hml hown hts hK hN hE hC hA hW (c_L_some l D T A (oA T 12 a_c x_c_549 ++ (oA T 20 a_t x_t_549 ++ (oA T 20 a_g x_g_549 ++ (oA T 60 a_q x_q_549 ++ (oA T 5 a_n x_n_549 ++ (oc_X10 T (ad 0) (bb ad) (x_K_549 0) ++ (wkL T ad x_K_549 L18 ++ Z))))))) (v2_549 >>> ((3 : Int32) &&& 31)) 3 r16 q17) ⟨Nat.le_of_ble_eq_true rfl, Nat.le_of_ble_eq_true rfl⟩ hl.1 rfl (Nat.le_of_ble_eq_true rfl) dL_grammar_555 (hf0 hN_549) rfl (fun H locs hW => ?_)
    refine lv_istore (lv' := [(12, .int r16), (11, .int s0_549), (0, .ref (ad 0 0)), (2, .int v2_549), (3, .ref a_c), (5, .ref a_g), (6, .ref a_q), (7, .ref a_n), (10, .int v10_549)]) hx hb dL_grammar_558 hl (by decide) rfl (fun ls hl => ?_)
    refine lv_iload_n hx hb dL_grammar_560 rfl (lv_at hl 3 rfl) ?_
    refine lv_iconst (v := 4) hx hb dL_grammar_561 (by decide) ?_
    refine lv_ishr hx hb dL_grammar_562 ?_
    refine lv_iconst (v := 3) hx hb dL_grammar_563 (by decide) ?_
    obtain ⟨r18, q19, h⟩ := bnd1_s h
    refine cs_L_171 hx hb hml hown hts hK hN hE hC hA hW (c_L_some l D T A (oA T 12 a_c x_c_549 ++ (oA T 20 a_t x_t_549 ++ (oA T 20 a_g x_g_549 ++ (oA T 60 a_q x_q_549 ++ (oA T 5 a_n x_n_549 ++ (oc_X10 T (ad 0) (bb ad) (x_K_549 0) ++ (wkL T ad x_K_549 L18 ++ Z))))))) (v2_549 >>> ((4 : Int32) &&& 31)) 3 r18 q19) ⟨Nat.le_of_ble_eq_true rfl, Nat.le_of_ble_eq_true rfl⟩ hl.1 rfl (Nat.le_of_ble_eq_true rfl) dL_grammar_564 (hf0 hN_549) rfl (fun H locs hW => ?_)
    refine lv_istore (lv' := [(13, .int r18), (12, .int r16), (11, .int s0_549), (0, .ref (ad 0 0)), (2, .int v2_549), (3, .ref a_c), (5, .ref a_g), (6, .ref a_q), (7, .ref a_n), (10, .int v10_549)]) hx hb dL_grammar_567 hl (by decide) rfl (fun ls hl => ?_)
    refine lv_iload_n hx hb dL_grammar_569 rfl (lv_at hl 4 rfl) ?_
    refine lv_bipush (v := 6) hx hb dL_grammar_570 (by decide) ?_
    refine lv_ishr hx hb dL_grammar_572 ?_
    refine lv_iconst (v := 3) hx hb dL_grammar_573 (by decide) ?_
    obtain ⟨r20, q21, h⟩ := bnd1_s h
    refine cs_L_171 hx hb hml hown hts hK hN hE hC hA hW (c_L_some l D T A (oA T 12 a_c x_c_549 ++ (oA T 20 a_t x_t_549 ++ (oA T 20 a_g x_g_549 ++ (oA T 60 a_q x_q_549 ++ (oA T 5 a_n x_n_549 ++ (oc_X10 T (ad 0) (bb ad) (x_K_549 0) ++ (wkL T ad x_K_549 L18 ++ Z))))))) (v2_549 >>> ((6 : Int32) &&& 31)) 3 r20 q21) ⟨Nat.le_of_ble_eq_true rfl, Nat.le_of_ble_eq_true rfl⟩ hl.1 rfl (Nat.le_of_ble_eq_true rfl) dL_grammar_574 (hf0 hN_549) rfl (fun H locs hW => ?_)
    refine lv_istore (lv' := [(14, .int r20), (13, .int r18), (12, .int r16), (11, .int s0_549), (0, .ref (ad 0 0)), (2, .int v2_549), (3, .ref a_c), (5, .ref a_g), (6, .ref a_q), (7, .ref a_n), (10, .int v10_549)]) hx hb dL_grammar_577 hl (by decide) rfl (fun ls hl => ?_)
    refine lv_iload_n hx hb dL_grammar_579 rfl (lv_at hl 5 rfl) ?_
    refine lv_bipush (v := 7) hx hb dL_grammar_580 (by decide) ?_
    refine lv_ishr hx hb dL_grammar_582 ?_
    refine lv_iconst (v := 3) hx hb dL_grammar_583 (by decide) ?_
    obtain ⟨r22, q23, h⟩ := bnd1_s h
    refine cs_L_171 hx hb hml hown hts hK hN hE hC hA hW (c_L_some l D T A (oA T 12 a_c x_c_549 ++ (oA T 20 a_t x_t_549 ++ (oA T 20 a_g x_g_549 ++ (oA T 60 a_q x_q_549 ++ (oA T 5 a_n x_n_549 ++ (oc_X10 T (ad 0) (bb ad) (x_K_549 0) ++ (wkL T ad x_K_549 L18 ++ Z))))))) (v2_549 >>> ((7 : Int32) &&& 31)) 3 r22 q23) ⟨Nat.le_of_ble_eq_true rfl, Nat.le_of_ble_eq_true rfl⟩ hl.1 rfl (Nat.le_of_ble_eq_true rfl) dL_grammar_584 (hf0 hN_549) rfl (fun H locs hW => ?_)
    refine lv_if_ne (tgt := 594) hx hb dL_grammar_587 (by decide) (fun c24 => ?_) (fun c24 => ?_)
    · replace h := ite_f c24 h
      refine lv_iload_n hx hb dL_grammar_594 rfl (lv_at hl 5 rfl) ?_
      refine lv_iconst (v := 5) hx hb dL_grammar_595 (by decide) ?_
      refine lv_ishr hx hb dL_grammar_596 ?_
      refine lv_bipush (v := 20) hx hb dL_grammar_597 (by decide) ?_
      obtain ⟨r25, q26, h⟩ := bnd1_s h
      refine cs_L_171 hx hb hml hown hts hK hN hE hC hA hW (c_L_some l D T A (oA T 12 a_c x_c_549 ++ (oA T 20 a_t x_t_549 ++ (oA T 20 a_g x_g_549 ++ (oA T 60 a_q x_q_549 ++ (oA T 5 a_n x_n_549 ++ (oc_X10 T (ad 0) (bb ad) (x_K_549 0) ++ (wkL T ad x_K_549 L18 ++ Z))))))) (v2_549 >>> ((5 : Int32) &&& 31)) 20 r25 q26) ⟨Nat.le_of_ble_eq_true rfl, Nat.le_of_ble_eq_true rfl⟩ hl.1 rfl (Nat.le_of_ble_eq_true rfl) dL_grammar_599 (hf0 hN_549) rfl (fun H locs hW => ?_)
      refine lv_iconst (v := 1) hx hb dL_grammar_602 (by decide) ?_
      refine lv_iadd hx hb dL_grammar_603 ?_
      exact J604 _ _ _ _ _ _ _ _ _ _ _ _ _ hN_549 H locs ls hW (lv_sub hl [4, 6, 7, 8, 9, 10, 3, 2, 1, 0] rfl) h
    · replace h := ite_t c24 h
      refine lv_iconst (v := 0) hx hb dL_grammar_590 (by decide) ?_
      refine lv_goto (tgt := 604) hx hb dL_grammar_591 (by decide) ?_
      exact J604 _ _ _ _ _ _ _ _ _ _ _ _ _ hN_549 H locs ls hW (lv_sub hl [4, 6, 7, 8, 9, 10, 3, 2, 1, 0] rfl) h
  have J487 : ∀ (x_K_487 : Nat → Ob) (x_c_487 : Nat → Int32) (x_t_487 : Nat → Int32) (x_g_487 : Nat → Int32) (x_q_487 : Nat → Int32) (x_n_487 : Nat → Int32) (x_N_487 : Nat) (v10_487 : Int32) (v11_487 : Int32) (v12_487 : Int32) (v13_487 : Int32) (v14_487 : Int32) (hN_487 : x_N_487 ≤ 1) (H : Heap) (locs : List Loc) (ls : Array Slot), Wd D A s.heap (oA T 12 a_c x_c_487 ++ (oA T 20 a_t x_t_487 ++ (oA T 20 a_g x_g_487 ++ (oA T 60 a_q x_q_487 ++ (oA T 5 a_n x_n_487 ++ (oc_X10 T (ad 0) (bb ad) (x_K_487 0) ++ (wkL T ad x_K_487 L18 ++ Z))))))) H locs → lv_has ls 18 [(0, .ref (ad 0 0)), (3, .ref a_c), (10, .int v10_487), (11, .int v11_487), (12, .int v12_487), (13, .int v13_487), (14, .int v14_487)] → f_L_grammar_J487 x_K_487 x_c_487 x_t_487 x_g_487 x_q_487 x_n_487 x_N_487 v10_487 v11_487 v12_487 v13_487 v14_487 = some (r, x_K9, x_c9, x_t9, x_g9, x_q9, x_n9) → W p l e (rmL 8 1) s m args below meth c H locs x_N_487 (16 * x_N_487) Q (F0 m 487 ls []) := by
    intro x_K_487 x_c_487 x_t_487 x_g_487 x_q_487 x_n_487 x_N_487 v10_487 v11_487 v12_487 v13_487 v14_487 hN_487 H locs ls hW hl h
    rw [f_L_grammar_J487] at h
    refine lv_aload_n hx hb dL_grammar_487 rfl (lv_at hl 0 rfl) ?_
    refine lv_iconst (v := 2) hx hb dL_grammar_488 (by decide) ?_
    refine lv_iload hx hb dL_grammar_489 (lv_at hl 2 rfl) ?_
    refine lv_iload hx hb dL_grammar_491 (lv_at hl 4 rfl) ?_
    refine lv_iload hx hb dL_grammar_493 (lv_at hl 3 rfl) ?_
    refine lv_iload hx hb dL_grammar_495 (lv_at hl 5 rfl) ?_
    replace hW := hW.perm pf6
    replace hW := hW.perm pf6
    obtain ⟨r89, x_K90, q91, h⟩ := bnd2_s h
    obtain ⟨gN92, h⟩ := grd_s h
    have gN92 := of_decide_eq_true gN92
    refine cs_L_186 hx hb hml hown hts hK hN hE hC hA hW (c_L_four l hfl D T A ad hok (oA T 12 a_c x_c_487 ++ (oA T 20 a_t x_t_487 ++ (oA T 20 a_g x_g_487 ++ (oA T 60 a_q x_q_487 ++ (oA T 5 a_n x_n_487 ++ Z))))) x_K_487 2 v10_487 v12_487 v11_487 v13_487 r89 x_K90 q91) ⟨Nat.le_of_ble_eq_true rfl, Nat.le_of_ble_eq_true rfl⟩ hl.1 rfl (Nat.le_of_ble_eq_true rfl) dL_grammar_497 (hfB gN92) rfl (fun H locs hW => ?_)
    replace hW := hW.perm pf1
    replace hW := hW.perm pf1
    replace hW := hW.perm pf6
    replace hW := hW.perm pf6
    replace hW := hW.perm pf6
    replace hW := hW.perm pf6
    replace hW := hW.perm pf6
    refine lv_iload hx hb dL_grammar_500 (lv_at hl 6 rfl) ?_
    refine lv_if_eq (tgt := 513) hx hb dL_grammar_502 (by decide) (fun c93 => ?_) (fun c93 => ?_)
    · replace h := ite_t c93 h
      refine lv_sipush (v := (-1002)) hx hb dL_grammar_513 (by decide) ?_
      refine lv_icmp_ne (tgt := 523) hx hb dL_grammar_516 (by decide) (fun c94 => ?_) (fun c94 => ?_)
      · replace h := ite_f c94 h
        refine lv_iconst (v := 0) hx hb dL_grammar_523 (by decide) ?_
        obtain ⟨rfl, rfl, rfl, rfl, rfl, rfl, rfl⟩ := ret7 h
        rw [hQ]
        refine W.widen (k := 1) (n := 16) gN92 (Nat.mul_le_mul_left 16 gN92) ?_
        exact g_retz hx hb hr hlk hW (by decide) dL_grammar_524
      · replace h := ite_t c94 h
        refine lv_iconst (v := 1) hx hb dL_grammar_519 (by decide) ?_
        refine lv_goto (tgt := 524) hx hb dL_grammar_520 (by decide) ?_
        obtain ⟨rfl, rfl, rfl, rfl, rfl, rfl, rfl⟩ := ret7 h
        rw [hQ]
        refine W.widen (k := 1) (n := 16) gN92 (Nat.mul_le_mul_left 16 gN92) ?_
        exact g_retz hx hb hr hlk hW (by decide) dL_grammar_524
    · replace h := ite_f c93 h
      refine lv_aload_n hx hb dL_grammar_505 rfl (lv_at hl 1 rfl) ?_
      refine lv_iconst (v := 2) hx hb dL_grammar_506 (by decide) ?_
      refine g_iald hx hb hK hW 0 rfl (by decide) dL_grammar_507 ?_
      refine lv_iconst (v := 1) hx hb dL_grammar_508 (by decide) ?_
      refine lv_isub hx hb dL_grammar_509 ?_
      refine lv_goto (tgt := 516) hx hb dL_grammar_510 (by decide) ?_
      refine lv_icmp_ne (tgt := 523) hx hb dL_grammar_516 (by decide) (fun c95 => ?_) (fun c95 => ?_)
      · replace h := ite_f c95 h
        refine lv_iconst (v := 0) hx hb dL_grammar_523 (by decide) ?_
        obtain ⟨rfl, rfl, rfl, rfl, rfl, rfl, rfl⟩ := ret7 h
        rw [hQ]
        refine W.widen (k := 1) (n := 16) gN92 (Nat.mul_le_mul_left 16 gN92) ?_
        exact g_retz hx hb hr hlk hW (by decide) dL_grammar_524
      · replace h := ite_t c95 h
        refine lv_iconst (v := 1) hx hb dL_grammar_519 (by decide) ?_
        refine lv_goto (tgt := 524) hx hb dL_grammar_520 (by decide) ?_
        obtain ⟨rfl, rfl, rfl, rfl, rfl, rfl, rfl⟩ := ret7 h
        rw [hQ]
        refine W.widen (k := 1) (n := 16) gN92 (Nat.mul_le_mul_left 16 gN92) ?_
        exact g_retz hx hb hr hlk hW (by decide) dL_grammar_524
  have J422 : ∀ (x_K_422 : Nat → Ob) (x_c_422 : Nat → Int32) (x_t_422 : Nat → Int32) (x_g_422 : Nat → Int32) (x_q_422 : Nat → Int32) (x_n_422 : Nat → Int32) (x_N_422 : Nat) (v10_422 : Int32) (v11_422 : Int32) (v12_422 : Int32) (v13_422 : Int32) (v14_422 : Int32) (hN_422 : x_N_422 ≤ 1) (H : Heap) (locs : List Loc) (ls : Array Slot), Wd D A s.heap (oA T 12 a_c x_c_422 ++ (oA T 20 a_t x_t_422 ++ (oA T 20 a_g x_g_422 ++ (oA T 60 a_q x_q_422 ++ (oA T 5 a_n x_n_422 ++ (oc_X10 T (ad 0) (bb ad) (x_K_422 0) ++ (wkL T ad x_K_422 L18 ++ Z))))))) H locs → lv_has ls 18 [(0, .ref (ad 0 0)), (3, .ref a_c), (5, .ref a_g), (10, .int v10_422), (11, .int v11_422), (12, .int v12_422), (13, .int v13_422), (14, .int v14_422)] → f_L_grammar_J422 x_K_422 x_c_422 x_t_422 x_g_422 x_q_422 x_n_422 x_N_422 v10_422 v11_422 v12_422 v13_422 v14_422 = some (r, x_K9, x_c9, x_t9, x_g9, x_q9, x_n9) → W p l e (rmL 8 1) s m args below meth c H locs x_N_422 (16 * x_N_422) Q (F0 m 422 ls []) := by
    intro x_K_422 x_c_422 x_t_422 x_g_422 x_q_422 x_n_422 x_N_422 v10_422 v11_422 v12_422 v13_422 v14_422 hN_422 H locs ls hW hl h
    rw [f_L_grammar_J422] at h
    refine lv_iload hx hb dL_grammar_422 (lv_at hl 7 rfl) ?_
    refine lv_if_eq (tgt := 487) hx hb dL_grammar_424 (by decide) (fun c88 => ?_) (fun c88 => ?_)
    · replace h := ite_t c88 h
      exact J487 _ _ _ _ _ _ _ _ _ _ _ _ hN_422 H locs ls hW (lv_sub hl [0, 1, 3, 4, 5, 6, 7] rfl) h
    · replace h := ite_f c88 h
      refine lv_aload hx hb dL_grammar_427 (lv_at hl 2 rfl) ?_
      refine lv_iconst (v := 4) hx hb dL_grammar_429 (by decide) ?_
      refine lv_aload_n hx hb dL_grammar_430 rfl (lv_at hl 1 rfl) ?_
      refine lv_iconst (v := 2) hx hb dL_grammar_431 (by decide) ?_
      refine g_iald hx hb hK hW 0 rfl (by decide) dL_grammar_432 ?_
      refine lv_imul hx hb dL_grammar_433 ?_
      refine lv_iload hx hb dL_grammar_434 (lv_at hl 3 rfl) ?_
      obtain ⟨g96, h⟩ := grd_s h
      refine g_iast (ws9 := oA T 12 a_c x_c_422 ++ (oA T 20 a_t x_t_422 ++ (oA T 20 a_g (upd x_g_422 (4 * (x_c_422 (2 : Int32).toNatClampNeg)).toNatClampNeg v10_422) ++ (oA T 60 a_q x_q_422 ++ (oA T 5 a_n x_n_422 ++ (oc_X10 T (ad 0) (bb ad) (x_K_422 0) ++ (wkL T ad x_K_422 L18 ++ Z))))))) hx hb hK hW 2 rfl g96 rfl dL_grammar_436 (fun H locs hW => ?_)
      obtain ⟨x_g97, ex_g97⟩ : ∃ y : Nat → Int32, y = upd x_g_422 (4 * (x_c_422 (2 : Int32).toNatClampNeg)).toNatClampNeg v10_422 := ⟨_, rfl⟩
      rw [← ex_g97] at hW
      replace h := lb_at ex_g97 h
      refine lv_aload hx hb dL_grammar_437 (lv_at hl 2 rfl) ?_
      refine lv_iconst (v := 4) hx hb dL_grammar_439 (by decide) ?_
      refine lv_aload_n hx hb dL_grammar_440 rfl (lv_at hl 1 rfl) ?_
      refine lv_iconst (v := 2) hx hb dL_grammar_441 (by decide) ?_
      refine g_iald hx hb hK hW 0 rfl (by decide) dL_grammar_442 ?_
      refine lv_imul hx hb dL_grammar_443 ?_
      refine lv_iconst (v := 1) hx hb dL_grammar_444 (by decide) ?_
      refine lv_iadd hx hb dL_grammar_445 ?_
      refine lv_iload hx hb dL_grammar_446 (lv_at hl 5 rfl) ?_
      obtain ⟨g98, h⟩ := grd_s h
      refine g_iast (ws9 := oA T 12 a_c x_c_422 ++ (oA T 20 a_t x_t_422 ++ (oA T 20 a_g (upd x_g97 ((4 * (x_c_422 (2 : Int32).toNatClampNeg)) + 1).toNatClampNeg v12_422) ++ (oA T 60 a_q x_q_422 ++ (oA T 5 a_n x_n_422 ++ (oc_X10 T (ad 0) (bb ad) (x_K_422 0) ++ (wkL T ad x_K_422 L18 ++ Z))))))) hx hb hK hW 2 rfl g98 rfl dL_grammar_448 (fun H locs hW => ?_)
      obtain ⟨x_g99, ex_g99⟩ : ∃ y : Nat → Int32, y = upd x_g97 ((4 * (x_c_422 (2 : Int32).toNatClampNeg)) + 1).toNatClampNeg v12_422 := ⟨_, rfl⟩
      rw [← ex_g99] at hW
      replace h := lb_at ex_g99 h
      refine lv_aload hx hb dL_grammar_449 (lv_at hl 2 rfl) ?_
      refine lv_iconst (v := 4) hx hb dL_grammar_451 (by decide) ?_
      refine lv_aload_n hx hb dL_grammar_452 rfl (lv_at hl 1 rfl) ?_
      refine lv_iconst (v := 2) hx hb dL_grammar_453 (by decide) ?_
      refine g_iald hx hb hK hW 0 rfl (by decide) dL_grammar_454 ?_
      refine lv_imul hx hb dL_grammar_455 ?_
      refine lv_iconst (v := 2) hx hb dL_grammar_456 (by decide) ?_
      refine lv_iadd hx hb dL_grammar_457 ?_
      refine lv_iload hx hb dL_grammar_458 (lv_at hl 4 rfl) ?_
      obtain ⟨g100, h⟩ := grd_s h
      refine g_iast (ws9 := oA T 12 a_c x_c_422 ++ (oA T 20 a_t x_t_422 ++ (oA T 20 a_g (upd x_g99 ((4 * (x_c_422 (2 : Int32).toNatClampNeg)) + 2).toNatClampNeg v11_422) ++ (oA T 60 a_q x_q_422 ++ (oA T 5 a_n x_n_422 ++ (oc_X10 T (ad 0) (bb ad) (x_K_422 0) ++ (wkL T ad x_K_422 L18 ++ Z))))))) hx hb hK hW 2 rfl g100 rfl dL_grammar_460 (fun H locs hW => ?_)
      obtain ⟨x_g101, ex_g101⟩ : ∃ y : Nat → Int32, y = upd x_g99 ((4 * (x_c_422 (2 : Int32).toNatClampNeg)) + 2).toNatClampNeg v11_422 := ⟨_, rfl⟩
      rw [← ex_g101] at hW
      replace h := lb_at ex_g101 h
      refine lv_aload hx hb dL_grammar_461 (lv_at hl 2 rfl) ?_
      refine lv_iconst (v := 4) hx hb dL_grammar_463 (by decide) ?_
      refine lv_aload_n hx hb dL_grammar_464 rfl (lv_at hl 1 rfl) ?_
      refine lv_iconst (v := 2) hx hb dL_grammar_465 (by decide) ?_
      refine g_iald hx hb hK hW 0 rfl (by decide) dL_grammar_466 ?_
      refine lv_imul hx hb dL_grammar_467 ?_
      refine lv_iconst (v := 3) hx hb dL_grammar_468 (by decide) ?_
      refine lv_iadd hx hb dL_grammar_469 ?_
      refine lv_iload hx hb dL_grammar_470 (lv_at hl 6 rfl) ?_
      obtain ⟨g102, h⟩ := grd_s h
      refine g_iast (ws9 := oA T 12 a_c x_c_422 ++ (oA T 20 a_t x_t_422 ++ (oA T 20 a_g (upd x_g101 ((4 * (x_c_422 (2 : Int32).toNatClampNeg)) + 3).toNatClampNeg v13_422) ++ (oA T 60 a_q x_q_422 ++ (oA T 5 a_n x_n_422 ++ (oc_X10 T (ad 0) (bb ad) (x_K_422 0) ++ (wkL T ad x_K_422 L18 ++ Z))))))) hx hb hK hW 2 rfl g102 rfl dL_grammar_472 (fun H locs hW => ?_)
      obtain ⟨x_g103, ex_g103⟩ : ∃ y : Nat → Int32, y = upd x_g101 ((4 * (x_c_422 (2 : Int32).toNatClampNeg)) + 3).toNatClampNeg v13_422 := ⟨_, rfl⟩
      rw [← ex_g103] at hW
      replace h := lb_at ex_g103 h
      refine lv_aload_n hx hb dL_grammar_473 rfl (lv_at hl 1 rfl) ?_
      refine lv_iconst (v := 2) hx hb dL_grammar_474 (by decide) ?_
      refine lv_dup2_11 hx hb dL_grammar_475 rfl rfl ?_
      refine g_iald hx hb hK hW 0 rfl (by decide) dL_grammar_476 ?_
      refine lv_iconst (v := 1) hx hb dL_grammar_477 (by decide) ?_
      refine lv_iadd hx hb dL_grammar_478 ?_
      refine g_iast (ws9 := oA T 12 a_c (upd x_c_422 (2 : Int32).toNatClampNeg ((x_c_422 (2 : Int32).toNatClampNeg) + 1)) ++ (oA T 20 a_t x_t_422 ++ (oA T 20 a_g x_g103 ++ (oA T 60 a_q x_q_422 ++ (oA T 5 a_n x_n_422 ++ (oc_X10 T (ad 0) (bb ad) (x_K_422 0) ++ (wkL T ad x_K_422 L18 ++ Z))))))) hx hb hK hW 0 rfl (by decide) rfl dL_grammar_479 (fun H locs hW => ?_)
      obtain ⟨x_c104, ex_c104⟩ : ∃ y : Nat → Int32, y = upd x_c_422 (2 : Int32).toNatClampNeg ((x_c_422 (2 : Int32).toNatClampNeg) + 1) := ⟨_, rfl⟩
      rw [← ex_c104] at hW
      replace h := lb_at ex_c104 h
      refine lv_aload_n hx hb dL_grammar_480 rfl (lv_at hl 1 rfl) ?_
      refine lv_iconst (v := 4) hx hb dL_grammar_481 (by decide) ?_
      refine lv_dup2_11 hx hb dL_grammar_482 rfl rfl ?_
      refine g_iald hx hb hK hW 0 rfl (by decide) dL_grammar_483 ?_
      refine lv_iconst (v := 1) hx hb dL_grammar_484 (by decide) ?_
      refine lv_iadd hx hb dL_grammar_485 ?_
      refine g_iast (ws9 := oA T 12 a_c (upd x_c104 (4 : Int32).toNatClampNeg ((x_c104 (4 : Int32).toNatClampNeg) + 1)) ++ (oA T 20 a_t x_t_422 ++ (oA T 20 a_g x_g103 ++ (oA T 60 a_q x_q_422 ++ (oA T 5 a_n x_n_422 ++ (oc_X10 T (ad 0) (bb ad) (x_K_422 0) ++ (wkL T ad x_K_422 L18 ++ Z))))))) hx hb hK hW 0 rfl (by decide) rfl dL_grammar_486 (fun H locs hW => ?_)
      obtain ⟨x_c105, ex_c105⟩ : ∃ y : Nat → Int32, y = upd x_c104 (4 : Int32).toNatClampNeg ((x_c104 (4 : Int32).toNatClampNeg) + 1) := ⟨_, rfl⟩
      rw [← ex_c105] at hW
      replace h := lb_at ex_c105 h
      exact J487 _ _ _ _ _ _ _ _ _ _ _ _ hN_422 H locs ls hW (lv_sub hl [0, 1, 3, 4, 5, 6, 7] rfl) h
  have J406 : ∀ (x_K_406 : Nat → Ob) (x_c_406 : Nat → Int32) (x_t_406 : Nat → Int32) (x_g_406 : Nat → Int32) (x_q_406 : Nat → Int32) (x_n_406 : Nat → Int32) (x_N_406 : Nat) (v10_406 : Int32) (v11_406 : Int32) (v12_406 : Int32) (v13_406 : Int32) (s0_406 : Int32) (hN_406 : x_N_406 ≤ 1) (H : Heap) (locs : List Loc) (ls : Array Slot), Wd D A s.heap (oA T 12 a_c x_c_406 ++ (oA T 20 a_t x_t_406 ++ (oA T 20 a_g x_g_406 ++ (oA T 60 a_q x_q_406 ++ (oA T 5 a_n x_n_406 ++ (oc_X10 T (ad 0) (bb ad) (x_K_406 0) ++ (wkL T ad x_K_406 L18 ++ Z))))))) H locs → lv_has ls 18 [(0, .ref (ad 0 0)), (3, .ref a_c), (5, .ref a_g), (10, .int v10_406), (11, .int v11_406), (12, .int v12_406), (13, .int v13_406)] → f_L_grammar_J406 x_K_406 x_c_406 x_t_406 x_g_406 x_q_406 x_n_406 x_N_406 v10_406 v11_406 v12_406 v13_406 s0_406 = some (r, x_K9, x_c9, x_t9, x_g9, x_q9, x_n9) → W p l e (rmL 8 1) s m args below meth c H locs x_N_406 (16 * x_N_406) Q (F0 m 406 ls [.int s0_406]) := by
    intro x_K_406 x_c_406 x_t_406 x_g_406 x_q_406 x_n_406 x_N_406 v10_406 v11_406 v12_406 v13_406 s0_406 hN_406 H locs ls hW hl h
    rw [f_L_grammar_J406] at h
    refine lv_istore (lv' := [(14, .int s0_406), (0, .ref (ad 0 0)), (3, .ref a_c), (5, .ref a_g), (10, .int v10_406), (11, .int v11_406), (12, .int v12_406), (13, .int v13_406)]) hx hb dL_grammar_406 hl (by decide) rfl (fun ls hl => ?_)
    refine lv_iload hx hb dL_grammar_408 (lv_at hl 0 rfl) ?_
    refine lv_if_eq (tgt := 422) hx hb dL_grammar_410 (by decide) (fun c87 => ?_) (fun c87 => ?_)
    · replace h := ite_t c87 h
      exact J422 _ _ _ _ _ _ _ _ _ _ _ _ hN_406 H locs ls hW (lv_sub hl [1, 2, 3, 4, 5, 6, 7, 0] rfl) h
    · replace h := ite_f c87 h
      refine lv_aload_n hx hb dL_grammar_413 rfl (lv_at hl 2 rfl) ?_
      refine lv_iconst (v := 2) hx hb dL_grammar_414 (by decide) ?_
      refine g_iald hx hb hK hW 0 rfl (by decide) dL_grammar_415 ?_
      refine lv_iconst (v := 5) hx hb dL_grammar_416 (by decide) ?_
      refine lv_icmp_ne (tgt := 422) hx hb dL_grammar_417 (by decide) (fun c106 => ?_) (fun c106 => ?_)
      · replace h := ite_f c106 h
        exact J422 _ _ _ _ _ _ _ _ _ _ _ _ hN_406 H locs ls hW (lv_sub hl [1, 2, 3, 4, 5, 6, 7, 0] rfl) h
      · replace h := ite_t c106 h
        refine lv_iconst (v := 1) hx hb dL_grammar_420 (by decide) ?_
        obtain ⟨rfl, rfl, rfl, rfl, rfl, rfl, rfl⟩ := ret7 h
        rw [hQ]
        refine W.widen (k := 1) (n := 16) hN_406 (Nat.mul_le_mul_left 16 hN_406) ?_
        exact g_retz hx hb hr hlk hW (by decide) dL_grammar_421
  have J401 : ∀ (x_K_401 : Nat → Ob) (x_c_401 : Nat → Int32) (x_t_401 : Nat → Int32) (x_g_401 : Nat → Int32) (x_q_401 : Nat → Int32) (x_n_401 : Nat → Int32) (x_N_401 : Nat) (v10_401 : Int32) (v11_401 : Int32) (v12_401 : Int32) (v13_401 : Int32) (hN_401 : x_N_401 ≤ 1) (H : Heap) (locs : List Loc) (ls : Array Slot), Wd D A s.heap (oA T 12 a_c x_c_401 ++ (oA T 20 a_t x_t_401 ++ (oA T 20 a_g x_g_401 ++ (oA T 60 a_q x_q_401 ++ (oA T 5 a_n x_n_401 ++ (oc_X10 T (ad 0) (bb ad) (x_K_401 0) ++ (wkL T ad x_K_401 L18 ++ Z))))))) H locs → lv_has ls 18 [(0, .ref (ad 0 0)), (3, .ref a_c), (5, .ref a_g), (10, .int v10_401), (11, .int v11_401), (12, .int v12_401), (13, .int v13_401)] → f_L_grammar_J401 x_K_401 x_c_401 x_t_401 x_g_401 x_q_401 x_n_401 x_N_401 v10_401 v11_401 v12_401 v13_401 = some (r, x_K9, x_c9, x_t9, x_g9, x_q9, x_n9) → W p l e (rmL 8 1) s m args below meth c H locs x_N_401 (16 * x_N_401) Q (F0 m 401 ls []) := by
    intro x_K_401 x_c_401 x_t_401 x_g_401 x_q_401 x_n_401 x_N_401 v10_401 v11_401 v12_401 v13_401 hN_401 H locs ls hW hl h
    rw [f_L_grammar_J401] at h
    refine lv_iconst (v := 1) hx hb dL_grammar_401 (by decide) ?_
    refine lv_goto (tgt := 406) hx hb dL_grammar_402 (by decide) ?_
    exact J406 _ _ _ _ _ _ _ _ _ _ _ _ hN_401 H locs ls hW (lv_sub hl [0, 1, 2, 3, 4, 5, 6] rfl) h
  have J387 : ∀ (x_K_387 : Nat → Ob) (x_c_387 : Nat → Int32) (x_t_387 : Nat → Int32) (x_g_387 : Nat → Int32) (x_q_387 : Nat → Int32) (x_n_387 : Nat → Int32) (x_N_387 : Nat) (v10_387 : Int32) (v11_387 : Int32) (v12_387 : Int32) (s0_387 : Int32) (hN_387 : x_N_387 ≤ 1) (H : Heap) (locs : List Loc) (ls : Array Slot), Wd D A s.heap (oA T 12 a_c x_c_387 ++ (oA T 20 a_t x_t_387 ++ (oA T 20 a_g x_g_387 ++ (oA T 60 a_q x_q_387 ++ (oA T 5 a_n x_n_387 ++ (oc_X10 T (ad 0) (bb ad) (x_K_387 0) ++ (wkL T ad x_K_387 L18 ++ Z))))))) H locs → lv_has ls 18 [(0, .ref (ad 0 0)), (3, .ref a_c), (5, .ref a_g), (10, .int v10_387), (11, .int v11_387), (12, .int v12_387)] → f_L_grammar_J387 x_K_387 x_c_387 x_t_387 x_g_387 x_q_387 x_n_387 x_N_387 v10_387 v11_387 v12_387 s0_387 = some (r, x_K9, x_c9, x_t9, x_g9, x_q9, x_n9) → W p l e (rmL 8 1) s m args below meth c H locs x_N_387 (16 * x_N_387) Q (F0 m 387 ls [.int s0_387]) := by
    intro x_K_387 x_c_387 x_t_387 x_g_387 x_q_387 x_n_387 x_N_387 v10_387 v11_387 v12_387 s0_387 hN_387 H locs ls hW hl h
    rw [f_L_grammar_J387] at h
    refine lv_istore (lv' := [(13, .int s0_387), (0, .ref (ad 0 0)), (3, .ref a_c), (5, .ref a_g), (10, .int v10_387), (11, .int v11_387), (12, .int v12_387)]) hx hb dL_grammar_387 hl (by decide) rfl (fun ls hl => ?_)
    refine lv_iload hx hb dL_grammar_389 (lv_at hl 5 rfl) ?_
    refine lv_if_ge (tgt := 401) hx hb dL_grammar_391 (by decide) (fun c86 => ?_) (fun c86 => ?_)
    · replace h := ite_t c86 h
      exact J401 _ _ _ _ _ _ _ _ _ _ _ hN_387 H locs ls hW (lv_sub hl [1, 2, 3, 4, 5, 6, 0] rfl) h
    · replace h := ite_f c86 h
      refine lv_iload hx hb dL_grammar_394 (lv_at hl 4 rfl) ?_
      refine lv_iload hx hb dL_grammar_396 (lv_at hl 6 rfl) ?_
      refine lv_icmp_le (tgt := 405) hx hb dL_grammar_398 (by decide) (fun c107 => ?_) (fun c107 => ?_)
      · replace h := ite_t c107 h
        refine lv_iconst (v := 0) hx hb dL_grammar_405 (by decide) ?_
        exact J406 _ _ _ _ _ _ _ _ _ _ _ _ hN_387 H locs ls hW (lv_sub hl [1, 2, 3, 4, 5, 6, 0] rfl) h
      · replace h := ite_f c107 h
        exact J401 _ _ _ _ _ _ _ _ _ _ _ hN_387 H locs ls hW (lv_sub hl [1, 2, 3, 4, 5, 6, 0] rfl) h
  have J366 : ∀ (x_K_366 : Nat → Ob) (x_c_366 : Nat → Int32) (x_t_366 : Nat → Int32) (x_g_366 : Nat → Int32) (x_q_366 : Nat → Int32) (x_n_366 : Nat → Int32) (x_N_366 : Nat) (v2_366 : Int32) (v10_366 : Int32) (v11_366 : Int32) (s0_366 : Int32) (hN_366 : x_N_366 ≤ 1) (H : Heap) (locs : List Loc) (ls : Array Slot), Wd D A s.heap (oA T 12 a_c x_c_366 ++ (oA T 20 a_t x_t_366 ++ (oA T 20 a_g x_g_366 ++ (oA T 60 a_q x_q_366 ++ (oA T 5 a_n x_n_366 ++ (oc_X10 T (ad 0) (bb ad) (x_K_366 0) ++ (wkL T ad x_K_366 L18 ++ Z))))))) H locs → lv_has ls 18 [(0, .ref (ad 0 0)), (2, .int v2_366), (3, .ref a_c), (5, .ref a_g), (10, .int v10_366), (11, .int v11_366)] → f_L_grammar_J366 x_K_366 x_c_366 x_t_366 x_g_366 x_q_366 x_n_366 x_N_366 v2_366 v10_366 v11_366 s0_366 = some (r, x_K9, x_c9, x_t9, x_g9, x_q9, x_n9) → W p l e (rmL 8 1) s m args below meth c H locs x_N_366 (16 * x_N_366) Q (F0 m 366 ls [.int s0_366]) := by
    intro x_K_366 x_c_366 x_t_366 x_g_366 x_q_366 x_n_366 x_N_366 v2_366 v10_366 v11_366 s0_366 hN_366 H locs ls hW hl h
    rw [f_L_grammar_J366] at h
    refine lv_istore (lv' := [(12, .int s0_366), (0, .ref (ad 0 0)), (2, .int v2_366), (3, .ref a_c), (5, .ref a_g), (10, .int v10_366), (11, .int v11_366)]) hx hb dL_grammar_366 hl (by decide) rfl (fun ls hl => ?_)
    refine lv_iload hx hb dL_grammar_368 (lv_at hl 6 rfl) ?_
    refine lv_if_ge (tgt := 377) hx hb dL_grammar_370 (by decide) (fun c83 => ?_) (fun c83 => ?_)
    · replace h := ite_t c83 h
      refine lv_iconst (v := 1) hx hb dL_grammar_377 (by decide) ?_
      refine lv_iload_n hx hb dL_grammar_378 rfl (lv_at hl 2 rfl) ?_
      refine lv_bipush (v := 6) hx hb dL_grammar_379 (by decide) ?_
      refine lv_ishr hx hb dL_grammar_381 ?_
      refine lv_iconst (v := 2) hx hb dL_grammar_382 (by decide) ?_
      obtain ⟨r84, q85, h⟩ := bnd1_s h
      refine cs_L_171 hx hb hml hown hts hK hN hE hC hA hW (c_L_some l D T A (oA T 12 a_c x_c_366 ++ (oA T 20 a_t x_t_366 ++ (oA T 20 a_g x_g_366 ++ (oA T 60 a_q x_q_366 ++ (oA T 5 a_n x_n_366 ++ (oc_X10 T (ad 0) (bb ad) (x_K_366 0) ++ (wkL T ad x_K_366 L18 ++ Z))))))) (v2_366 >>> ((6 : Int32) &&& 31)) 2 r84 q85) ⟨Nat.le_of_ble_eq_true rfl, Nat.le_of_ble_eq_true rfl⟩ hl.1 rfl (Nat.le_of_ble_eq_true rfl) dL_grammar_383 (hf0 hN_366) rfl (fun H locs hW => ?_)
      refine lv_iadd hx hb dL_grammar_386 ?_
      exact J387 _ _ _ _ _ _ _ _ _ _ _ hN_366 H locs ls hW (lv_sub hl [1, 3, 4, 5, 6, 0] rfl) h
    · replace h := ite_f c83 h
      refine lv_iconst (v := 1) hx hb dL_grammar_373 (by decide) ?_
      refine lv_goto (tgt := 387) hx hb dL_grammar_374 (by decide) ?_
      exact J387 _ _ _ _ _ _ _ _ _ _ _ hN_366 H locs ls hW (lv_sub hl [1, 3, 4, 5, 6, 0] rfl) h
  have J340 : ∀ (x_K_340 : Nat → Ob) (x_c_340 : Nat → Int32) (x_t_340 : Nat → Int32) (x_g_340 : Nat → Int32) (x_q_340 : Nat → Int32) (x_n_340 : Nat → Int32) (x_N_340 : Nat) (v2_340 : Int32) (v8_340 : Int32) (v10_340 : Int32) (s0_340 : Int32) (hN_340 : x_N_340 ≤ 1) (H : Heap) (locs : List Loc) (ls : Array Slot), Wd D A s.heap (oA T 12 a_c x_c_340 ++ (oA T 20 a_t x_t_340 ++ (oA T 20 a_g x_g_340 ++ (oA T 60 a_q x_q_340 ++ (oA T 5 a_n x_n_340 ++ (oc_X10 T (ad 0) (bb ad) (x_K_340 0) ++ (wkL T ad x_K_340 L18 ++ Z))))))) H locs → lv_has ls 18 [(0, .ref (ad 0 0)), (2, .int v2_340), (3, .ref a_c), (5, .ref a_g), (8, .int v8_340), (10, .int v10_340)] → f_L_grammar_J340 x_K_340 x_c_340 x_t_340 x_g_340 x_q_340 x_n_340 x_N_340 v2_340 v8_340 v10_340 s0_340 = some (r, x_K9, x_c9, x_t9, x_g9, x_q9, x_n9) → W p l e (rmL 8 1) s m args below meth c H locs x_N_340 (16 * x_N_340) Q (F0 m 340 ls [.int s0_340]) := by
    intro x_K_340 x_c_340 x_t_340 x_g_340 x_q_340 x_n_340 x_N_340 v2_340 v8_340 v10_340 s0_340 hN_340 H locs ls hW hl h
    rw [f_L_grammar_J340] at h
    refine lv_istore (lv' := [(11, .int s0_340), (0, .ref (ad 0 0)), (2, .int v2_340), (3, .ref a_c), (5, .ref a_g), (8, .int v8_340), (10, .int v10_340)]) hx hb dL_grammar_340 hl (by decide) rfl (fun ls hl => ?_)
    refine lv_iload_n hx hb dL_grammar_342 rfl (lv_at hl 2 rfl) ?_
    refine lv_iconst (v := 4) hx hb dL_grammar_343 (by decide) ?_
    refine lv_ishr hx hb dL_grammar_344 ?_
    refine lv_iconst (v := 2) hx hb dL_grammar_345 (by decide) ?_
    obtain ⟨r78, q79, h⟩ := bnd1_s h
    refine cs_L_171 hx hb hml hown hts hK hN hE hC hA hW (c_L_some l D T A (oA T 12 a_c x_c_340 ++ (oA T 20 a_t x_t_340 ++ (oA T 20 a_g x_g_340 ++ (oA T 60 a_q x_q_340 ++ (oA T 5 a_n x_n_340 ++ (oc_X10 T (ad 0) (bb ad) (x_K_340 0) ++ (wkL T ad x_K_340 L18 ++ Z))))))) (v2_340 >>> ((4 : Int32) &&& 31)) 2 r78 q79) ⟨Nat.le_of_ble_eq_true rfl, Nat.le_of_ble_eq_true rfl⟩ hl.1 rfl (Nat.le_of_ble_eq_true rfl) dL_grammar_346 (hf0 hN_340) rfl (fun H locs hW => ?_)
    refine lv_if_ne (tgt := 357) hx hb dL_grammar_349 (by decide) (fun c80 => ?_) (fun c80 => ?_)
    · replace h := ite_f c80 h
      refine lv_iconst (v := 4) hx hb dL_grammar_357 (by decide) ?_
      refine lv_iload_n hx hb dL_grammar_358 rfl (lv_at hl 2 rfl) ?_
      refine lv_iconst (v := 2) hx hb dL_grammar_359 (by decide) ?_
      refine lv_ishr hx hb dL_grammar_360 ?_
      refine lv_iconst (v := 4) hx hb dL_grammar_361 (by decide) ?_
      obtain ⟨r81, q82, h⟩ := bnd1_s h
      refine cs_L_171 hx hb hml hown hts hK hN hE hC hA hW (c_L_some l D T A (oA T 12 a_c x_c_340 ++ (oA T 20 a_t x_t_340 ++ (oA T 20 a_g x_g_340 ++ (oA T 60 a_q x_q_340 ++ (oA T 5 a_n x_n_340 ++ (oc_X10 T (ad 0) (bb ad) (x_K_340 0) ++ (wkL T ad x_K_340 L18 ++ Z))))))) (v2_340 >>> ((2 : Int32) &&& 31)) 4 r81 q82) ⟨Nat.le_of_ble_eq_true rfl, Nat.le_of_ble_eq_true rfl⟩ hl.1 rfl (Nat.le_of_ble_eq_true rfl) dL_grammar_362 (hf0 hN_340) rfl (fun H locs hW => ?_)
      refine lv_iadd hx hb dL_grammar_365 ?_
      exact J366 _ _ _ _ _ _ _ _ _ _ _ hN_340 H locs ls hW (lv_sub hl [1, 2, 3, 4, 6, 0] rfl) h
    · replace h := ite_t c80 h
      refine lv_iload hx hb dL_grammar_352 (lv_at hl 5 rfl) ?_
      refine lv_goto (tgt := 366) hx hb dL_grammar_354 (by decide) ?_
      exact J366 _ _ _ _ _ _ _ _ _ _ _ hN_340 H locs ls hW (lv_sub hl [1, 2, 3, 4, 6, 0] rfl) h
  have J314 : ∀ (x_K_314 : Nat → Ob) (x_c_314 : Nat → Int32) (x_t_314 : Nat → Int32) (x_g_314 : Nat → Int32) (x_q_314 : Nat → Int32) (x_n_314 : Nat → Int32) (x_N_314 : Nat) (v2_314 : Int32) (v8_314 : Int32) (s0_314 : Int32) (hN_314 : x_N_314 ≤ 1) (H : Heap) (locs : List Loc) (ls : Array Slot), Wd D A s.heap (oA T 12 a_c x_c_314 ++ (oA T 20 a_t x_t_314 ++ (oA T 20 a_g x_g_314 ++ (oA T 60 a_q x_q_314 ++ (oA T 5 a_n x_n_314 ++ (oc_X10 T (ad 0) (bb ad) (x_K_314 0) ++ (wkL T ad x_K_314 L18 ++ Z))))))) H locs → lv_has ls 18 [(0, .ref (ad 0 0)), (2, .int v2_314), (3, .ref a_c), (5, .ref a_g), (8, .int v8_314)] → f_L_grammar_J314 x_K_314 x_c_314 x_t_314 x_g_314 x_q_314 x_n_314 x_N_314 v2_314 v8_314 s0_314 = some (r, x_K9, x_c9, x_t9, x_g9, x_q9, x_n9) → W p l e (rmL 8 1) s m args below meth c H locs x_N_314 (16 * x_N_314) Q (F0 m 314 ls [.int s0_314]) := by
    intro x_K_314 x_c_314 x_t_314 x_g_314 x_q_314 x_n_314 x_N_314 v2_314 v8_314 s0_314 hN_314 H locs ls hW hl h
    rw [f_L_grammar_J314] at h
    refine lv_istore (lv' := [(10, .int s0_314), (0, .ref (ad 0 0)), (2, .int v2_314), (3, .ref a_c), (5, .ref a_g), (8, .int v8_314)]) hx hb dL_grammar_314 hl (by decide) rfl (fun ls hl => ?_)
    refine lv_iload_n hx hb dL_grammar_316 rfl (lv_at hl 2 rfl) ?_
    refine lv_bipush (v := 8) hx hb dL_grammar_317 (by decide) ?_
    refine lv_ishr hx hb dL_grammar_319 ?_
    refine lv_iconst (v := 3) hx hb dL_grammar_320 (by decide) ?_
    obtain ⟨r73, q74, h⟩ := bnd1_s h
    refine cs_L_171 hx hb hml hown hts hK hN hE hC hA hW (c_L_some l D T A (oA T 12 a_c x_c_314 ++ (oA T 20 a_t x_t_314 ++ (oA T 20 a_g x_g_314 ++ (oA T 60 a_q x_q_314 ++ (oA T 5 a_n x_n_314 ++ (oc_X10 T (ad 0) (bb ad) (x_K_314 0) ++ (wkL T ad x_K_314 L18 ++ Z))))))) (v2_314 >>> ((8 : Int32) &&& 31)) 3 r73 q74) ⟨Nat.le_of_ble_eq_true rfl, Nat.le_of_ble_eq_true rfl⟩ hl.1 rfl (Nat.le_of_ble_eq_true rfl) dL_grammar_321 (hf0 hN_314) rfl (fun H locs hW => ?_)
    refine lv_if_ne (tgt := 331) hx hb dL_grammar_324 (by decide) (fun c75 => ?_) (fun c75 => ?_)
    · replace h := ite_f c75 h
      refine lv_iconst (v := 2) hx hb dL_grammar_331 (by decide) ?_
      refine lv_iload_n hx hb dL_grammar_332 rfl (lv_at hl 2 rfl) ?_
      refine lv_iconst (v := 3) hx hb dL_grammar_333 (by decide) ?_
      refine lv_ishr hx hb dL_grammar_334 ?_
      refine lv_iconst (v := 5) hx hb dL_grammar_335 (by decide) ?_
      obtain ⟨r76, q77, h⟩ := bnd1_s h
      refine cs_L_171 hx hb hml hown hts hK hN hE hC hA hW (c_L_some l D T A (oA T 12 a_c x_c_314 ++ (oA T 20 a_t x_t_314 ++ (oA T 20 a_g x_g_314 ++ (oA T 60 a_q x_q_314 ++ (oA T 5 a_n x_n_314 ++ (oc_X10 T (ad 0) (bb ad) (x_K_314 0) ++ (wkL T ad x_K_314 L18 ++ Z))))))) (v2_314 >>> ((3 : Int32) &&& 31)) 5 r76 q77) ⟨Nat.le_of_ble_eq_true rfl, Nat.le_of_ble_eq_true rfl⟩ hl.1 rfl (Nat.le_of_ble_eq_true rfl) dL_grammar_336 (hf0 hN_314) rfl (fun H locs hW => ?_)
      refine lv_iadd hx hb dL_grammar_339 ?_
      exact J340 _ _ _ _ _ _ _ _ _ _ _ hN_314 H locs ls hW (lv_sub hl [1, 2, 3, 4, 5, 0] rfl) h
    · replace h := ite_t c75 h
      refine lv_iconst (v := (-1)) hx hb dL_grammar_327 (by decide) ?_
      refine lv_goto (tgt := 340) hx hb dL_grammar_328 (by decide) ?_
      exact J340 _ _ _ _ _ _ _ _ _ _ _ hN_314 H locs ls hW (lv_sub hl [1, 2, 3, 4, 5, 0] rfl) h
  have J248 : ∀ (x_K_248 : Nat → Ob) (x_c_248 : Nat → Int32) (x_t_248 : Nat → Int32) (x_g_248 : Nat → Int32) (x_q_248 : Nat → Int32) (x_n_248 : Nat → Int32) (x_N_248 : Nat) (v8_248 : Int32) (v9_248 : Int32) (v11_248 : Int32) (v12_248 : Int32) (s1_248 : Int32) (hN_248 : x_N_248 ≤ 1) (H : Heap) (locs : List Loc) (ls : Array Slot), Wd D A s.heap (oA T 12 a_c x_c_248 ++ (oA T 20 a_t x_t_248 ++ (oA T 20 a_g x_g_248 ++ (oA T 60 a_q x_q_248 ++ (oA T 5 a_n x_n_248 ++ (oc_X10 T (ad 0) (bb ad) (x_K_248 0) ++ (wkL T ad x_K_248 L18 ++ Z))))))) H locs → lv_has ls 18 [(3, .ref a_c), (8, .int v8_248), (9, .int v9_248), (11, .int v11_248), (12, .int v12_248)] → f_L_grammar_J248 x_K_248 x_c_248 x_t_248 x_g_248 x_q_248 x_n_248 x_N_248 v8_248 v9_248 v11_248 v12_248 s1_248 = some (r, x_K9, x_c9, x_t9, x_g9, x_q9, x_n9) → W p l e (rmL 8 1) s m args below meth c H locs x_N_248 (16 * x_N_248) Q (F0 m 248 ls [.int s1_248, .ref (ad 0 0)]) := by
    intro x_K_248 x_c_248 x_t_248 x_g_248 x_q_248 x_n_248 x_N_248 v8_248 v9_248 v11_248 v12_248 s1_248 hN_248 H locs ls hW hl h
    rw [f_L_grammar_J248] at h
    refine lv_iload hx hb dL_grammar_248 (lv_at hl 1 rfl) ?_
    refine lv_iload hx hb dL_grammar_250 (lv_at hl 3 rfl) ?_
    refine lv_iload hx hb dL_grammar_252 (lv_at hl 2 rfl) ?_
    refine lv_iload hx hb dL_grammar_254 (lv_at hl 4 rfl) ?_
    replace hW := hW.perm pf6
    replace hW := hW.perm pf6
    obtain ⟨r122, x_K123, q124, h⟩ := bnd2_s h
    obtain ⟨gN125, h⟩ := grd_s h
    have gN125 := of_decide_eq_true gN125
    refine cs_L_186 hx hb hml hown hts hK hN hE hC hA hW (c_L_four l hfl D T A ad hok (oA T 12 a_c x_c_248 ++ (oA T 20 a_t x_t_248 ++ (oA T 20 a_g x_g_248 ++ (oA T 60 a_q x_q_248 ++ (oA T 5 a_n x_n_248 ++ Z))))) x_K_248 s1_248 v8_248 v11_248 v9_248 v12_248 r122 x_K123 q124) ⟨Nat.le_of_ble_eq_true rfl, Nat.le_of_ble_eq_true rfl⟩ hl.1 rfl (Nat.le_of_ble_eq_true rfl) dL_grammar_256 (hfB gN125) rfl (fun H locs hW => ?_)
    replace hW := hW.perm pf1
    replace hW := hW.perm pf1
    replace hW := hW.perm pf6
    replace hW := hW.perm pf6
    replace hW := hW.perm pf6
    replace hW := hW.perm pf6
    replace hW := hW.perm pf6
    refine lv_iload hx hb dL_grammar_259 (lv_at hl 3 rfl) ?_
    refine lv_if_ne (tgt := 270) hx hb dL_grammar_261 (by decide) (fun c126 => ?_) (fun c126 => ?_)
    · replace h := ite_f c126 h
      refine lv_aload_n hx hb dL_grammar_270 rfl (lv_at hl 0 rfl) ?_
      refine lv_iconst (v := 1) hx hb dL_grammar_271 (by decide) ?_
      refine g_iald hx hb hK hW 0 rfl (by decide) dL_grammar_272 ?_
      refine lv_iconst (v := 1) hx hb dL_grammar_273 (by decide) ?_
      refine lv_isub hx hb dL_grammar_274 ?_
      refine lv_icmp_ne (tgt := 282) hx hb dL_grammar_275 (by decide) (fun c127 => ?_) (fun c127 => ?_)
      · replace h := ite_f c127 h
        refine lv_iconst (v := 0) hx hb dL_grammar_282 (by decide) ?_
        obtain ⟨rfl, rfl, rfl, rfl, rfl, rfl, rfl⟩ := ret7 h
        rw [hQ]
        refine W.widen (k := 1) (n := 16) gN125 (Nat.mul_le_mul_left 16 gN125) ?_
        exact g_retz hx hb hr hlk hW (by decide) dL_grammar_283
      · replace h := ite_t c127 h
        refine lv_iconst (v := 1) hx hb dL_grammar_278 (by decide) ?_
        refine lv_goto (tgt := 283) hx hb dL_grammar_279 (by decide) ?_
        obtain ⟨rfl, rfl, rfl, rfl, rfl, rfl, rfl⟩ := ret7 h
        rw [hQ]
        refine W.widen (k := 1) (n := 16) gN125 (Nat.mul_le_mul_left 16 gN125) ?_
        exact g_retz hx hb hr hlk hW (by decide) dL_grammar_283
    · replace h := ite_t c126 h
      refine lv_sipush (v := (-1002)) hx hb dL_grammar_264 (by decide) ?_
      refine lv_goto (tgt := 275) hx hb dL_grammar_267 (by decide) ?_
      refine lv_icmp_ne (tgt := 282) hx hb dL_grammar_275 (by decide) (fun c128 => ?_) (fun c128 => ?_)
      · replace h := ite_f c128 h
        refine lv_iconst (v := 0) hx hb dL_grammar_282 (by decide) ?_
        obtain ⟨rfl, rfl, rfl, rfl, rfl, rfl, rfl⟩ := ret7 h
        rw [hQ]
        refine W.widen (k := 1) (n := 16) gN125 (Nat.mul_le_mul_left 16 gN125) ?_
        exact g_retz hx hb hr hlk hW (by decide) dL_grammar_283
      · replace h := ite_t c128 h
        refine lv_iconst (v := 1) hx hb dL_grammar_278 (by decide) ?_
        refine lv_goto (tgt := 283) hx hb dL_grammar_279 (by decide) ?_
        obtain ⟨rfl, rfl, rfl, rfl, rfl, rfl, rfl⟩ := ret7 h
        rw [hQ]
        refine W.widen (k := 1) (n := 16) gN125 (Nat.mul_le_mul_left 16 gN125) ?_
        exact g_retz hx hb hr hlk hW (by decide) dL_grammar_283
  have J237 : ∀ (x_K_237 : Nat → Ob) (x_c_237 : Nat → Int32) (x_t_237 : Nat → Int32) (x_g_237 : Nat → Int32) (x_q_237 : Nat → Int32) (x_n_237 : Nat → Int32) (x_N_237 : Nat) (v8_237 : Int32) (v9_237 : Int32) (v10_237 : Int32) (v11_237 : Int32) (v12_237 : Int32) (hN_237 : x_N_237 ≤ 1) (H : Heap) (locs : List Loc) (ls : Array Slot), Wd D A s.heap (oA T 12 a_c x_c_237 ++ (oA T 20 a_t x_t_237 ++ (oA T 20 a_g x_g_237 ++ (oA T 60 a_q x_q_237 ++ (oA T 5 a_n x_n_237 ++ (oc_X10 T (ad 0) (bb ad) (x_K_237 0) ++ (wkL T ad x_K_237 L18 ++ Z))))))) H locs → lv_has ls 18 [(0, .ref (ad 0 0)), (3, .ref a_c), (8, .int v8_237), (9, .int v9_237), (10, .int v10_237), (11, .int v11_237), (12, .int v12_237)] → f_L_grammar_J237 x_K_237 x_c_237 x_t_237 x_g_237 x_q_237 x_n_237 x_N_237 v8_237 v9_237 v10_237 v11_237 v12_237 = some (r, x_K9, x_c9, x_t9, x_g9, x_q9, x_n9) → W p l e (rmL 8 1) s m args below meth c H locs x_N_237 (16 * x_N_237) Q (F0 m 237 ls []) := by
    intro x_K_237 x_c_237 x_t_237 x_g_237 x_q_237 x_n_237 x_N_237 v8_237 v9_237 v10_237 v11_237 v12_237 hN_237 H locs ls hW hl h
    rw [f_L_grammar_J237] at h
    refine lv_aload_n hx hb dL_grammar_237 rfl (lv_at hl 0 rfl) ?_
    refine lv_iload hx hb dL_grammar_238 (lv_at hl 4 rfl) ?_
    refine lv_if_eq (tgt := 247) hx hb dL_grammar_240 (by decide) (fun c121 => ?_) (fun c121 => ?_)
    · replace h := ite_t c121 h
      refine lv_iconst (v := 0) hx hb dL_grammar_247 (by decide) ?_
      exact J248 _ _ _ _ _ _ _ _ _ _ _ _ hN_237 H locs ls hW (lv_sub hl [1, 2, 3, 5, 6] rfl) h
    · replace h := ite_f c121 h
      refine lv_iconst (v := 1) hx hb dL_grammar_243 (by decide) ?_
      refine lv_goto (tgt := 248) hx hb dL_grammar_244 (by decide) ?_
      exact J248 _ _ _ _ _ _ _ _ _ _ _ _ hN_237 H locs ls hW (lv_sub hl [1, 2, 3, 5, 6] rfl) h
  have J174 : ∀ (x_K_174 : Nat → Ob) (x_c_174 : Nat → Int32) (x_t_174 : Nat → Int32) (x_g_174 : Nat → Int32) (x_q_174 : Nat → Int32) (x_n_174 : Nat → Int32) (x_N_174 : Nat) (v8_174 : Int32) (v9_174 : Int32) (v10_174 : Int32) (v11_174 : Int32) (v12_174 : Int32) (s1_174 : Int32) (s2_174 : Int32) (hN_174 : x_N_174 ≤ 1) (H : Heap) (locs : List Loc) (ls : Array Slot), Wd D A s.heap (oA T 12 a_c x_c_174 ++ (oA T 20 a_t x_t_174 ++ (oA T 20 a_g x_g_174 ++ (oA T 60 a_q x_q_174 ++ (oA T 5 a_n x_n_174 ++ (oc_X10 T (ad 0) (bb ad) (x_K_174 0) ++ (wkL T ad x_K_174 L18 ++ Z))))))) H locs → lv_has ls 18 [(0, .ref (ad 0 0)), (3, .ref a_c), (4, .ref a_t), (8, .int v8_174), (9, .int v9_174), (10, .int v10_174), (11, .int v11_174), (12, .int v12_174)] → f_L_grammar_J174 x_K_174 x_c_174 x_t_174 x_g_174 x_q_174 x_n_174 x_N_174 v8_174 v9_174 v10_174 v11_174 v12_174 s1_174 s2_174 = some (r, x_K9, x_c9, x_t9, x_g9, x_q9, x_n9) → W p l e (rmL 8 1) s m args below meth c H locs x_N_174 (16 * x_N_174) Q (F0 m 174 ls [.int s2_174, .int s1_174, .ref a_t]) := by
    intro x_K_174 x_c_174 x_t_174 x_g_174 x_q_174 x_n_174 x_N_174 v8_174 v9_174 v10_174 v11_174 v12_174 s1_174 s2_174 hN_174 H locs ls hW hl h
    rw [f_L_grammar_J174] at h
    obtain ⟨g130, h⟩ := grd_s h
    refine g_iast (ws9 := oA T 12 a_c x_c_174 ++ (oA T 20 a_t (upd x_t_174 s1_174.toNatClampNeg s2_174) ++ (oA T 20 a_g x_g_174 ++ (oA T 60 a_q x_q_174 ++ (oA T 5 a_n x_n_174 ++ (oc_X10 T (ad 0) (bb ad) (x_K_174 0) ++ (wkL T ad x_K_174 L18 ++ Z))))))) hx hb hK hW 1 rfl g130 rfl dL_grammar_174 (fun H locs hW => ?_)
    obtain ⟨x_t131, ex_t131⟩ : ∃ y : Nat → Int32, y = upd x_t_174 s1_174.toNatClampNeg s2_174 := ⟨_, rfl⟩
    rw [← ex_t131] at hW
    replace h := lb_at ex_t131 h
    refine lv_aload hx hb dL_grammar_175 (lv_at hl 2 rfl) ?_
    refine lv_iconst (v := 5) hx hb dL_grammar_177 (by decide) ?_
    refine lv_aload_n hx hb dL_grammar_178 rfl (lv_at hl 1 rfl) ?_
    refine lv_iconst (v := 1) hx hb dL_grammar_179 (by decide) ?_
    refine g_iald hx hb hK hW 0 rfl (by decide) dL_grammar_180 ?_
    refine lv_imul hx hb dL_grammar_181 ?_
    refine lv_iconst (v := 1) hx hb dL_grammar_182 (by decide) ?_
    refine lv_iadd hx hb dL_grammar_183 ?_
    refine lv_iload hx hb dL_grammar_184 (lv_at hl 3 rfl) ?_
    obtain ⟨g132, h⟩ := grd_s h
    refine g_iast (ws9 := oA T 12 a_c x_c_174 ++ (oA T 20 a_t (upd x_t131 ((5 * (x_c_174 (1 : Int32).toNatClampNeg)) + 1).toNatClampNeg v8_174) ++ (oA T 20 a_g x_g_174 ++ (oA T 60 a_q x_q_174 ++ (oA T 5 a_n x_n_174 ++ (oc_X10 T (ad 0) (bb ad) (x_K_174 0) ++ (wkL T ad x_K_174 L18 ++ Z))))))) hx hb hK hW 1 rfl g132 rfl dL_grammar_186 (fun H locs hW => ?_)
    obtain ⟨x_t133, ex_t133⟩ : ∃ y : Nat → Int32, y = upd x_t131 ((5 * (x_c_174 (1 : Int32).toNatClampNeg)) + 1).toNatClampNeg v8_174 := ⟨_, rfl⟩
    rw [← ex_t133] at hW
    replace h := lb_at ex_t133 h
    refine lv_aload hx hb dL_grammar_187 (lv_at hl 2 rfl) ?_
    refine lv_iconst (v := 5) hx hb dL_grammar_189 (by decide) ?_
    refine lv_aload_n hx hb dL_grammar_190 rfl (lv_at hl 1 rfl) ?_
    refine lv_iconst (v := 1) hx hb dL_grammar_191 (by decide) ?_
    refine g_iald hx hb hK hW 0 rfl (by decide) dL_grammar_192 ?_
    refine lv_imul hx hb dL_grammar_193 ?_
    refine lv_iconst (v := 2) hx hb dL_grammar_194 (by decide) ?_
    refine lv_iadd hx hb dL_grammar_195 ?_
    refine lv_iload hx hb dL_grammar_196 (lv_at hl 6 rfl) ?_
    obtain ⟨g134, h⟩ := grd_s h
    refine g_iast (ws9 := oA T 12 a_c x_c_174 ++ (oA T 20 a_t (upd x_t133 ((5 * (x_c_174 (1 : Int32).toNatClampNeg)) + 2).toNatClampNeg v11_174) ++ (oA T 20 a_g x_g_174 ++ (oA T 60 a_q x_q_174 ++ (oA T 5 a_n x_n_174 ++ (oc_X10 T (ad 0) (bb ad) (x_K_174 0) ++ (wkL T ad x_K_174 L18 ++ Z))))))) hx hb hK hW 1 rfl g134 rfl dL_grammar_198 (fun H locs hW => ?_)
    obtain ⟨x_t135, ex_t135⟩ : ∃ y : Nat → Int32, y = upd x_t133 ((5 * (x_c_174 (1 : Int32).toNatClampNeg)) + 2).toNatClampNeg v11_174 := ⟨_, rfl⟩
    rw [← ex_t135] at hW
    replace h := lb_at ex_t135 h
    refine lv_aload hx hb dL_grammar_199 (lv_at hl 2 rfl) ?_
    refine lv_iconst (v := 5) hx hb dL_grammar_201 (by decide) ?_
    refine lv_aload_n hx hb dL_grammar_202 rfl (lv_at hl 1 rfl) ?_
    refine lv_iconst (v := 1) hx hb dL_grammar_203 (by decide) ?_
    refine g_iald hx hb hK hW 0 rfl (by decide) dL_grammar_204 ?_
    refine lv_imul hx hb dL_grammar_205 ?_
    refine lv_iconst (v := 3) hx hb dL_grammar_206 (by decide) ?_
    refine lv_iadd hx hb dL_grammar_207 ?_
    refine lv_iload hx hb dL_grammar_208 (lv_at hl 4 rfl) ?_
    obtain ⟨g136, h⟩ := grd_s h
    refine g_iast (ws9 := oA T 12 a_c x_c_174 ++ (oA T 20 a_t (upd x_t135 ((5 * (x_c_174 (1 : Int32).toNatClampNeg)) + 3).toNatClampNeg v9_174) ++ (oA T 20 a_g x_g_174 ++ (oA T 60 a_q x_q_174 ++ (oA T 5 a_n x_n_174 ++ (oc_X10 T (ad 0) (bb ad) (x_K_174 0) ++ (wkL T ad x_K_174 L18 ++ Z))))))) hx hb hK hW 1 rfl g136 rfl dL_grammar_210 (fun H locs hW => ?_)
    obtain ⟨x_t137, ex_t137⟩ : ∃ y : Nat → Int32, y = upd x_t135 ((5 * (x_c_174 (1 : Int32).toNatClampNeg)) + 3).toNatClampNeg v9_174 := ⟨_, rfl⟩
    rw [← ex_t137] at hW
    replace h := lb_at ex_t137 h
    refine lv_aload hx hb dL_grammar_211 (lv_at hl 2 rfl) ?_
    refine lv_iconst (v := 5) hx hb dL_grammar_213 (by decide) ?_
    refine lv_aload_n hx hb dL_grammar_214 rfl (lv_at hl 1 rfl) ?_
    refine lv_iconst (v := 1) hx hb dL_grammar_215 (by decide) ?_
    refine g_iald hx hb hK hW 0 rfl (by decide) dL_grammar_216 ?_
    refine lv_imul hx hb dL_grammar_217 ?_
    refine lv_iconst (v := 4) hx hb dL_grammar_218 (by decide) ?_
    refine lv_iadd hx hb dL_grammar_219 ?_
    refine lv_iload hx hb dL_grammar_220 (lv_at hl 7 rfl) ?_
    obtain ⟨g138, h⟩ := grd_s h
    refine g_iast (ws9 := oA T 12 a_c x_c_174 ++ (oA T 20 a_t (upd x_t137 ((5 * (x_c_174 (1 : Int32).toNatClampNeg)) + 4).toNatClampNeg v12_174) ++ (oA T 20 a_g x_g_174 ++ (oA T 60 a_q x_q_174 ++ (oA T 5 a_n x_n_174 ++ (oc_X10 T (ad 0) (bb ad) (x_K_174 0) ++ (wkL T ad x_K_174 L18 ++ Z))))))) hx hb hK hW 1 rfl g138 rfl dL_grammar_222 (fun H locs hW => ?_)
    obtain ⟨x_t139, ex_t139⟩ : ∃ y : Nat → Int32, y = upd x_t137 ((5 * (x_c_174 (1 : Int32).toNatClampNeg)) + 4).toNatClampNeg v12_174 := ⟨_, rfl⟩
    rw [← ex_t139] at hW
    replace h := lb_at ex_t139 h
    refine lv_aload_n hx hb dL_grammar_223 rfl (lv_at hl 1 rfl) ?_
    refine lv_iconst (v := 1) hx hb dL_grammar_224 (by decide) ?_
    refine lv_dup2_11 hx hb dL_grammar_225 rfl rfl ?_
    refine g_iald hx hb hK hW 0 rfl (by decide) dL_grammar_226 ?_
    refine lv_iconst (v := 1) hx hb dL_grammar_227 (by decide) ?_
    refine lv_iadd hx hb dL_grammar_228 ?_
    refine g_iast (ws9 := oA T 12 a_c (upd x_c_174 (1 : Int32).toNatClampNeg ((x_c_174 (1 : Int32).toNatClampNeg) + 1)) ++ (oA T 20 a_t x_t139 ++ (oA T 20 a_g x_g_174 ++ (oA T 60 a_q x_q_174 ++ (oA T 5 a_n x_n_174 ++ (oc_X10 T (ad 0) (bb ad) (x_K_174 0) ++ (wkL T ad x_K_174 L18 ++ Z))))))) hx hb hK hW 0 rfl (by decide) rfl dL_grammar_229 (fun H locs hW => ?_)
    obtain ⟨x_c140, ex_c140⟩ : ∃ y : Nat → Int32, y = upd x_c_174 (1 : Int32).toNatClampNeg ((x_c_174 (1 : Int32).toNatClampNeg) + 1) := ⟨_, rfl⟩
    rw [← ex_c140] at hW
    replace h := lb_at ex_c140 h
    refine lv_aload_n hx hb dL_grammar_230 rfl (lv_at hl 1 rfl) ?_
    refine lv_iconst (v := 4) hx hb dL_grammar_231 (by decide) ?_
    refine lv_dup2_11 hx hb dL_grammar_232 rfl rfl ?_
    refine g_iald hx hb hK hW 0 rfl (by decide) dL_grammar_233 ?_
    refine lv_iconst (v := 1) hx hb dL_grammar_234 (by decide) ?_
    refine lv_iadd hx hb dL_grammar_235 ?_
    refine g_iast (ws9 := oA T 12 a_c (upd x_c140 (4 : Int32).toNatClampNeg ((x_c140 (4 : Int32).toNatClampNeg) + 1)) ++ (oA T 20 a_t x_t139 ++ (oA T 20 a_g x_g_174 ++ (oA T 60 a_q x_q_174 ++ (oA T 5 a_n x_n_174 ++ (oc_X10 T (ad 0) (bb ad) (x_K_174 0) ++ (wkL T ad x_K_174 L18 ++ Z))))))) hx hb hK hW 0 rfl (by decide) rfl dL_grammar_236 (fun H locs hW => ?_)
    obtain ⟨x_c141, ex_c141⟩ : ∃ y : Nat → Int32, y = upd x_c140 (4 : Int32).toNatClampNeg ((x_c140 (4 : Int32).toNatClampNeg) + 1) := ⟨_, rfl⟩
    rw [← ex_c141] at hW
    replace h := lb_at ex_c141 h
    exact J237 _ _ _ _ _ _ _ _ _ _ _ _ hN_174 H locs ls hW (lv_sub hl [0, 1, 3, 4, 5, 6, 7] rfl) h
  have J152 : ∀ (x_K_152 : Nat → Ob) (x_c_152 : Nat → Int32) (x_t_152 : Nat → Int32) (x_g_152 : Nat → Int32) (x_q_152 : Nat → Int32) (x_n_152 : Nat → Int32) (x_N_152 : Nat) (v8_152 : Int32) (v9_152 : Int32) (v10_152 : Int32) (v11_152 : Int32) (v12_152 : Int32) (hN_152 : x_N_152 ≤ 1) (H : Heap) (locs : List Loc) (ls : Array Slot), Wd D A s.heap (oA T 12 a_c x_c_152 ++ (oA T 20 a_t x_t_152 ++ (oA T 20 a_g x_g_152 ++ (oA T 60 a_q x_q_152 ++ (oA T 5 a_n x_n_152 ++ (oc_X10 T (ad 0) (bb ad) (x_K_152 0) ++ (wkL T ad x_K_152 L18 ++ Z))))))) H locs → lv_has ls 18 [(0, .ref (ad 0 0)), (3, .ref a_c), (4, .ref a_t), (8, .int v8_152), (9, .int v9_152), (10, .int v10_152), (11, .int v11_152), (12, .int v12_152)] → f_L_grammar_J152 x_K_152 x_c_152 x_t_152 x_g_152 x_q_152 x_n_152 x_N_152 v8_152 v9_152 v10_152 v11_152 v12_152 = some (r, x_K9, x_c9, x_t9, x_g9, x_q9, x_n9) → W p l e (rmL 8 1) s m args below meth c H locs x_N_152 (16 * x_N_152) Q (F0 m 152 ls []) := by
    intro x_K_152 x_c_152 x_t_152 x_g_152 x_q_152 x_n_152 x_N_152 v8_152 v9_152 v10_152 v11_152 v12_152 hN_152 H locs ls hW hl h
    rw [f_L_grammar_J152] at h
    refine lv_iload hx hb dL_grammar_152 (lv_at hl 6 rfl) ?_
    refine lv_if_eq (tgt := 237) hx hb dL_grammar_154 (by decide) (fun c120 => ?_) (fun c120 => ?_)
    · replace h := ite_t c120 h
      exact J237 _ _ _ _ _ _ _ _ _ _ _ _ hN_152 H locs ls hW (lv_sub hl [0, 1, 3, 4, 5, 6, 7] rfl) h
    · replace h := ite_f c120 h
      refine lv_aload hx hb dL_grammar_157 (lv_at hl 2 rfl) ?_
      refine lv_iconst (v := 5) hx hb dL_grammar_159 (by decide) ?_
      refine lv_aload_n hx hb dL_grammar_160 rfl (lv_at hl 1 rfl) ?_
      refine lv_iconst (v := 1) hx hb dL_grammar_161 (by decide) ?_
      refine g_iald hx hb hK hW 0 rfl (by decide) dL_grammar_162 ?_
      refine lv_imul hx hb dL_grammar_163 ?_
      refine lv_iload hx hb dL_grammar_164 (lv_at hl 5 rfl) ?_
      refine lv_if_eq (tgt := 173) hx hb dL_grammar_166 (by decide) (fun c129 => ?_) (fun c129 => ?_)
      · replace h := ite_t c129 h
        refine lv_iconst (v := 0) hx hb dL_grammar_173 (by decide) ?_
        exact J174 _ _ _ _ _ _ _ _ _ _ _ _ _ _ hN_152 H locs ls hW (lv_sub hl [0, 1, 2, 3, 4, 5, 6, 7] rfl) h
      · replace h := ite_f c129 h
        refine lv_iconst (v := 1) hx hb dL_grammar_169 (by decide) ?_
        refine lv_goto (tgt := 174) hx hb dL_grammar_170 (by decide) ?_
        exact J174 _ _ _ _ _ _ _ _ _ _ _ _ _ _ hN_152 H locs ls hW (lv_sub hl [0, 1, 2, 3, 4, 5, 6, 7] rfl) h
  have J136 : ∀ (x_K_136 : Nat → Ob) (x_c_136 : Nat → Int32) (x_t_136 : Nat → Int32) (x_g_136 : Nat → Int32) (x_q_136 : Nat → Int32) (x_n_136 : Nat → Int32) (x_N_136 : Nat) (v8_136 : Int32) (v9_136 : Int32) (v10_136 : Int32) (v11_136 : Int32) (s0_136 : Int32) (hN_136 : x_N_136 ≤ 1) (H : Heap) (locs : List Loc) (ls : Array Slot), Wd D A s.heap (oA T 12 a_c x_c_136 ++ (oA T 20 a_t x_t_136 ++ (oA T 20 a_g x_g_136 ++ (oA T 60 a_q x_q_136 ++ (oA T 5 a_n x_n_136 ++ (oc_X10 T (ad 0) (bb ad) (x_K_136 0) ++ (wkL T ad x_K_136 L18 ++ Z))))))) H locs → lv_has ls 18 [(0, .ref (ad 0 0)), (3, .ref a_c), (4, .ref a_t), (8, .int v8_136), (9, .int v9_136), (10, .int v10_136), (11, .int v11_136)] → f_L_grammar_J136 x_K_136 x_c_136 x_t_136 x_g_136 x_q_136 x_n_136 x_N_136 v8_136 v9_136 v10_136 v11_136 s0_136 = some (r, x_K9, x_c9, x_t9, x_g9, x_q9, x_n9) → W p l e (rmL 8 1) s m args below meth c H locs x_N_136 (16 * x_N_136) Q (F0 m 136 ls [.int s0_136]) := by
    intro x_K_136 x_c_136 x_t_136 x_g_136 x_q_136 x_n_136 x_N_136 v8_136 v9_136 v10_136 v11_136 s0_136 hN_136 H locs ls hW hl h
    rw [f_L_grammar_J136] at h
    refine lv_istore (lv' := [(12, .int s0_136), (0, .ref (ad 0 0)), (3, .ref a_c), (4, .ref a_t), (8, .int v8_136), (9, .int v9_136), (10, .int v10_136), (11, .int v11_136)]) hx hb dL_grammar_136 hl (by decide) rfl (fun ls hl => ?_)
    refine lv_iload hx hb dL_grammar_138 (lv_at hl 7 rfl) ?_
    refine lv_if_eq (tgt := 152) hx hb dL_grammar_140 (by decide) (fun c119 => ?_) (fun c119 => ?_)
    · replace h := ite_t c119 h
      exact J152 _ _ _ _ _ _ _ _ _ _ _ _ hN_136 H locs ls hW (lv_sub hl [1, 2, 3, 4, 5, 6, 7, 0] rfl) h
    · replace h := ite_f c119 h
      refine lv_aload_n hx hb dL_grammar_143 rfl (lv_at hl 2 rfl) ?_
      refine lv_iconst (v := 1) hx hb dL_grammar_144 (by decide) ?_
      refine g_iald hx hb hK hW 0 rfl (by decide) dL_grammar_145 ?_
      refine lv_iconst (v := 4) hx hb dL_grammar_146 (by decide) ?_
      refine lv_icmp_ne (tgt := 152) hx hb dL_grammar_147 (by decide) (fun c142 => ?_) (fun c142 => ?_)
      · replace h := ite_f c142 h
        exact J152 _ _ _ _ _ _ _ _ _ _ _ _ hN_136 H locs ls hW (lv_sub hl [1, 2, 3, 4, 5, 6, 7, 0] rfl) h
      · replace h := ite_t c142 h
        refine lv_iconst (v := 1) hx hb dL_grammar_150 (by decide) ?_
        obtain ⟨rfl, rfl, rfl, rfl, rfl, rfl, rfl⟩ := ret7 h
        rw [hQ]
        refine W.widen (k := 1) (n := 16) hN_136 (Nat.mul_le_mul_left 16 hN_136) ?_
        exact g_retz hx hb hr hlk hW (by decide) dL_grammar_151
  have J111 : ∀ (x_K_111 : Nat → Ob) (x_c_111 : Nat → Int32) (x_t_111 : Nat → Int32) (x_g_111 : Nat → Int32) (x_q_111 : Nat → Int32) (x_n_111 : Nat → Int32) (x_N_111 : Nat) (v2_111 : Int32) (v8_111 : Int32) (v9_111 : Int32) (v10_111 : Int32) (s0_111 : Int32) (hN_111 : x_N_111 ≤ 1) (H : Heap) (locs : List Loc) (ls : Array Slot), Wd D A s.heap (oA T 12 a_c x_c_111 ++ (oA T 20 a_t x_t_111 ++ (oA T 20 a_g x_g_111 ++ (oA T 60 a_q x_q_111 ++ (oA T 5 a_n x_n_111 ++ (oc_X10 T (ad 0) (bb ad) (x_K_111 0) ++ (wkL T ad x_K_111 L18 ++ Z))))))) H locs → lv_has ls 18 [(0, .ref (ad 0 0)), (2, .int v2_111), (3, .ref a_c), (4, .ref a_t), (8, .int v8_111), (9, .int v9_111), (10, .int v10_111)] → f_L_grammar_J111 x_K_111 x_c_111 x_t_111 x_g_111 x_q_111 x_n_111 x_N_111 v2_111 v8_111 v9_111 v10_111 s0_111 = some (r, x_K9, x_c9, x_t9, x_g9, x_q9, x_n9) → W p l e (rmL 8 1) s m args below meth c H locs x_N_111 (16 * x_N_111) Q (F0 m 111 ls [.int s0_111]) := by
    intro x_K_111 x_c_111 x_t_111 x_g_111 x_q_111 x_n_111 x_N_111 v2_111 v8_111 v9_111 v10_111 s0_111 hN_111 H locs ls hW hl h
    rw [f_L_grammar_J111] at h
    refine lv_istore (lv' := [(11, .int s0_111), (0, .ref (ad 0 0)), (2, .int v2_111), (3, .ref a_c), (4, .ref a_t), (8, .int v8_111), (9, .int v9_111), (10, .int v10_111)]) hx hb dL_grammar_111 hl (by decide) rfl (fun ls hl => ?_)
    refine lv_iload_n hx hb dL_grammar_113 rfl (lv_at hl 2 rfl) ?_
    refine lv_bipush (v := 8) hx hb dL_grammar_114 (by decide) ?_
    refine lv_ishr hx hb dL_grammar_116 ?_
    refine lv_iconst (v := 2) hx hb dL_grammar_117 (by decide) ?_
    obtain ⟨r114, q115, h⟩ := bnd1_s h
    refine cs_L_171 hx hb hml hown hts hK hN hE hC hA hW (c_L_some l D T A (oA T 12 a_c x_c_111 ++ (oA T 20 a_t x_t_111 ++ (oA T 20 a_g x_g_111 ++ (oA T 60 a_q x_q_111 ++ (oA T 5 a_n x_n_111 ++ (oc_X10 T (ad 0) (bb ad) (x_K_111 0) ++ (wkL T ad x_K_111 L18 ++ Z))))))) (v2_111 >>> ((8 : Int32) &&& 31)) 2 r114 q115) ⟨Nat.le_of_ble_eq_true rfl, Nat.le_of_ble_eq_true rfl⟩ hl.1 rfl (Nat.le_of_ble_eq_true rfl) dL_grammar_118 (hf0 hN_111) rfl (fun H locs hW => ?_)
    refine lv_if_ne (tgt := 128) hx hb dL_grammar_121 (by decide) (fun c116 => ?_) (fun c116 => ?_)
    · replace h := ite_f c116 h
      refine lv_iload_n hx hb dL_grammar_128 rfl (lv_at hl 2 rfl) ?_
      refine lv_iconst (v := 2) hx hb dL_grammar_129 (by decide) ?_
      refine lv_ishr hx hb dL_grammar_130 ?_
      refine lv_bipush (v := 6) hx hb dL_grammar_131 (by decide) ?_
      obtain ⟨r117, q118, h⟩ := bnd1_s h
      refine cs_L_171 hx hb hml hown hts hK hN hE hC hA hW (c_L_some l D T A (oA T 12 a_c x_c_111 ++ (oA T 20 a_t x_t_111 ++ (oA T 20 a_g x_g_111 ++ (oA T 60 a_q x_q_111 ++ (oA T 5 a_n x_n_111 ++ (oc_X10 T (ad 0) (bb ad) (x_K_111 0) ++ (wkL T ad x_K_111 L18 ++ Z))))))) (v2_111 >>> ((2 : Int32) &&& 31)) 6 r117 q118) ⟨Nat.le_of_ble_eq_true rfl, Nat.le_of_ble_eq_true rfl⟩ hl.1 rfl (Nat.le_of_ble_eq_true rfl) dL_grammar_133 (hf0 hN_111) rfl (fun H locs hW => ?_)
      exact J136 _ _ _ _ _ _ _ _ _ _ _ _ hN_111 H locs ls hW (lv_sub hl [1, 3, 4, 5, 6, 7, 0] rfl) h
    · replace h := ite_t c116 h
      refine lv_iconst (v := (-1)) hx hb dL_grammar_124 (by decide) ?_
      refine lv_goto (tgt := 136) hx hb dL_grammar_125 (by decide) ?_
      exact J136 _ _ _ _ _ _ _ _ _ _ _ _ hN_111 H locs ls hW (lv_sub hl [1, 3, 4, 5, 6, 7, 0] rfl) h
  have J81 : ∀ (x_K_81 : Nat → Ob) (x_c_81 : Nat → Int32) (x_t_81 : Nat → Int32) (x_g_81 : Nat → Int32) (x_q_81 : Nat → Int32) (x_n_81 : Nat → Int32) (x_N_81 : Nat) (v2_81 : Int32) (v8_81 : Int32) (v9_81 : Int32) (s0_81 : Int32) (hN_81 : x_N_81 ≤ 1) (H : Heap) (locs : List Loc) (ls : Array Slot), Wd D A s.heap (oA T 12 a_c x_c_81 ++ (oA T 20 a_t x_t_81 ++ (oA T 20 a_g x_g_81 ++ (oA T 60 a_q x_q_81 ++ (oA T 5 a_n x_n_81 ++ (oc_X10 T (ad 0) (bb ad) (x_K_81 0) ++ (wkL T ad x_K_81 L18 ++ Z))))))) H locs → lv_has ls 18 [(0, .ref (ad 0 0)), (2, .int v2_81), (3, .ref a_c), (4, .ref a_t), (8, .int v8_81), (9, .int v9_81)] → f_L_grammar_J81 x_K_81 x_c_81 x_t_81 x_g_81 x_q_81 x_n_81 x_N_81 v2_81 v8_81 v9_81 s0_81 = some (r, x_K9, x_c9, x_t9, x_g9, x_q9, x_n9) → W p l e (rmL 8 1) s m args below meth c H locs x_N_81 (16 * x_N_81) Q (F0 m 81 ls [.int s0_81]) := by
    intro x_K_81 x_c_81 x_t_81 x_g_81 x_q_81 x_n_81 x_N_81 v2_81 v8_81 v9_81 s0_81 hN_81 H locs ls hW hl h
    rw [f_L_grammar_J81] at h
    refine lv_istore (lv' := [(10, .int s0_81), (0, .ref (ad 0 0)), (2, .int v2_81), (3, .ref a_c), (4, .ref a_t), (8, .int v8_81), (9, .int v9_81)]) hx hb dL_grammar_81 hl (by decide) rfl (fun ls hl => ?_)
    refine lv_iload hx hb dL_grammar_83 (lv_at hl 0 rfl) ?_
    refine lv_if_eq (tgt := 102) hx hb dL_grammar_85 (by decide) (fun c111 => ?_) (fun c111 => ?_)
    · replace h := ite_t c111 h
      refine lv_iload_n hx hb dL_grammar_102 rfl (lv_at hl 2 rfl) ?_
      refine lv_iconst (v := 5) hx hb dL_grammar_103 (by decide) ?_
      refine lv_ishr hx hb dL_grammar_104 ?_
      refine lv_iconst (v := 5) hx hb dL_grammar_105 (by decide) ?_
      obtain ⟨r112, q113, h⟩ := bnd1_s h
      refine cs_L_171 hx hb hml hown hts hK hN hE hC hA hW (c_L_some l D T A (oA T 12 a_c x_c_81 ++ (oA T 20 a_t x_t_81 ++ (oA T 20 a_g x_g_81 ++ (oA T 60 a_q x_q_81 ++ (oA T 5 a_n x_n_81 ++ (oc_X10 T (ad 0) (bb ad) (x_K_81 0) ++ (wkL T ad x_K_81 L18 ++ Z))))))) (v2_81 >>> ((5 : Int32) &&& 31)) 5 r112 q113) ⟨Nat.le_of_ble_eq_true rfl, Nat.le_of_ble_eq_true rfl⟩ hl.1 rfl (Nat.le_of_ble_eq_true rfl) dL_grammar_106 (hf0 hN_81) rfl (fun H locs hW => ?_)
      refine lv_iconst (v := 2) hx hb dL_grammar_109 (by decide) ?_
      refine lv_isub hx hb dL_grammar_110 ?_
      exact J111 _ _ _ _ _ _ _ _ _ _ _ _ hN_81 H locs ls hW (lv_sub hl [1, 2, 3, 4, 5, 6, 0] rfl) h
    · replace h := ite_f c111 h
      refine lv_iload_n hx hb dL_grammar_88 rfl (lv_at hl 2 rfl) ?_
      refine lv_iconst (v := 5) hx hb dL_grammar_89 (by decide) ?_
      refine lv_ishr hx hb dL_grammar_90 ?_
      refine lv_iconst (v := 2) hx hb dL_grammar_91 (by decide) ?_
      obtain ⟨r143, q144, h⟩ := bnd1_s h
      refine cs_L_171 hx hb hml hown hts hK hN hE hC hA hW (c_L_some l D T A (oA T 12 a_c x_c_81 ++ (oA T 20 a_t x_t_81 ++ (oA T 20 a_g x_g_81 ++ (oA T 60 a_q x_q_81 ++ (oA T 5 a_n x_n_81 ++ (oc_X10 T (ad 0) (bb ad) (x_K_81 0) ++ (wkL T ad x_K_81 L18 ++ Z))))))) (v2_81 >>> ((5 : Int32) &&& 31)) 2 r143 q144) ⟨Nat.le_of_ble_eq_true rfl, Nat.le_of_ble_eq_true rfl⟩ hl.1 rfl (Nat.le_of_ble_eq_true rfl) dL_grammar_92 (hf0 hN_81) rfl (fun H locs hW => ?_)
      refine lv_iconst (v := 2) hx hb dL_grammar_95 (by decide) ?_
      refine lv_imul hx hb dL_grammar_96 ?_
      refine lv_iconst (v := 1) hx hb dL_grammar_97 (by decide) ?_
      refine lv_isub hx hb dL_grammar_98 ?_
      refine lv_goto (tgt := 111) hx hb dL_grammar_99 (by decide) ?_
      exact J111 _ _ _ _ _ _ _ _ _ _ _ _ hN_81 H locs ls hW (lv_sub hl [1, 2, 3, 4, 5, 6, 0] rfl) h
  have J59 : ∀ (x_K_59 : Nat → Ob) (x_c_59 : Nat → Int32) (x_t_59 : Nat → Int32) (x_g_59 : Nat → Int32) (x_q_59 : Nat → Int32) (x_n_59 : Nat → Int32) (x_N_59 : Nat) (v1_59 : Int32) (v2_59 : Int32) (v8_59 : Int32) (s0_59 : Int32) (hN_59 : x_N_59 ≤ 1) (H : Heap) (locs : List Loc) (ls : Array Slot), Wd D A s.heap (oA T 12 a_c x_c_59 ++ (oA T 20 a_t x_t_59 ++ (oA T 20 a_g x_g_59 ++ (oA T 60 a_q x_q_59 ++ (oA T 5 a_n x_n_59 ++ (oc_X10 T (ad 0) (bb ad) (x_K_59 0) ++ (wkL T ad x_K_59 L18 ++ Z))))))) H locs → lv_has ls 18 [(0, .ref (ad 0 0)), (1, .int v1_59), (2, .int v2_59), (3, .ref a_c), (4, .ref a_t), (5, .ref a_g), (6, .ref a_q), (7, .ref a_n), (8, .int v8_59)] → f_L_grammar_J59 x_K_59 x_c_59 x_t_59 x_g_59 x_q_59 x_n_59 x_N_59 v1_59 v2_59 v8_59 s0_59 = some (r, x_K9, x_c9, x_t9, x_g9, x_q9, x_n9) → W p l e (rmL 8 1) s m args below meth c H locs x_N_59 (16 * x_N_59) Q (F0 m 59 ls [.int s0_59]) := by
    intro x_K_59 x_c_59 x_t_59 x_g_59 x_q_59 x_n_59 x_N_59 v1_59 v2_59 v8_59 s0_59 hN_59 H locs ls hW hl h
    rw [f_L_grammar_J59] at h
    refine lv_istore (lv' := [(9, .int s0_59), (0, .ref (ad 0 0)), (1, .int v1_59), (2, .int v2_59), (3, .ref a_c), (4, .ref a_t), (5, .ref a_g), (6, .ref a_q), (7, .ref a_n), (8, .int v8_59)]) hx hb dL_grammar_59 hl (by decide) rfl (fun ls hl => ?_)
    refine lv_iload_n hx hb dL_grammar_61 rfl (lv_at hl 2 rfl) ?_
    refine lv_if_ne (tgt := 284) hx hb dL_grammar_62 (by decide) (fun c11 => ?_) (fun c11 => ?_)
    · replace h := ite_f c11 h
      refine lv_iload_n hx hb dL_grammar_284 rfl (lv_at hl 2 rfl) ?_
      refine lv_iconst (v := 1) hx hb dL_grammar_285 (by decide) ?_
      refine lv_icmp_ne (tgt := 525) hx hb dL_grammar_286 (by decide) (fun c12 => ?_) (fun c12 => ?_)
      · replace h := ite_f c12 h
        refine lv_iload_n hx hb dL_grammar_525 rfl (lv_at hl 3 rfl) ?_
        refine lv_aload_n hx hb dL_grammar_526 rfl (lv_at hl 4 rfl) ?_
        refine lv_iconst (v := 2) hx hb dL_grammar_527 (by decide) ?_
        refine g_iald hx hb hK hW 0 rfl (by decide) dL_grammar_528 ?_
        refine lv_iconst (v := 1) hx hb dL_grammar_529 (by decide) ?_
        refine lv_iadd hx hb dL_grammar_530 ?_
        obtain ⟨r13, q14, h⟩ := bnd1_s h
        refine cs_L_171 hx hb hml hown hts hK hN hE hC hA hW (c_L_some l D T A (oA T 12 a_c x_c_59 ++ (oA T 20 a_t x_t_59 ++ (oA T 20 a_g x_g_59 ++ (oA T 60 a_q x_q_59 ++ (oA T 5 a_n x_n_59 ++ (oc_X10 T (ad 0) (bb ad) (x_K_59 0) ++ (wkL T ad x_K_59 L18 ++ Z))))))) v2_59 ((x_c_59 (2 : Int32).toNatClampNeg) + 1) r13 q14) ⟨Nat.le_of_ble_eq_true rfl, Nat.le_of_ble_eq_true rfl⟩ hl.1 rfl (Nat.le_of_ble_eq_true rfl) dL_grammar_531 (hf0 hN_59) rfl (fun H locs hW => ?_)
        refine lv_istore (lv' := [(10, .int r13), (9, .int s0_59), (0, .ref (ad 0 0)), (1, .int v1_59), (2, .int v2_59), (3, .ref a_c), (4, .ref a_t), (5, .ref a_g), (6, .ref a_q), (7, .ref a_n), (8, .int v8_59)]) hx hb dL_grammar_534 hl (by decide) rfl (fun ls hl => ?_)
        refine lv_iload hx hb dL_grammar_536 (lv_at hl 0 rfl) ?_
        refine lv_aload_n hx hb dL_grammar_538 rfl (lv_at hl 5 rfl) ?_
        refine lv_iconst (v := 2) hx hb dL_grammar_539 (by decide) ?_
        refine g_iald hx hb hK hW 0 rfl (by decide) dL_grammar_540 ?_
        refine lv_icmp_ge (tgt := 548) hx hb dL_grammar_541 (by decide) (fun c15 => ?_) (fun c15 => ?_)
        · replace h := ite_t c15 h
          refine lv_iconst (v := 0) hx hb dL_grammar_548 (by decide) ?_
          exact J549 _ _ _ _ _ _ _ _ _ _ hN_59 H locs ls hW (lv_sub hl [2, 4, 5, 7, 8, 9, 0] rfl) h
        · replace h := ite_f c15 h
          refine lv_iconst (v := 1) hx hb dL_grammar_544 (by decide) ?_
          refine lv_goto (tgt := 549) hx hb dL_grammar_545 (by decide) ?_
          exact J549 _ _ _ _ _ _ _ _ _ _ hN_59 H locs ls hW (lv_sub hl [2, 4, 5, 7, 8, 9, 0] rfl) h
      · replace h := ite_t c12 h
        refine lv_iload_n hx hb dL_grammar_289 rfl (lv_at hl 3 rfl) ?_
        refine lv_bipush (v := 7) hx hb dL_grammar_290 (by decide) ?_
        refine lv_ishr hx hb dL_grammar_292 ?_
        refine lv_iconst (v := 2) hx hb dL_grammar_293 (by decide) ?_
        obtain ⟨r68, q69, h⟩ := bnd1_s h
        refine cs_L_171 hx hb hml hown hts hK hN hE hC hA hW (c_L_some l D T A (oA T 12 a_c x_c_59 ++ (oA T 20 a_t x_t_59 ++ (oA T 20 a_g x_g_59 ++ (oA T 60 a_q x_q_59 ++ (oA T 5 a_n x_n_59 ++ (oc_X10 T (ad 0) (bb ad) (x_K_59 0) ++ (wkL T ad x_K_59 L18 ++ Z))))))) (v2_59 >>> ((7 : Int32) &&& 31)) 2 r68 q69) ⟨Nat.le_of_ble_eq_true rfl, Nat.le_of_ble_eq_true rfl⟩ hl.1 rfl (Nat.le_of_ble_eq_true rfl) dL_grammar_294 (hf0 hN_59) rfl (fun H locs hW => ?_)
        refine lv_if_ne (tgt := 305) hx hb dL_grammar_297 (by decide) (fun c70 => ?_) (fun c70 => ?_)
        · replace h := ite_f c70 h
          refine lv_iconst (v := 4) hx hb dL_grammar_305 (by decide) ?_
          refine lv_iload_n hx hb dL_grammar_306 rfl (lv_at hl 3 rfl) ?_
          refine lv_iconst (v := 5) hx hb dL_grammar_307 (by decide) ?_
          refine lv_ishr hx hb dL_grammar_308 ?_
          refine lv_iconst (v := 5) hx hb dL_grammar_309 (by decide) ?_
          obtain ⟨r71, q72, h⟩ := bnd1_s h
          refine cs_L_171 hx hb hml hown hts hK hN hE hC hA hW (c_L_some l D T A (oA T 12 a_c x_c_59 ++ (oA T 20 a_t x_t_59 ++ (oA T 20 a_g x_g_59 ++ (oA T 60 a_q x_q_59 ++ (oA T 5 a_n x_n_59 ++ (oc_X10 T (ad 0) (bb ad) (x_K_59 0) ++ (wkL T ad x_K_59 L18 ++ Z))))))) (v2_59 >>> ((5 : Int32) &&& 31)) 5 r71 q72) ⟨Nat.le_of_ble_eq_true rfl, Nat.le_of_ble_eq_true rfl⟩ hl.1 rfl (Nat.le_of_ble_eq_true rfl) dL_grammar_310 (hf0 hN_59) rfl (fun H locs hW => ?_)
          refine lv_iadd hx hb dL_grammar_313 ?_
          exact J314 _ _ _ _ _ _ _ _ _ _ hN_59 H locs ls hW (lv_sub hl [1, 3, 4, 6, 9] rfl) h
        · replace h := ite_t c70 h
          refine lv_bipush (v := 9) hx hb dL_grammar_300 (by decide) ?_
          refine lv_goto (tgt := 314) hx hb dL_grammar_302 (by decide) ?_
          exact J314 _ _ _ _ _ _ _ _ _ _ hN_59 H locs ls hW (lv_sub hl [1, 3, 4, 6, 9] rfl) h
    · replace h := ite_t c11 h
      refine lv_iload_n hx hb dL_grammar_65 rfl (lv_at hl 3 rfl) ?_
      refine lv_bipush (v := 7) hx hb dL_grammar_66 (by decide) ?_
      refine lv_ishr hx hb dL_grammar_68 ?_
      refine lv_iconst (v := 2) hx hb dL_grammar_69 (by decide) ?_
      obtain ⟨r108, q109, h⟩ := bnd1_s h
      refine cs_L_171 hx hb hml hown hts hK hN hE hC hA hW (c_L_some l D T A (oA T 12 a_c x_c_59 ++ (oA T 20 a_t x_t_59 ++ (oA T 20 a_g x_g_59 ++ (oA T 60 a_q x_q_59 ++ (oA T 5 a_n x_n_59 ++ (oc_X10 T (ad 0) (bb ad) (x_K_59 0) ++ (wkL T ad x_K_59 L18 ++ Z))))))) (v2_59 >>> ((7 : Int32) &&& 31)) 2 r108 q109) ⟨Nat.le_of_ble_eq_true rfl, Nat.le_of_ble_eq_true rfl⟩ hl.1 rfl (Nat.le_of_ble_eq_true rfl) dL_grammar_70 (hf0 hN_59) rfl (fun H locs hW => ?_)
      refine lv_if_ne (tgt := 80) hx hb dL_grammar_73 (by decide) (fun c110 => ?_) (fun c110 => ?_)
      · replace h := ite_f c110 h
        refine lv_iconst (v := 0) hx hb dL_grammar_80 (by decide) ?_
        exact J81 _ _ _ _ _ _ _ _ _ _ _ hN_59 H locs ls hW (lv_sub hl [1, 3, 4, 5, 9, 0] rfl) h
      · replace h := ite_t c110 h
        refine lv_iconst (v := 1) hx hb dL_grammar_76 (by decide) ?_
        refine lv_goto (tgt := 81) hx hb dL_grammar_77 (by decide) ?_
        exact J81 _ _ _ _ _ _ _ _ _ _ _ hN_59 H locs ls hW (lv_sub hl [1, 3, 4, 5, 9, 0] rfl) h
  have J27 : ∀ (x_K_27 : Nat → Ob) (x_c_27 : Nat → Int32) (x_t_27 : Nat → Int32) (x_g_27 : Nat → Int32) (x_q_27 : Nat → Int32) (x_n_27 : Nat → Int32) (x_N_27 : Nat) (v1_27 : Int32) (v2_27 : Int32) (s0_27 : Int32) (hN_27 : x_N_27 ≤ 1) (H : Heap) (locs : List Loc) (ls : Array Slot), Wd D A s.heap (oA T 12 a_c x_c_27 ++ (oA T 20 a_t x_t_27 ++ (oA T 20 a_g x_g_27 ++ (oA T 60 a_q x_q_27 ++ (oA T 5 a_n x_n_27 ++ (oc_X10 T (ad 0) (bb ad) (x_K_27 0) ++ (wkL T ad x_K_27 L18 ++ Z))))))) H locs → lv_has ls 18 [(0, .ref (ad 0 0)), (1, .int v1_27), (2, .int v2_27), (3, .ref a_c), (4, .ref a_t), (5, .ref a_g), (6, .ref a_q), (7, .ref a_n)] → f_L_grammar_J27 x_K_27 x_c_27 x_t_27 x_g_27 x_q_27 x_n_27 x_N_27 v1_27 v2_27 s0_27 = some (r, x_K9, x_c9, x_t9, x_g9, x_q9, x_n9) → W p l e (rmL 8 1) s m args below meth c H locs x_N_27 (16 * x_N_27) Q (F0 m 27 ls [.int s0_27]) := by
    intro x_K_27 x_c_27 x_t_27 x_g_27 x_q_27 x_n_27 x_N_27 v1_27 v2_27 s0_27 hN_27 H locs ls hW hl h
    rw [f_L_grammar_J27] at h
    refine lv_istore (lv' := [(8, .int s0_27), (0, .ref (ad 0 0)), (1, .int v1_27), (2, .int v2_27), (3, .ref a_c), (4, .ref a_t), (5, .ref a_g), (6, .ref a_q), (7, .ref a_n)]) hx hb dL_grammar_27 hl (by decide) rfl (fun ls hl => ?_)
    refine lv_iload_n hx hb dL_grammar_29 rfl (lv_at hl 3 rfl) ?_
    refine lv_iconst (v := 3) hx hb dL_grammar_30 (by decide) ?_
    refine lv_ishr hx hb dL_grammar_31 ?_
    refine lv_iconst (v := 3) hx hb dL_grammar_32 (by decide) ?_
    obtain ⟨r6, q7, h⟩ := bnd1_s h
    refine cs_L_171 hx hb hml hown hts hK hN hE hC hA hW (c_L_some l D T A (oA T 12 a_c x_c_27 ++ (oA T 20 a_t x_t_27 ++ (oA T 20 a_g x_g_27 ++ (oA T 60 a_q x_q_27 ++ (oA T 5 a_n x_n_27 ++ (oc_X10 T (ad 0) (bb ad) (x_K_27 0) ++ (wkL T ad x_K_27 L18 ++ Z))))))) (v2_27 >>> ((3 : Int32) &&& 31)) 3 r6 q7) ⟨Nat.le_of_ble_eq_true rfl, Nat.le_of_ble_eq_true rfl⟩ hl.1 rfl (Nat.le_of_ble_eq_true rfl) dL_grammar_33 (hf0 hN_27) rfl (fun H locs hW => ?_)
    refine lv_if_ne (tgt := 49) hx hb dL_grammar_36 (by decide) (fun c8 => ?_) (fun c8 => ?_)
    · replace h := ite_f c8 h
      refine lv_iconst (v := 2) hx hb dL_grammar_49 (by decide) ?_
      refine lv_iload_n hx hb dL_grammar_50 rfl (lv_at hl 3 rfl) ?_
      refine lv_bipush (v := 6) hx hb dL_grammar_51 (by decide) ?_
      refine lv_ishr hx hb dL_grammar_53 ?_
      refine lv_iconst (v := 4) hx hb dL_grammar_54 (by decide) ?_
      obtain ⟨r9, q10, h⟩ := bnd1_s h
      refine cs_L_171 hx hb hml hown hts hK hN hE hC hA hW (c_L_some l D T A (oA T 12 a_c x_c_27 ++ (oA T 20 a_t x_t_27 ++ (oA T 20 a_g x_g_27 ++ (oA T 60 a_q x_q_27 ++ (oA T 5 a_n x_n_27 ++ (oc_X10 T (ad 0) (bb ad) (x_K_27 0) ++ (wkL T ad x_K_27 L18 ++ Z))))))) (v2_27 >>> ((6 : Int32) &&& 31)) 4 r9 q10) ⟨Nat.le_of_ble_eq_true rfl, Nat.le_of_ble_eq_true rfl⟩ hl.1 rfl (Nat.le_of_ble_eq_true rfl) dL_grammar_55 (hf0 hN_27) rfl (fun H locs hW => ?_)
      refine lv_iadd hx hb dL_grammar_58 ?_
      exact J59 _ _ _ _ _ _ _ _ _ _ _ hN_27 H locs ls hW (lv_sub hl [1, 2, 3, 4, 5, 6, 7, 8, 0] rfl) h
    · replace h := ite_t c8 h
      refine lv_iload_n hx hb dL_grammar_39 rfl (lv_at hl 3 rfl) ?_
      refine lv_iconst (v := 4) hx hb dL_grammar_40 (by decide) ?_
      refine lv_ishr hx hb dL_grammar_41 ?_
      refine lv_iconst (v := 2) hx hb dL_grammar_42 (by decide) ?_
      obtain ⟨r145, q146, h⟩ := bnd1_s h
      refine cs_L_171 hx hb hml hown hts hK hN hE hC hA hW (c_L_some l D T A (oA T 12 a_c x_c_27 ++ (oA T 20 a_t x_t_27 ++ (oA T 20 a_g x_g_27 ++ (oA T 60 a_q x_q_27 ++ (oA T 5 a_n x_n_27 ++ (oc_X10 T (ad 0) (bb ad) (x_K_27 0) ++ (wkL T ad x_K_27 L18 ++ Z))))))) (v2_27 >>> ((4 : Int32) &&& 31)) 2 r145 q146) ⟨Nat.le_of_ble_eq_true rfl, Nat.le_of_ble_eq_true rfl⟩ hl.1 rfl (Nat.le_of_ble_eq_true rfl) dL_grammar_43 (hf0 hN_27) rfl (fun H locs hW => ?_)
      refine lv_goto (tgt := 59) hx hb dL_grammar_46 (by decide) ?_
      exact J59 _ _ _ _ _ _ _ _ _ _ _ hN_27 H locs ls hW (lv_sub hl [1, 2, 3, 4, 5, 6, 7, 8, 0] rfl) h
  refine lv_iload_n hx hb dL_grammar_0 rfl (lv_at hl 2 rfl) ?_
  refine lv_iconst (v := 3) hx hb dL_grammar_1 (by decide) ?_
  obtain ⟨r1, q2, h⟩ := bnd1_s h
  refine cs_L_171 hx hb hml hown hts hK hN hE hC hA hW (c_L_some l D T A (oA T 12 a_c x_c ++ (oA T 20 a_t x_t ++ (oA T 20 a_g x_g ++ (oA T 60 a_q x_q ++ (oA T 5 a_n x_n ++ (oc_X10 T (ad 0) (bb ad) (x_K 0) ++ (wkL T ad x_K L18 ++ Z))))))) p3 3 r1 q2) ⟨Nat.le_of_ble_eq_true rfl, Nat.le_of_ble_eq_true rfl⟩ hl.1 rfl (Nat.le_of_ble_eq_true rfl) dL_grammar_2 (hf0 (Nat.zero_le _)) rfl (fun H locs hW => ?_)
  refine lv_if_ne (tgt := 18) hx hb dL_grammar_5 (by decide) (fun c3 => ?_) (fun c3 => ?_)
  · replace h := ite_f c3 h
    refine lv_iconst (v := 2) hx hb dL_grammar_18 (by decide) ?_
    refine lv_iload_n hx hb dL_grammar_19 rfl (lv_at hl 2 rfl) ?_
    refine lv_iconst (v := 5) hx hb dL_grammar_20 (by decide) ?_
    refine lv_ishr hx hb dL_grammar_21 ?_
    refine lv_iconst (v := 4) hx hb dL_grammar_22 (by decide) ?_
    obtain ⟨r4, q5, h⟩ := bnd1_s h
    refine cs_L_171 hx hb hml hown hts hK hN hE hC hA hW (c_L_some l D T A (oA T 12 a_c x_c ++ (oA T 20 a_t x_t ++ (oA T 20 a_g x_g ++ (oA T 60 a_q x_q ++ (oA T 5 a_n x_n ++ (oc_X10 T (ad 0) (bb ad) (x_K 0) ++ (wkL T ad x_K L18 ++ Z))))))) (p3 >>> ((5 : Int32) &&& 31)) 4 r4 q5) ⟨Nat.le_of_ble_eq_true rfl, Nat.le_of_ble_eq_true rfl⟩ hl.1 rfl (Nat.le_of_ble_eq_true rfl) dL_grammar_23 (hf0 (Nat.zero_le _)) rfl (fun H locs hW => ?_)
    refine lv_iadd hx hb dL_grammar_26 ?_
    exact J27 _ _ _ _ _ _ _ _ _ _ (Nat.zero_le _) H locs ls hW (lv_sub hl [0, 1, 2, 3, 4, 5, 6, 7] rfl) h
  · replace h := ite_t c3 h
    refine lv_iload_n hx hb dL_grammar_8 rfl (lv_at hl 2 rfl) ?_
    refine lv_iconst (v := 2) hx hb dL_grammar_9 (by decide) ?_
    refine lv_ishr hx hb dL_grammar_10 ?_
    refine lv_iconst (v := 2) hx hb dL_grammar_11 (by decide) ?_
    obtain ⟨r147, q148, h⟩ := bnd1_s h
    refine cs_L_171 hx hb hml hown hts hK hN hE hC hA hW (c_L_some l D T A (oA T 12 a_c x_c ++ (oA T 20 a_t x_t ++ (oA T 20 a_g x_g ++ (oA T 60 a_q x_q ++ (oA T 5 a_n x_n ++ (oc_X10 T (ad 0) (bb ad) (x_K 0) ++ (wkL T ad x_K L18 ++ Z))))))) (p3 >>> ((2 : Int32) &&& 31)) 2 r147 q148) ⟨Nat.le_of_ble_eq_true rfl, Nat.le_of_ble_eq_true rfl⟩ hl.1 rfl (Nat.le_of_ble_eq_true rfl) dL_grammar_12 (hf0 (Nat.zero_le _)) rfl (fun H locs hW => ?_)
    refine lv_goto (tgt := 27) hx hb dL_grammar_15 (by decide) ?_
    exact J27 _ _ _ _ _ _ _ _ _ _ (Nat.zero_le _) H locs ls hW (lv_sub hl [0, 1, 2, 3, 4, 5, 6, 7] rfl) h
set_option maxHeartbeats 16000000 in
set_option maxRecDepth 100000 in
theorem c_L_texts (l : Launch) (hfl : l.stackTraces = false) (D : va_G) (T : Nat → ClassId) (A : Nat → Prop) (ad : Nat → Nat → Nat) (hok : okad ad) (a_c : Nat) (a_x : Nat) (Z : va_W) (x_K : Nat → Ob) (x_c : Nat → Int32) (x_x : Nat → Int32) (p2 : Int32) (p3 : Int32) (r : Int32) (x_K9 : Nat → Ob) (x_c9 : Nat → Int32) (x_x9 : Nat → Int32) (h : f_L_texts x_K x_c x_x p2 p3 = some (r, x_K9, x_c9, x_x9)) : Met l yL_texts (Cond.code yL_texts cL_texts 12 (some .boolean) :: wsL_law) (rmL 13 1) (Pl D T A (oA T 12 a_c x_c ++ (oA T 6 a_x x_x ++ (oc_X10 T (ad 0) (bb ad) (x_K 0) ++ (wkL T ad x_K L18 ++ Z)))) [.ref (ad 0 0), .int p2, .int p3, .ref a_c, .ref a_x]) (Qgi D A (oA T 12 a_c x_c9 ++ (oA T 6 a_x x_x9 ++ (oc_X10 T (ad 0) (bb ad) (x_K9 0) ++ (wkL T ad x_K9 L18 ++ Z)))) r) 1 16 A := by
  refine Met.ofW (cc := cL_texts) (maxL := 12) (ret := (some .boolean)) (by decide +kernel) rfl ?_
  intro p e s m args below meth c s₁ B hml hv
  obtain ⟨ha, hP, hK, hD, hN, hE, hC, hA⟩ := hv
  have hx := B.exec
  have hb := B.bytes
  have hr := B.returns
  have hlk := B.notSynchronized
  have hts : ∀ w ∈ wsL_law, w.before args s = true := fun w hw => atoms_spec B.pre w (List.mem_cons_of_mem _ hw)
  have hown : s.vm.findClass RL = some m.cls := findClass_of_methodNamed B.named
  have hW : Wd D A s.heap (oA T 12 a_c x_c ++ (oA T 6 a_x x_x ++ (oc_X10 T (ad 0) (bb ad) (x_K 0) ++ (wkL T ad x_K L18 ++ Z)))) s.heap [] := ⟨hP, hD, va_S.rf⟩
  have hl := lv_entry [.ref (ad 0 0), .int p2, .int p3, .ref a_c, .ref a_x] (n := 12) (Nat.le_of_ble_eq_true rfl)
  refine W.eq (en_eq ha) ?_
  generalize (lg_sl [.ref (ad 0 0), .int p2, .int p3, .ref a_c, .ref a_x] ++ List.replicate (12 - (lg_sl [.ref (ad 0 0), .int p2, .int p3, .ref a_c, .ref a_x]).length) Slot.unset).toArray = ls at hl ⊢
  have hl : lv_has ls 12 [(0, .ref (ad 0 0)), (1, .int p2), (2, .int p3), (3, .ref a_c), (4, .ref a_x)] := hl
  clear hP hD B ha
  obtain ⟨Q, hQ⟩ : ∃ Q, Q = MQ below (Qgi D A (oA T 12 a_c x_c9 ++ (oA T 6 a_x x_x9 ++ (oc_X10 T (ad 0) (bb ad) (x_K9 0) ++ (wkL T ad x_K9 L18 ++ Z)))) r) args s 1 16 A := ⟨_, rfl⟩
  rw [← hQ]
  change W p l e (rmL 13 1) s m args below meth c s.heap [] 0 (16 * 0) Q (F0 m 0 ls [])
  rw [f_L_texts] at h
  suffices hm : ∀ (H : Heap) (locs : List Loc), Wd D A s.heap (oA T 12 a_c x_c ++ (oA T 6 a_x x_x ++ (oc_X10 T (ad 0) (bb ad) (x_K 0) ++ (wkL T ad x_K L18 ++ Z)))) H locs → W p l e (rmL 13 1) s m args below meth c H locs 0 (16 * 0) Q (F0 m 0 ls []) from hm _ _ hW
  clear hW
  intro H locs hW
  have L311 : ∀ (n : Nat) (x_K_311 : Nat → Ob) (x_c_311 : Nat → Int32) (x_x_311 : Nat → Int32) (x_N_311 : Nat) (v5_311 : Int32) (v8_311 : Int32) (v9_311 : Int32) (v10_311 : Int32) (v11_311 : Int32) (hN_311 : x_N_311 ≤ 1) (H : Heap) (locs : List Loc) (ls : Array Slot) (o11_311r : Int32) (y_x_311r : Nat → Int32), Wd D A s.heap (oA T 12 a_c x_c_311 ++ (oA T 6 a_x x_x_311 ++ (oc_X10 T (ad 0) (bb ad) (x_K_311 0) ++ (wkL T ad x_K_311 L18 ++ Z)))) H locs → lv_has ls 12 [(0, .ref (ad 0 0)), (3, .ref a_c), (4, .ref a_x), (5, .int v5_311), (8, .int v8_311), (9, .int v9_311), (10, .int v10_311), (11, .int v11_311)] → f_L_texts_L311 n x_K_311 x_c_311 x_x_311 x_N_311 v5_311 v8_311 v9_311 v10_311 v11_311 = some (o11_311r, y_x_311r) → (∀ (H : Heap) (locs : List Loc) (ls : Array Slot), Wd D A s.heap (oA T 12 a_c x_c_311 ++ (oA T 6 a_x y_x_311r ++ (oc_X10 T (ad 0) (bb ad) (x_K_311 0) ++ (wkL T ad x_K_311 L18 ++ Z)))) H locs → lv_has ls 12 [(0, .ref (ad 0 0)), (3, .ref a_c), (5, .int v5_311), (8, .int v8_311), (9, .int v9_311), (10, .int v10_311)] → W p l e (rmL 13 1) s m args below meth c H locs x_N_311 (16 * x_N_311) Q (F0 m 358 ls [])) → W p l e (rmL 13 1) s m args below meth c H locs x_N_311 (16 * x_N_311) Q (F0 m 311 ls []) := by
    intro n
    induction n with
    | zero =>
      intro x_K_311 x_c_311 x_x_311 x_N_311 v5_311 v8_311 v9_311 v10_311 v11_311 hN_311 H locs ls o11_311r y_x_311r hW hl h k1
      rw [f_L_texts_L311] at h
      cases h
    | succ n ih =>
      intro x_K_311 x_c_311 x_x_311 x_N_311 v5_311 v8_311 v9_311 v10_311 v11_311 hN_311 H locs ls o11_311r y_x_311r hW hl h k1
      rw [f_L_texts_L311] at h
      refine lv_iload hx hb dL_texts_311 (lv_at hl 5 rfl) ?_
      refine lv_if_eq (tgt := 358) hx hb dL_texts_313 (by decide) (fun c17 => ?_) (fun c17 => ?_)
      · replace h := ite_t c17 h
        obtain ⟨rfl, rfl⟩ := ret2 h
        exact k1 H locs ls hW (lv_sub hl [0, 1, 3, 4, 5, 6] rfl)
      · replace h := ite_f c17 h
        refine lv_iload hx hb dL_texts_316 (lv_at hl 7 rfl) ?_
        refine lv_iconst (v := 1) hx hb dL_texts_318 (by decide) ?_
        refine lv_iadd hx hb dL_texts_319 ?_
        refine lv_aload_n hx hb dL_texts_320 rfl (lv_at hl 1 rfl) ?_
        refine lv_bipush (v := 8) hx hb dL_texts_321 (by decide) ?_
        refine lv_iload hx hb dL_texts_323 (lv_at hl 3 rfl) ?_
        refine lv_iadd hx hb dL_texts_325 ?_
        obtain ⟨g18, h⟩ := grd_s h
        refine g_iald hx hb hK hW 0 rfl g18 dL_texts_326 ?_
        refine lv_icmp_ge (tgt := 358) hx hb dL_texts_327 (by decide) (fun c19 => ?_) (fun c19 => ?_)
        · replace h := ite_t c19 h
          obtain ⟨rfl, rfl⟩ := ret2 h
          exact k1 H locs ls hW (lv_sub hl [0, 1, 3, 4, 5, 6] rfl)
        · replace h := ite_f c19 h
          refine lv_aload hx hb dL_texts_330 (lv_at hl 2 rfl) ?_
          refine lv_iconst (v := 3) hx hb dL_texts_332 (by decide) ?_
          refine lv_iload hx hb dL_texts_333 (lv_at hl 3 rfl) ?_
          refine lv_imul hx hb dL_texts_335 ?_
          refine lv_iload hx hb dL_texts_336 (lv_at hl 7 rfl) ?_
          refine lv_iadd hx hb dL_texts_338 ?_
          refine lv_aload hx hb dL_texts_339 (lv_at hl 2 rfl) ?_
          refine lv_iconst (v := 3) hx hb dL_texts_341 (by decide) ?_
          refine lv_iload hx hb dL_texts_342 (lv_at hl 3 rfl) ?_
          refine lv_imul hx hb dL_texts_344 ?_
          refine lv_iload hx hb dL_texts_345 (lv_at hl 7 rfl) ?_
          refine lv_iadd hx hb dL_texts_347 ?_
          refine lv_iconst (v := 1) hx hb dL_texts_348 (by decide) ?_
          refine lv_iadd hx hb dL_texts_349 ?_
          obtain ⟨g20, h⟩ := grd_s h
          refine g_iald hx hb hK hW 1 rfl g20 dL_texts_350 ?_
          obtain ⟨g21, h⟩ := grd_s h
          refine g_iast (ws9 := oA T 12 a_c x_c_311 ++ (oA T 6 a_x (upd x_x_311 ((3 * v5_311) + v11_311).toNatClampNeg (x_x_311 (((3 * v5_311) + v11_311) + 1).toNatClampNeg)) ++ (oc_X10 T (ad 0) (bb ad) (x_K_311 0) ++ (wkL T ad x_K_311 L18 ++ Z)))) hx hb hK hW 1 rfl g21 rfl dL_texts_351 (fun H locs hW => ?_)
          obtain ⟨x_x22, ex_x22⟩ : ∃ y : Nat → Int32, y = upd x_x_311 ((3 * v5_311) + v11_311).toNatClampNeg (x_x_311 (((3 * v5_311) + v11_311) + 1).toNatClampNeg) := ⟨_, rfl⟩
          rw [← ex_x22] at hW
          replace h := lb_at ex_x22 h
          obtain ⟨w11_23, ew11_23⟩ : ∃ y : Int32, y = v11_311 + 1 := ⟨_, rfl⟩
          replace h := lb_at ew11_23 h
          refine lv_iinc (v := w11_23) (lv' := [(11, .int w11_23), (0, .ref (ad 0 0)), (3, .ref a_c), (4, .ref a_x), (5, .int v5_311), (8, .int v8_311), (9, .int v9_311), (10, .int v10_311)]) hx hb dL_texts_352 hl (k := 7) rfl (by rw [ew11_23]; rfl) (by decide) rfl (fun ls hl => ?_)
          refine lv_goto (tgt := 311) hx hb dL_texts_355 (by decide) ?_
          exact ih _ _ _ _ _ _ _ _ _ hN_311 H locs ls _ _ hW (lv_sub hl [1, 2, 3, 4, 5, 6, 7, 0] rfl) h k1
  have J396 : ∀ (x_K_396 : Nat → Ob) (x_c_396 : Nat → Int32) (x_x_396 : Nat → Int32) (x_N_396 : Nat) (v5_396 : Int32) (v8_396 : Int32) (v10_396 : Int32) (s1_396 : Int32) (s2_396 : Int32) (s3_396 : Int32) (hN_396 : x_N_396 ≤ 1) (H : Heap) (locs : List Loc) (ls : Array Slot), Wd D A s.heap (oA T 12 a_c x_c_396 ++ (oA T 6 a_x x_x_396 ++ (oc_X10 T (ad 0) (bb ad) (x_K_396 0) ++ (wkL T ad x_K_396 L18 ++ Z)))) H locs → lv_has ls 12 [(0, .ref (ad 0 0)), (5, .int v5_396), (8, .int v8_396), (10, .int v10_396)] → f_L_texts_J396 x_K_396 x_c_396 x_x_396 x_N_396 v5_396 v8_396 v10_396 s1_396 s2_396 s3_396 = some (r, x_K9, x_c9, x_x9) → W p l e (rmL 13 1) s m args below meth c H locs x_N_396 (16 * x_N_396) Q (F0 m 396 ls [.int s3_396, .int s2_396, .int s1_396, .ref a_c]) := by
    intro x_K_396 x_c_396 x_x_396 x_N_396 v5_396 v8_396 v10_396 s1_396 s2_396 s3_396 hN_396 H locs ls hW hl h
    rw [f_L_texts_J396] at h
    refine lv_iadd hx hb dL_texts_396 ?_
    obtain ⟨g32, h⟩ := grd_s h
    refine g_iast (ws9 := oA T 12 a_c (upd x_c_396 s1_396.toNatClampNeg (s2_396 + s3_396)) ++ (oA T 6 a_x x_x_396 ++ (oc_X10 T (ad 0) (bb ad) (x_K_396 0) ++ (wkL T ad x_K_396 L18 ++ Z)))) hx hb hK hW 0 rfl g32 rfl dL_texts_397 (fun H locs hW => ?_)
    obtain ⟨x_c33, ex_c33⟩ : ∃ y : Nat → Int32, y = upd x_c_396 s1_396.toNatClampNeg (s2_396 + s3_396) := ⟨_, rfl⟩
    rw [← ex_c33] at hW
    replace h := lb_at ex_c33 h
    refine lv_aload_n hx hb dL_texts_398 rfl (lv_at hl 0 rfl) ?_
    refine lv_iconst (v := 1) hx hb dL_texts_399 (by decide) ?_
    refine lv_iload hx hb dL_texts_400 (lv_at hl 1 rfl) ?_
    refine lv_iload hx hb dL_texts_402 (lv_at hl 2 rfl) ?_
    replace hW := hW.perm pf3
    replace hW := hW.perm pf3
    obtain ⟨r34, x_K35, q36, h⟩ := bnd2_s h
    obtain ⟨gN37, h⟩ := grd_s h
    have gN37 := of_decide_eq_true gN37
    refine cs_L_192 hx hb hml hown hts hK hN hE hC hA hW (c_L_two l hfl D T A ad hok (oA T 12 a_c x_c33 ++ (oA T 6 a_x x_x_396 ++ Z)) x_K_396 1 v5_396 v8_396 r34 x_K35 q36) ⟨Nat.le_of_ble_eq_true rfl, Nat.le_of_ble_eq_true rfl⟩ hl.1 rfl (Nat.le_of_ble_eq_true rfl) dL_texts_404 (hfB gN37) rfl (fun H locs hW => ?_)
    replace hW := hW.perm pf1
    replace hW := hW.perm pf1
    replace hW := hW.perm pf3
    replace hW := hW.perm pf3
    refine lv_iload hx hb dL_texts_407 (lv_at hl 3 rfl) ?_
    refine lv_icmp_ne (tgt := 416) hx hb dL_texts_409 (by decide) (fun c38 => ?_) (fun c38 => ?_)
    · replace h := ite_f c38 h
      refine lv_iconst (v := 0) hx hb dL_texts_416 (by decide) ?_
      obtain ⟨rfl, rfl, rfl, rfl⟩ := ret4 h
      rw [hQ]
      refine W.widen (k := 1) (n := 16) gN37 (Nat.mul_le_mul_left 16 gN37) ?_
      exact g_retz hx hb hr hlk hW (by decide) dL_texts_417
    · replace h := ite_t c38 h
      refine lv_iconst (v := 1) hx hb dL_texts_412 (by decide) ?_
      refine lv_goto (tgt := 417) hx hb dL_texts_413 (by decide) ?_
      obtain ⟨rfl, rfl, rfl, rfl⟩ := ret4 h
      rw [hQ]
      refine W.widen (k := 1) (n := 16) gN37 (Nat.mul_le_mul_left 16 gN37) ?_
      exact g_retz hx hb hr hlk hW (by decide) dL_texts_417
  have J376 : ∀ (x_K_376 : Nat → Ob) (x_c_376 : Nat → Int32) (x_x_376 : Nat → Int32) (x_N_376 : Nat) (v5_376 : Int32) (v8_376 : Int32) (v9_376 : Int32) (v10_376 : Int32) (s1_376 : Int32) (s2_376 : Int32) (s3_376 : Int32) (hN_376 : x_N_376 ≤ 1) (H : Heap) (locs : List Loc) (ls : Array Slot), Wd D A s.heap (oA T 12 a_c x_c_376 ++ (oA T 6 a_x x_x_376 ++ (oc_X10 T (ad 0) (bb ad) (x_K_376 0) ++ (wkL T ad x_K_376 L18 ++ Z)))) H locs → lv_has ls 12 [(0, .ref (ad 0 0)), (3, .ref a_c), (5, .int v5_376), (8, .int v8_376), (9, .int v9_376), (10, .int v10_376)] → f_L_texts_J376 x_K_376 x_c_376 x_x_376 x_N_376 v5_376 v8_376 v9_376 v10_376 s1_376 s2_376 s3_376 = some (r, x_K9, x_c9, x_x9) → W p l e (rmL 13 1) s m args below meth c H locs x_N_376 (16 * x_N_376) Q (F0 m 376 ls [.int s3_376, .int s2_376, .int s1_376, .ref a_c]) := by
    intro x_K_376 x_c_376 x_x_376 x_N_376 v5_376 v8_376 v9_376 v10_376 s1_376 s2_376 s3_376 hN_376 H locs ls hW hl h
    rw [f_L_texts_J376] at h
    refine lv_isub hx hb dL_texts_376 ?_
    obtain ⟨g28, h⟩ := grd_s h
    refine g_iast (ws9 := oA T 12 a_c (upd x_c_376 s1_376.toNatClampNeg (s2_376 - s3_376)) ++ (oA T 6 a_x x_x_376 ++ (oc_X10 T (ad 0) (bb ad) (x_K_376 0) ++ (wkL T ad x_K_376 L18 ++ Z)))) hx hb hK hW 0 rfl g28 rfl dL_texts_377 (fun H locs hW => ?_)
    obtain ⟨x_c29, ex_c29⟩ : ∃ y : Nat → Int32, y = upd x_c_376 s1_376.toNatClampNeg (s2_376 - s3_376) := ⟨_, rfl⟩
    rw [← ex_c29] at hW
    replace h := lb_at ex_c29 h
    refine lv_aload_n hx hb dL_texts_378 rfl (lv_at hl 1 rfl) ?_
    refine lv_bipush (v := 10) hx hb dL_texts_379 (by decide) ?_
    refine lv_iload hx hb dL_texts_381 (lv_at hl 2 rfl) ?_
    refine lv_iadd hx hb dL_texts_383 ?_
    refine lv_dup2_11 hx hb dL_texts_384 rfl rfl ?_
    obtain ⟨g30, h⟩ := grd_s h
    refine g_iald hx hb hK hW 0 rfl g30 dL_texts_385 ?_
    refine lv_iload hx hb dL_texts_386 (lv_at hl 4 rfl) ?_
    refine lv_if_eq (tgt := 395) hx hb dL_texts_388 (by decide) (fun c31 => ?_) (fun c31 => ?_)
    · replace h := ite_t c31 h
      refine lv_iconst (v := 0) hx hb dL_texts_395 (by decide) ?_
      exact J396 _ _ _ _ _ _ _ _ _ _ hN_376 H locs ls hW (lv_sub hl [0, 2, 3, 5] rfl) h
    · replace h := ite_f c31 h
      refine lv_iconst (v := 1) hx hb dL_texts_391 (by decide) ?_
      refine lv_goto (tgt := 396) hx hb dL_texts_392 (by decide) ?_
      exact J396 _ _ _ _ _ _ _ _ _ _ hN_376 H locs ls hW (lv_sub hl [0, 2, 3, 5] rfl) h
  have J268 : ∀ (x_K_268 : Nat → Ob) (x_c_268 : Nat → Int32) (x_x_268 : Nat → Int32) (x_N_268 : Nat) (v5_268 : Int32) (v6_268 : Int32) (v7_268 : Int32) (v8_268 : Int32) (v9_268 : Int32) (v10_268 : Int32) (hN_268 : x_N_268 ≤ 1) (H : Heap) (locs : List Loc) (ls : Array Slot), Wd D A s.heap (oA T 12 a_c x_c_268 ++ (oA T 6 a_x x_x_268 ++ (oc_X10 T (ad 0) (bb ad) (x_K_268 0) ++ (wkL T ad x_K_268 L18 ++ Z)))) H locs → lv_has ls 12 [(0, .ref (ad 0 0)), (5, .int v5_268), (6, .int v6_268), (7, .int v7_268), (8, .int v8_268), (9, .int v9_268), (10, .int v10_268)] → f_L_texts_J268 x_K_268 x_c_268 x_x_268 x_N_268 v5_268 v6_268 v7_268 v8_268 v9_268 v10_268 = some (r, x_K9, x_c9, x_x9) → W p l e (rmL 13 1) s m args below meth c H locs x_N_268 (16 * x_N_268) Q (F0 m 268 ls []) := by
    intro x_K_268 x_c_268 x_x_268 x_N_268 v5_268 v6_268 v7_268 v8_268 v9_268 v10_268 hN_268 H locs ls hW hl h
    rw [f_L_texts_J268] at h
    refine lv_aload_n hx hb dL_texts_268 rfl (lv_at hl 0 rfl) ?_
    refine lv_iconst (v := 0) hx hb dL_texts_269 (by decide) ?_
    refine lv_iload hx hb dL_texts_270 (lv_at hl 1 rfl) ?_
    refine lv_iload hx hb dL_texts_272 (lv_at hl 4 rfl) ?_
    refine lv_iload hx hb dL_texts_274 (lv_at hl 2 rfl) ?_
    refine lv_iconst (v := 0) hx hb dL_texts_276 (by decide) ?_
    replace hW := hW.perm pf3
    replace hW := hW.perm pf3
    obtain ⟨r40, x_K41, q42, h⟩ := bnd2_s h
    obtain ⟨gN43, h⟩ := grd_s h
    have gN43 := of_decide_eq_true gN43
    refine cs_L_196 hx hb hml hown hts hK hN hE hC hA hW (c_L_more l hfl D T A ad hok (oA T 12 a_c x_c_268 ++ (oA T 6 a_x x_x_268 ++ Z)) x_K_268 0 v5_268 v8_268 v6_268 0 r40 x_K41 q42) ⟨Nat.le_of_ble_eq_true rfl, Nat.le_of_ble_eq_true rfl⟩ hl.1 rfl (Nat.le_of_ble_eq_true rfl) dL_texts_277 (hfB gN43) rfl (fun H locs hW => ?_)
    replace hW := hW.perm pf1
    replace hW := hW.perm pf1
    replace hW := hW.perm pf3
    replace hW := hW.perm pf3
    refine lv_iload hx hb dL_texts_280 (lv_at hl 3 rfl) ?_
    refine lv_if_eq (tgt := 295) hx hb dL_texts_282 (by decide) (fun c44 => ?_) (fun c44 => ?_)
    · replace h := ite_t c44 h
      refine lv_sipush (v := (-1001)) hx hb dL_texts_295 (by decide) ?_
      refine lv_icmp_ne (tgt := 305) hx hb dL_texts_298 (by decide) (fun c45 => ?_) (fun c45 => ?_)
      · replace h := ite_f c45 h
        refine lv_iconst (v := 0) hx hb dL_texts_305 (by decide) ?_
        obtain ⟨rfl, rfl, rfl, rfl⟩ := ret4 h
        rw [hQ]
        refine W.widen (k := 1) (n := 16) gN43 (Nat.mul_le_mul_left 16 gN43) ?_
        exact g_retz hx hb hr hlk hW (by decide) dL_texts_306
      · replace h := ite_t c45 h
        refine lv_iconst (v := 1) hx hb dL_texts_301 (by decide) ?_
        refine lv_goto (tgt := 306) hx hb dL_texts_302 (by decide) ?_
        obtain ⟨rfl, rfl, rfl, rfl⟩ := ret4 h
        rw [hQ]
        refine W.widen (k := 1) (n := 16) gN43 (Nat.mul_le_mul_left 16 gN43) ?_
        exact g_retz hx hb hr hlk hW (by decide) dL_texts_306
    · replace h := ite_f c44 h
      refine lv_iload hx hb dL_texts_285 (lv_at hl 5 rfl) ?_
      refine lv_if_eq (tgt := 295) hx hb dL_texts_287 (by decide) (fun c46 => ?_) (fun c46 => ?_)
      · replace h := ite_t c46 h
        refine lv_sipush (v := (-1001)) hx hb dL_texts_295 (by decide) ?_
        refine lv_icmp_ne (tgt := 305) hx hb dL_texts_298 (by decide) (fun c47 => ?_) (fun c47 => ?_)
        · replace h := ite_f c47 h
          refine lv_iconst (v := 0) hx hb dL_texts_305 (by decide) ?_
          obtain ⟨rfl, rfl, rfl, rfl⟩ := ret4 h
          rw [hQ]
          refine W.widen (k := 1) (n := 16) gN43 (Nat.mul_le_mul_left 16 gN43) ?_
          exact g_retz hx hb hr hlk hW (by decide) dL_texts_306
        · replace h := ite_t c47 h
          refine lv_iconst (v := 1) hx hb dL_texts_301 (by decide) ?_
          refine lv_goto (tgt := 306) hx hb dL_texts_302 (by decide) ?_
          obtain ⟨rfl, rfl, rfl, rfl⟩ := ret4 h
          rw [hQ]
          refine W.widen (k := 1) (n := 16) gN43 (Nat.mul_le_mul_left 16 gN43) ?_
          exact g_retz hx hb hr hlk hW (by decide) dL_texts_306
      · replace h := ite_f c46 h
        refine lv_iload hx hb dL_texts_290 (lv_at hl 6 rfl) ?_
        refine lv_goto (tgt := 298) hx hb dL_texts_292 (by decide) ?_
        refine lv_icmp_ne (tgt := 305) hx hb dL_texts_298 (by decide) (fun c48 => ?_) (fun c48 => ?_)
        · replace h := ite_f c48 h
          refine lv_iconst (v := 0) hx hb dL_texts_305 (by decide) ?_
          obtain ⟨rfl, rfl, rfl, rfl⟩ := ret4 h
          rw [hQ]
          refine W.widen (k := 1) (n := 16) gN43 (Nat.mul_le_mul_left 16 gN43) ?_
          exact g_retz hx hb hr hlk hW (by decide) dL_texts_306
        · replace h := ite_t c48 h
          refine lv_iconst (v := 1) hx hb dL_texts_301 (by decide) ?_
          refine lv_goto (tgt := 306) hx hb dL_texts_302 (by decide) ?_
          obtain ⟨rfl, rfl, rfl, rfl⟩ := ret4 h
          rw [hQ]
          refine W.widen (k := 1) (n := 16) gN43 (Nat.mul_le_mul_left 16 gN43) ?_
          exact g_retz hx hb hr hlk hW (by decide) dL_texts_306
  have J266 : ∀ (x_K_266 : Nat → Ob) (x_c_266 : Nat → Int32) (x_x_266 : Nat → Int32) (x_N_266 : Nat) (v5_266 : Int32) (v6_266 : Int32) (v7_266 : Int32) (v8_266 : Int32) (v9_266 : Int32) (v10_266 : Int32) (s1_266 : Int32) (s2_266 : Int32) (s3_266 : Int32) (hN_266 : x_N_266 ≤ 1) (H : Heap) (locs : List Loc) (ls : Array Slot), Wd D A s.heap (oA T 12 a_c x_c_266 ++ (oA T 6 a_x x_x_266 ++ (oc_X10 T (ad 0) (bb ad) (x_K_266 0) ++ (wkL T ad x_K_266 L18 ++ Z)))) H locs → lv_has ls 12 [(0, .ref (ad 0 0)), (5, .int v5_266), (6, .int v6_266), (7, .int v7_266), (8, .int v8_266), (9, .int v9_266), (10, .int v10_266)] → f_L_texts_J266 x_K_266 x_c_266 x_x_266 x_N_266 v5_266 v6_266 v7_266 v8_266 v9_266 v10_266 s1_266 s2_266 s3_266 = some (r, x_K9, x_c9, x_x9) → W p l e (rmL 13 1) s m args below meth c H locs x_N_266 (16 * x_N_266) Q (F0 m 266 ls [.int s3_266, .int s2_266, .int s1_266, .ref a_c]) := by
    intro x_K_266 x_c_266 x_x_266 x_N_266 v5_266 v6_266 v7_266 v8_266 v9_266 v10_266 s1_266 s2_266 s3_266 hN_266 H locs ls hW hl h
    rw [f_L_texts_J266] at h
    refine lv_iadd hx hb dL_texts_266 ?_
    obtain ⟨g54, h⟩ := grd_s h
    refine g_iast (ws9 := oA T 12 a_c (upd x_c_266 s1_266.toNatClampNeg (s2_266 + s3_266)) ++ (oA T 6 a_x x_x_266 ++ (oc_X10 T (ad 0) (bb ad) (x_K_266 0) ++ (wkL T ad x_K_266 L18 ++ Z)))) hx hb hK hW 0 rfl g54 rfl dL_texts_267 (fun H locs hW => ?_)
    obtain ⟨x_c55, ex_c55⟩ : ∃ y : Nat → Int32, y = upd x_c_266 s1_266.toNatClampNeg (s2_266 + s3_266) := ⟨_, rfl⟩
    rw [← ex_c55] at hW
    replace h := lb_at ex_c55 h
    exact J268 _ _ _ _ _ _ _ _ _ _ hN_266 H locs ls hW (lv_sub hl [0, 1, 2, 3, 4, 5, 6] rfl) h
  have J217 : ∀ (x_K_217 : Nat → Ob) (x_c_217 : Nat → Int32) (x_x_217 : Nat → Int32) (x_N_217 : Nat) (v1_217 : Int32) (v5_217 : Int32) (v6_217 : Int32) (v7_217 : Int32) (v8_217 : Int32) (v9_217 : Int32) (s0_217 : Int32) (hN_217 : x_N_217 ≤ 1) (H : Heap) (locs : List Loc) (ls : Array Slot), Wd D A s.heap (oA T 12 a_c x_c_217 ++ (oA T 6 a_x x_x_217 ++ (oc_X10 T (ad 0) (bb ad) (x_K_217 0) ++ (wkL T ad x_K_217 L18 ++ Z)))) H locs → lv_has ls 12 [(0, .ref (ad 0 0)), (1, .int v1_217), (3, .ref a_c), (4, .ref a_x), (5, .int v5_217), (6, .int v6_217), (7, .int v7_217), (8, .int v8_217), (9, .int v9_217)] → f_L_texts_J217 x_K_217 x_c_217 x_x_217 x_N_217 v1_217 v5_217 v6_217 v7_217 v8_217 v9_217 s0_217 = some (r, x_K9, x_c9, x_x9) → W p l e (rmL 13 1) s m args below meth c H locs x_N_217 (16 * x_N_217) Q (F0 m 217 ls [.int s0_217]) := by
    intro x_K_217 x_c_217 x_x_217 x_N_217 v1_217 v5_217 v6_217 v7_217 v8_217 v9_217 s0_217 hN_217 H locs ls hW hl h
    rw [f_L_texts_J217] at h
    refine lv_istore (lv' := [(10, .int s0_217), (0, .ref (ad 0 0)), (1, .int v1_217), (3, .ref a_c), (4, .ref a_x), (5, .int v5_217), (6, .int v6_217), (7, .int v7_217), (8, .int v8_217), (9, .int v9_217)]) hx hb dL_texts_217 hl (by decide) rfl (fun ls hl => ?_)
    refine lv_iload_n hx hb dL_texts_219 rfl (lv_at hl 2 rfl) ?_
    refine lv_iconst (v := 1) hx hb dL_texts_220 (by decide) ?_
    refine lv_icmp_ne (tgt := 307) hx hb dL_texts_221 (by decide) (fun c16 => ?_) (fun c16 => ?_)
    · replace h := ite_f c16 h
      refine lv_iload hx hb dL_texts_307 (lv_at hl 8 rfl) ?_
      refine lv_istore (lv' := [(11, .int v8_217), (10, .int s0_217), (0, .ref (ad 0 0)), (1, .int v1_217), (3, .ref a_c), (4, .ref a_x), (5, .int v5_217), (6, .int v6_217), (7, .int v7_217), (8, .int v8_217), (9, .int v9_217)]) hx hb dL_texts_309 hl (by decide) rfl (fun ls hl => ?_)
      obtain ⟨o11_u24, y_x_u24, q25, h⟩ := bnd2_s h
      refine L311 400 _ _ _ _ _ _ _ _ _ hN_217 H locs ls o11_u24 y_x_u24 hW (lv_sub hl [2, 4, 5, 6, 9, 10, 1, 0] rfl) q25 (fun H locs ls hW hl => ?_)
      refine lv_aload_n hx hb dL_texts_358 rfl (lv_at hl 1 rfl) ?_
      refine lv_bipush (v := 8) hx hb dL_texts_359 (by decide) ?_
      refine lv_iload hx hb dL_texts_361 (lv_at hl 2 rfl) ?_
      refine lv_iadd hx hb dL_texts_363 ?_
      refine lv_dup2_11 hx hb dL_texts_364 rfl rfl ?_
      obtain ⟨g26, h⟩ := grd_s h
      refine g_iald hx hb hK hW 0 rfl g26 dL_texts_365 ?_
      refine lv_iload hx hb dL_texts_366 (lv_at hl 4 rfl) ?_
      refine lv_if_eq (tgt := 375) hx hb dL_texts_368 (by decide) (fun c27 => ?_) (fun c27 => ?_)
      · replace h := ite_t c27 h
        refine lv_iconst (v := 0) hx hb dL_texts_375 (by decide) ?_
        exact J376 _ _ _ _ _ _ _ _ _ _ _ hN_217 H locs ls hW (lv_sub hl [0, 1, 2, 3, 4, 5] rfl) h
      · replace h := ite_f c27 h
        refine lv_iconst (v := 1) hx hb dL_texts_371 (by decide) ?_
        refine lv_goto (tgt := 376) hx hb dL_texts_372 (by decide) ?_
        exact J376 _ _ _ _ _ _ _ _ _ _ _ hN_217 H locs ls hW (lv_sub hl [0, 1, 2, 3, 4, 5] rfl) h
    · replace h := ite_t c16 h
      refine lv_iload hx hb dL_texts_224 (lv_at hl 7 rfl) ?_
      refine lv_if_eq (tgt := 268) hx hb dL_texts_226 (by decide) (fun c39 => ?_) (fun c39 => ?_)
      · replace h := ite_t c39 h
        exact J268 _ _ _ _ _ _ _ _ _ _ hN_217 H locs ls hW (lv_sub hl [1, 5, 6, 7, 8, 9, 0] rfl) h
      · replace h := ite_f c39 h
        refine lv_iload hx hb dL_texts_229 (lv_at hl 9 rfl) ?_
        refine lv_if_eq (tgt := 268) hx hb dL_texts_231 (by decide) (fun c49 => ?_) (fun c49 => ?_)
        · replace h := ite_t c49 h
          exact J268 _ _ _ _ _ _ _ _ _ _ hN_217 H locs ls hW (lv_sub hl [1, 5, 6, 7, 8, 9, 0] rfl) h
        · replace h := ite_f c49 h
          refine lv_aload hx hb dL_texts_234 (lv_at hl 4 rfl) ?_
          refine lv_iconst (v := 3) hx hb dL_texts_236 (by decide) ?_
          refine lv_iload hx hb dL_texts_237 (lv_at hl 5 rfl) ?_
          refine lv_imul hx hb dL_texts_239 ?_
          refine lv_iload hx hb dL_texts_240 (lv_at hl 8 rfl) ?_
          refine lv_iadd hx hb dL_texts_242 ?_
          refine lv_iload hx hb dL_texts_243 (lv_at hl 6 rfl) ?_
          obtain ⟨g50, h⟩ := grd_s h
          refine g_iast (ws9 := oA T 12 a_c x_c_217 ++ (oA T 6 a_x (upd x_x_217 ((3 * v5_217) + v8_217).toNatClampNeg v6_217) ++ (oc_X10 T (ad 0) (bb ad) (x_K_217 0) ++ (wkL T ad x_K_217 L18 ++ Z)))) hx hb hK hW 1 rfl g50 rfl dL_texts_245 (fun H locs hW => ?_)
          obtain ⟨x_x51, ex_x51⟩ : ∃ y : Nat → Int32, y = upd x_x_217 ((3 * v5_217) + v8_217).toNatClampNeg v6_217 := ⟨_, rfl⟩
          rw [← ex_x51] at hW
          replace h := lb_at ex_x51 h
          refine lv_aload_n hx hb dL_texts_246 rfl (lv_at hl 3 rfl) ?_
          refine lv_bipush (v := 10) hx hb dL_texts_247 (by decide) ?_
          refine lv_iload hx hb dL_texts_249 (lv_at hl 5 rfl) ?_
          refine lv_iadd hx hb dL_texts_251 ?_
          refine lv_dup2_11 hx hb dL_texts_252 rfl rfl ?_
          obtain ⟨g52, h⟩ := grd_s h
          refine g_iald hx hb hK hW 0 rfl g52 dL_texts_253 ?_
          refine lv_iload hx hb dL_texts_254 (lv_at hl 0 rfl) ?_
          refine lv_iload hx hb dL_texts_256 (lv_at hl 6 rfl) ?_
          refine lv_icmp_ne (tgt := 265) hx hb dL_texts_258 (by decide) (fun c53 => ?_) (fun c53 => ?_)
          · replace h := ite_f c53 h
            refine lv_iconst (v := 1) hx hb dL_texts_265 (by decide) ?_
            exact J266 _ _ _ _ _ _ _ _ _ _ _ _ _ hN_217 H locs ls hW (lv_sub hl [1, 5, 6, 7, 8, 9, 0] rfl) h
          · replace h := ite_t c53 h
            refine lv_iconst (v := 0) hx hb dL_texts_261 (by decide) ?_
            refine lv_goto (tgt := 266) hx hb dL_texts_262 (by decide) ?_
            exact J266 _ _ _ _ _ _ _ _ _ _ _ _ _ hN_217 H locs ls hW (lv_sub hl [1, 5, 6, 7, 8, 9, 0] rfl) h
  have J160 : ∀ (x_K_160 : Nat → Ob) (x_c_160 : Nat → Int32) (x_x_160 : Nat → Int32) (x_N_160 : Nat) (v5_160 : Int32) (v6_160 : Int32) (v7_160 : Int32) (hN_160 : x_N_160 ≤ 1) (H : Heap) (locs : List Loc) (ls : Array Slot), Wd D A s.heap (oA T 12 a_c x_c_160 ++ (oA T 6 a_x x_x_160 ++ (oc_X10 T (ad 0) (bb ad) (x_K_160 0) ++ (wkL T ad x_K_160 L18 ++ Z)))) H locs → lv_has ls 12 [(0, .ref (ad 0 0)), (3, .ref a_c), (5, .int v5_160), (6, .int v6_160), (7, .int v7_160)] → f_L_texts_J160 x_K_160 x_c_160 x_x_160 x_N_160 v5_160 v6_160 v7_160 = some (r, x_K9, x_c9, x_x9) → W p l e (rmL 13 1) s m args below meth c H locs x_N_160 (16 * x_N_160) Q (F0 m 160 ls []) := by
    intro x_K_160 x_c_160 x_x_160 x_N_160 v5_160 v6_160 v7_160 hN_160 H locs ls hW hl h
    rw [f_L_texts_J160] at h
    refine lv_aload_n hx hb dL_texts_160 rfl (lv_at hl 0 rfl) ?_
    refine lv_iconst (v := 0) hx hb dL_texts_161 (by decide) ?_
    refine lv_iload hx hb dL_texts_162 (lv_at hl 2 rfl) ?_
    refine lv_iload hx hb dL_texts_164 (lv_at hl 3 rfl) ?_
    replace hW := hW.perm pf3
    replace hW := hW.perm pf3
    obtain ⟨r59, x_K60, q61, h⟩ := bnd2_s h
    obtain ⟨gN62, h⟩ := grd_s h
    have gN62 := of_decide_eq_true gN62
    refine cs_L_192 hx hb hml hown hts hK hN hE hC hA hW (c_L_two l hfl D T A ad hok (oA T 12 a_c x_c_160 ++ (oA T 6 a_x x_x_160 ++ Z)) x_K_160 0 v5_160 v6_160 r59 x_K60 q61) ⟨Nat.le_of_ble_eq_true rfl, Nat.le_of_ble_eq_true rfl⟩ hl.1 rfl (Nat.le_of_ble_eq_true rfl) dL_texts_166 (hfB gN62) rfl (fun H locs hW => ?_)
    replace hW := hW.perm pf1
    replace hW := hW.perm pf1
    replace hW := hW.perm pf3
    replace hW := hW.perm pf3
    refine lv_iload hx hb dL_texts_169 (lv_at hl 4 rfl) ?_
    refine lv_if_eq (tgt := 184) hx hb dL_texts_171 (by decide) (fun c63 => ?_) (fun c63 => ?_)
    · replace h := ite_t c63 h
      refine lv_sipush (v := (-1001)) hx hb dL_texts_184 (by decide) ?_
      refine lv_icmp_ne (tgt := 194) hx hb dL_texts_187 (by decide) (fun c64 => ?_) (fun c64 => ?_)
      · replace h := ite_f c64 h
        refine lv_iconst (v := 0) hx hb dL_texts_194 (by decide) ?_
        obtain ⟨rfl, rfl, rfl, rfl⟩ := ret4 h
        rw [hQ]
        refine W.widen (k := 1) (n := 16) gN62 (Nat.mul_le_mul_left 16 gN62) ?_
        exact g_retz hx hb hr hlk hW (by decide) dL_texts_195
      · replace h := ite_t c64 h
        refine lv_iconst (v := 1) hx hb dL_texts_190 (by decide) ?_
        refine lv_goto (tgt := 195) hx hb dL_texts_191 (by decide) ?_
        obtain ⟨rfl, rfl, rfl, rfl⟩ := ret4 h
        rw [hQ]
        refine W.widen (k := 1) (n := 16) gN62 (Nat.mul_le_mul_left 16 gN62) ?_
        exact g_retz hx hb hr hlk hW (by decide) dL_texts_195
    · replace h := ite_f c63 h
      refine lv_aload_n hx hb dL_texts_174 rfl (lv_at hl 1 rfl) ?_
      refine lv_bipush (v := 8) hx hb dL_texts_175 (by decide) ?_
      refine lv_iload hx hb dL_texts_177 (lv_at hl 2 rfl) ?_
      refine lv_iadd hx hb dL_texts_179 ?_
      obtain ⟨g65, h⟩ := grd_s h
      refine g_iald hx hb hK hW 0 rfl g65 dL_texts_180 ?_
      refine lv_goto (tgt := 187) hx hb dL_texts_181 (by decide) ?_
      refine lv_icmp_ne (tgt := 194) hx hb dL_texts_187 (by decide) (fun c66 => ?_) (fun c66 => ?_)
      · replace h := ite_f c66 h
        refine lv_iconst (v := 0) hx hb dL_texts_194 (by decide) ?_
        obtain ⟨rfl, rfl, rfl, rfl⟩ := ret4 h
        rw [hQ]
        refine W.widen (k := 1) (n := 16) gN62 (Nat.mul_le_mul_left 16 gN62) ?_
        exact g_retz hx hb hr hlk hW (by decide) dL_texts_195
      · replace h := ite_t c66 h
        refine lv_iconst (v := 1) hx hb dL_texts_190 (by decide) ?_
        refine lv_goto (tgt := 195) hx hb dL_texts_191 (by decide) ?_
        obtain ⟨rfl, rfl, rfl, rfl⟩ := ret4 h
        rw [hQ]
        refine W.widen (k := 1) (n := 16) gN62 (Nat.mul_le_mul_left 16 gN62) ?_
        exact g_retz hx hb hr hlk hW (by decide) dL_texts_195
  have J116 : ∀ (x_K_116 : Nat → Ob) (x_c_116 : Nat → Int32) (x_x_116 : Nat → Int32) (x_N_116 : Nat) (v5_116 : Int32) (v6_116 : Int32) (v7_116 : Int32) (hN_116 : x_N_116 ≤ 1) (H : Heap) (locs : List Loc) (ls : Array Slot), Wd D A s.heap (oA T 12 a_c x_c_116 ++ (oA T 6 a_x x_x_116 ++ (oc_X10 T (ad 0) (bb ad) (x_K_116 0) ++ (wkL T ad x_K_116 L18 ++ Z)))) H locs → lv_has ls 12 [(0, .ref (ad 0 0)), (3, .ref a_c), (4, .ref a_x), (5, .int v5_116), (6, .int v6_116), (7, .int v7_116)] → f_L_texts_J116 x_K_116 x_c_116 x_x_116 x_N_116 v5_116 v6_116 v7_116 = some (r, x_K9, x_c9, x_x9) → W p l e (rmL 13 1) s m args below meth c H locs x_N_116 (16 * x_N_116) Q (F0 m 116 ls []) := by
    intro x_K_116 x_c_116 x_x_116 x_N_116 v5_116 v6_116 v7_116 hN_116 H locs ls hW hl h
    rw [f_L_texts_J116] at h
    refine lv_iload hx hb dL_texts_116 (lv_at hl 5 rfl) ?_
    refine lv_if_eq (tgt := 160) hx hb dL_texts_118 (by decide) (fun c58 => ?_) (fun c58 => ?_)
    · replace h := ite_t c58 h
      exact J160 _ _ _ _ _ _ _ hN_116 H locs ls hW (lv_sub hl [0, 1, 3, 4, 5] rfl) h
    · replace h := ite_f c58 h
      refine lv_aload hx hb dL_texts_121 (lv_at hl 2 rfl) ?_
      refine lv_iconst (v := 3) hx hb dL_texts_123 (by decide) ?_
      refine lv_iload hx hb dL_texts_124 (lv_at hl 3 rfl) ?_
      refine lv_imul hx hb dL_texts_126 ?_
      refine lv_aload_n hx hb dL_texts_127 rfl (lv_at hl 1 rfl) ?_
      refine lv_bipush (v := 8) hx hb dL_texts_128 (by decide) ?_
      refine lv_iload hx hb dL_texts_130 (lv_at hl 3 rfl) ?_
      refine lv_iadd hx hb dL_texts_132 ?_
      obtain ⟨g67, h⟩ := grd_s h
      refine g_iald hx hb hK hW 0 rfl g67 dL_texts_133 ?_
      refine lv_iadd hx hb dL_texts_134 ?_
      refine lv_iload hx hb dL_texts_135 (lv_at hl 4 rfl) ?_
      obtain ⟨g68, h⟩ := grd_s h
      refine g_iast (ws9 := oA T 12 a_c x_c_116 ++ (oA T 6 a_x (upd x_x_116 ((3 * v5_116) + (x_c_116 (8 + v5_116).toNatClampNeg)).toNatClampNeg v6_116) ++ (oc_X10 T (ad 0) (bb ad) (x_K_116 0) ++ (wkL T ad x_K_116 L18 ++ Z)))) hx hb hK hW 1 rfl g68 rfl dL_texts_137 (fun H locs hW => ?_)
      obtain ⟨x_x69, ex_x69⟩ : ∃ y : Nat → Int32, y = upd x_x_116 ((3 * v5_116) + (x_c_116 (8 + v5_116).toNatClampNeg)).toNatClampNeg v6_116 := ⟨_, rfl⟩
      rw [← ex_x69] at hW
      replace h := lb_at ex_x69 h
      refine lv_aload_n hx hb dL_texts_138 rfl (lv_at hl 1 rfl) ?_
      refine lv_bipush (v := 8) hx hb dL_texts_139 (by decide) ?_
      refine lv_iload hx hb dL_texts_141 (lv_at hl 3 rfl) ?_
      refine lv_iadd hx hb dL_texts_143 ?_
      refine lv_dup2_11 hx hb dL_texts_144 rfl rfl ?_
      obtain ⟨g70, h⟩ := grd_s h
      refine g_iald hx hb hK hW 0 rfl g70 dL_texts_145 ?_
      refine lv_iconst (v := 1) hx hb dL_texts_146 (by decide) ?_
      refine lv_iadd hx hb dL_texts_147 ?_
      obtain ⟨g71, h⟩ := grd_s h
      refine g_iast (ws9 := oA T 12 a_c (upd x_c_116 (8 + v5_116).toNatClampNeg ((x_c_116 (8 + v5_116).toNatClampNeg) + 1)) ++ (oA T 6 a_x x_x69 ++ (oc_X10 T (ad 0) (bb ad) (x_K_116 0) ++ (wkL T ad x_K_116 L18 ++ Z)))) hx hb hK hW 0 rfl g71 rfl dL_texts_148 (fun H locs hW => ?_)
      obtain ⟨x_c72, ex_c72⟩ : ∃ y : Nat → Int32, y = upd x_c_116 (8 + v5_116).toNatClampNeg ((x_c_116 (8 + v5_116).toNatClampNeg) + 1) := ⟨_, rfl⟩
      rw [← ex_c72] at hW
      replace h := lb_at ex_c72 h
      refine lv_aload_n hx hb dL_texts_149 rfl (lv_at hl 1 rfl) ?_
      refine lv_bipush (v := 10) hx hb dL_texts_150 (by decide) ?_
      refine lv_iload hx hb dL_texts_152 (lv_at hl 3 rfl) ?_
      refine lv_iadd hx hb dL_texts_154 ?_
      refine lv_dup2_11 hx hb dL_texts_155 rfl rfl ?_
      obtain ⟨g73, h⟩ := grd_s h
      refine g_iald hx hb hK hW 0 rfl g73 dL_texts_156 ?_
      refine lv_iconst (v := 1) hx hb dL_texts_157 (by decide) ?_
      refine lv_iadd hx hb dL_texts_158 ?_
      obtain ⟨g74, h⟩ := grd_s h
      refine g_iast (ws9 := oA T 12 a_c (upd x_c72 (10 + v5_116).toNatClampNeg ((x_c72 (10 + v5_116).toNatClampNeg) + 1)) ++ (oA T 6 a_x x_x69 ++ (oc_X10 T (ad 0) (bb ad) (x_K_116 0) ++ (wkL T ad x_K_116 L18 ++ Z)))) hx hb hK hW 0 rfl g74 rfl dL_texts_159 (fun H locs hW => ?_)
      obtain ⟨x_c75, ex_c75⟩ : ∃ y : Nat → Int32, y = upd x_c72 (10 + v5_116).toNatClampNeg ((x_c72 (10 + v5_116).toNatClampNeg) + 1) := ⟨_, rfl⟩
      rw [← ex_c75] at hW
      replace h := lb_at ex_c75 h
      exact J160 _ _ _ _ _ _ _ hN_116 H locs ls hW (lv_sub hl [0, 1, 3, 4, 5] rfl) h
  have J92 : ∀ (x_K_92 : Nat → Ob) (x_c_92 : Nat → Int32) (x_x_92 : Nat → Int32) (x_N_92 : Nat) (v1_92 : Int32) (v5_92 : Int32) (v6_92 : Int32) (v7_92 : Int32) (v8_92 : Int32) (s0_92 : Int32) (hN_92 : x_N_92 ≤ 1) (H : Heap) (locs : List Loc) (ls : Array Slot), Wd D A s.heap (oA T 12 a_c x_c_92 ++ (oA T 6 a_x x_x_92 ++ (oc_X10 T (ad 0) (bb ad) (x_K_92 0) ++ (wkL T ad x_K_92 L18 ++ Z)))) H locs → lv_has ls 12 [(0, .ref (ad 0 0)), (1, .int v1_92), (3, .ref a_c), (4, .ref a_x), (5, .int v5_92), (6, .int v6_92), (7, .int v7_92), (8, .int v8_92)] → f_L_texts_J92 x_K_92 x_c_92 x_x_92 x_N_92 v1_92 v5_92 v6_92 v7_92 v8_92 s0_92 = some (r, x_K9, x_c9, x_x9) → W p l e (rmL 13 1) s m args below meth c H locs x_N_92 (16 * x_N_92) Q (F0 m 92 ls [.int s0_92]) := by
    intro x_K_92 x_c_92 x_x_92 x_N_92 v1_92 v5_92 v6_92 v7_92 v8_92 s0_92 hN_92 H locs ls hW hl h
    rw [f_L_texts_J92] at h
    refine lv_istore (lv' := [(9, .int s0_92), (0, .ref (ad 0 0)), (1, .int v1_92), (3, .ref a_c), (4, .ref a_x), (5, .int v5_92), (6, .int v6_92), (7, .int v7_92), (8, .int v8_92)]) hx hb dL_texts_92 hl (by decide) rfl (fun ls hl => ?_)
    refine lv_iload_n hx hb dL_texts_94 rfl (lv_at hl 2 rfl) ?_
    refine lv_if_ne (tgt := 196) hx hb dL_texts_95 (by decide) (fun c14 => ?_) (fun c14 => ?_)
    · replace h := ite_f c14 h
      refine lv_iload hx hb dL_texts_196 (lv_at hl 0 rfl) ?_
      refine lv_if_eq (tgt := 214) hx hb dL_texts_198 (by decide) (fun c15 => ?_) (fun c15 => ?_)
      · replace h := ite_t c15 h
        refine lv_sipush (v := (-1001)) hx hb dL_texts_214 (by decide) ?_
        exact J217 _ _ _ _ _ _ _ _ _ _ _ hN_92 H locs ls hW (lv_sub hl [1, 2, 3, 4, 5, 6, 7, 8, 0] rfl) h
      · replace h := ite_f c15 h
        refine lv_aload hx hb dL_texts_201 (lv_at hl 4 rfl) ?_
        refine lv_iconst (v := 3) hx hb dL_texts_203 (by decide) ?_
        refine lv_iload hx hb dL_texts_204 (lv_at hl 5 rfl) ?_
        refine lv_imul hx hb dL_texts_206 ?_
        refine lv_iload hx hb dL_texts_207 (lv_at hl 8 rfl) ?_
        refine lv_iadd hx hb dL_texts_209 ?_
        obtain ⟨g56, h⟩ := grd_s h
        refine g_iald hx hb hK hW 1 rfl g56 dL_texts_210 ?_
        refine lv_goto (tgt := 217) hx hb dL_texts_211 (by decide) ?_
        exact J217 _ _ _ _ _ _ _ _ _ _ _ hN_92 H locs ls hW (lv_sub hl [1, 2, 3, 4, 5, 6, 7, 8, 0] rfl) h
    · replace h := ite_t c14 h
      refine lv_iload hx hb dL_texts_98 (lv_at hl 7 rfl) ?_
      refine lv_if_eq (tgt := 116) hx hb dL_texts_100 (by decide) (fun c57 => ?_) (fun c57 => ?_)
      · replace h := ite_t c57 h
        exact J116 _ _ _ _ _ _ _ hN_92 H locs ls hW (lv_sub hl [1, 3, 4, 5, 6, 7] rfl) h
      · replace h := ite_f c57 h
        refine lv_aload_n hx hb dL_texts_103 rfl (lv_at hl 3 rfl) ?_
        refine lv_bipush (v := 8) hx hb dL_texts_104 (by decide) ?_
        refine lv_iload hx hb dL_texts_106 (lv_at hl 5 rfl) ?_
        refine lv_iadd hx hb dL_texts_108 ?_
        obtain ⟨g76, h⟩ := grd_s h
        refine g_iald hx hb hK hW 0 rfl g76 dL_texts_109 ?_
        refine lv_iconst (v := 3) hx hb dL_texts_110 (by decide) ?_
        refine lv_icmp_ne (tgt := 116) hx hb dL_texts_111 (by decide) (fun c77 => ?_) (fun c77 => ?_)
        · replace h := ite_f c77 h
          exact J116 _ _ _ _ _ _ _ hN_92 H locs ls hW (lv_sub hl [1, 3, 4, 5, 6, 7] rfl) h
        · replace h := ite_t c77 h
          refine lv_iconst (v := 1) hx hb dL_texts_114 (by decide) ?_
          obtain ⟨rfl, rfl, rfl, rfl⟩ := ret4 h
          rw [hQ]
          refine W.widen (k := 1) (n := 16) hN_92 (Nat.mul_le_mul_left 16 hN_92) ?_
          exact g_retz hx hb hr hlk hW (by decide) dL_texts_115
  have J91 : ∀ (x_K_91 : Nat → Ob) (x_c_91 : Nat → Int32) (x_x_91 : Nat → Int32) (x_N_91 : Nat) (v1_91 : Int32) (v5_91 : Int32) (v6_91 : Int32) (v7_91 : Int32) (v8_91 : Int32) (hN_91 : x_N_91 ≤ 1) (H : Heap) (locs : List Loc) (ls : Array Slot), Wd D A s.heap (oA T 12 a_c x_c_91 ++ (oA T 6 a_x x_x_91 ++ (oc_X10 T (ad 0) (bb ad) (x_K_91 0) ++ (wkL T ad x_K_91 L18 ++ Z)))) H locs → lv_has ls 12 [(0, .ref (ad 0 0)), (1, .int v1_91), (3, .ref a_c), (4, .ref a_x), (5, .int v5_91), (6, .int v6_91), (7, .int v7_91), (8, .int v8_91)] → f_L_texts_J91 x_K_91 x_c_91 x_x_91 x_N_91 v1_91 v5_91 v6_91 v7_91 v8_91 = some (r, x_K9, x_c9, x_x9) → W p l e (rmL 13 1) s m args below meth c H locs x_N_91 (16 * x_N_91) Q (F0 m 91 ls []) := by
    intro x_K_91 x_c_91 x_x_91 x_N_91 v1_91 v5_91 v6_91 v7_91 v8_91 hN_91 H locs ls hW hl h
    rw [f_L_texts_J91] at h
    refine lv_iconst (v := 0) hx hb dL_texts_91 (by decide) ?_
    exact J92 _ _ _ _ _ _ _ _ _ _ hN_91 H locs ls hW (lv_sub hl [0, 1, 2, 3, 4, 5, 6, 7] rfl) h
  have J67 : ∀ (x_K_67 : Nat → Ob) (x_c_67 : Nat → Int32) (x_x_67 : Nat → Int32) (x_N_67 : Nat) (v1_67 : Int32) (v5_67 : Int32) (v6_67 : Int32) (v7_67 : Int32) (s0_67 : Int32) (s1_67 : Int32) (hN_67 : x_N_67 ≤ 1) (H : Heap) (locs : List Loc) (ls : Array Slot), Wd D A s.heap (oA T 12 a_c x_c_67 ++ (oA T 6 a_x x_x_67 ++ (oc_X10 T (ad 0) (bb ad) (x_K_67 0) ++ (wkL T ad x_K_67 L18 ++ Z)))) H locs → lv_has ls 12 [(0, .ref (ad 0 0)), (1, .int v1_67), (3, .ref a_c), (4, .ref a_x), (5, .int v5_67), (6, .int v6_67), (7, .int v7_67)] → f_L_texts_J67 x_K_67 x_c_67 x_x_67 x_N_67 v1_67 v5_67 v6_67 v7_67 s0_67 s1_67 = some (r, x_K9, x_c9, x_x9) → W p l e (rmL 13 1) s m args below meth c H locs x_N_67 (16 * x_N_67) Q (F0 m 67 ls [.int s1_67, .int s0_67]) := by
    intro x_K_67 x_c_67 x_x_67 x_N_67 v1_67 v5_67 v6_67 v7_67 s0_67 s1_67 hN_67 H locs ls hW hl h
    rw [f_L_texts_J67] at h
    refine lv_isub hx hb dL_texts_67 ?_
    refine lv_topi (fun w8_12 ew8_12 => ?_)
    replace h := lb_at ew8_12 h
    refine lv_istore (lv' := [(8, .int w8_12), (0, .ref (ad 0 0)), (1, .int v1_67), (3, .ref a_c), (4, .ref a_x), (5, .int v5_67), (6, .int v6_67), (7, .int v7_67)]) hx hb dL_texts_68 hl (by decide) rfl (fun ls hl => ?_)
    refine lv_iload hx hb dL_texts_70 (lv_at hl 0 rfl) ?_
    refine lv_if_lt (tgt := 91) hx hb dL_texts_72 (by decide) (fun c13 => ?_) (fun c13 => ?_)
    · replace h := ite_t c13 h
      exact J91 _ _ _ _ _ _ _ _ _ hN_67 H locs ls hW (lv_sub hl [1, 2, 3, 4, 5, 6, 7, 0] rfl) h
    · replace h := ite_f c13 h
      refine lv_iload hx hb dL_texts_75 (lv_at hl 0 rfl) ?_
      refine lv_aload_n hx hb dL_texts_77 rfl (lv_at hl 3 rfl) ?_
      refine lv_bipush (v := 8) hx hb dL_texts_78 (by decide) ?_
      refine lv_iload hx hb dL_texts_80 (lv_at hl 5 rfl) ?_
      refine lv_iadd hx hb dL_texts_82 ?_
      obtain ⟨g78, h⟩ := grd_s h
      refine g_iald hx hb hK hW 0 rfl g78 dL_texts_83 ?_
      refine lv_icmp_ge (tgt := 91) hx hb dL_texts_84 (by decide) (fun c79 => ?_) (fun c79 => ?_)
      · replace h := ite_t c79 h
        exact J91 _ _ _ _ _ _ _ _ _ hN_67 H locs ls hW (lv_sub hl [1, 2, 3, 4, 5, 6, 7, 0] rfl) h
      · replace h := ite_f c79 h
        refine lv_iconst (v := 1) hx hb dL_texts_87 (by decide) ?_
        refine lv_goto (tgt := 92) hx hb dL_texts_88 (by decide) ?_
        exact J92 _ _ _ _ _ _ _ _ _ _ hN_67 H locs ls hW (lv_sub hl [1, 2, 3, 4, 5, 6, 7, 0] rfl) h
  have J33 : ∀ (x_K_33 : Nat → Ob) (x_c_33 : Nat → Int32) (x_x_33 : Nat → Int32) (x_N_33 : Nat) (v1_33 : Int32) (v2_33 : Int32) (v5_33 : Int32) (v6_33 : Int32) (s0_33 : Int32) (hN_33 : x_N_33 ≤ 1) (H : Heap) (locs : List Loc) (ls : Array Slot), Wd D A s.heap (oA T 12 a_c x_c_33 ++ (oA T 6 a_x x_x_33 ++ (oc_X10 T (ad 0) (bb ad) (x_K_33 0) ++ (wkL T ad x_K_33 L18 ++ Z)))) H locs → lv_has ls 12 [(0, .ref (ad 0 0)), (1, .int v1_33), (2, .int v2_33), (3, .ref a_c), (4, .ref a_x), (5, .int v5_33), (6, .int v6_33)] → f_L_texts_J33 x_K_33 x_c_33 x_x_33 x_N_33 v1_33 v2_33 v5_33 v6_33 s0_33 = some (r, x_K9, x_c9, x_x9) → W p l e (rmL 13 1) s m args below meth c H locs x_N_33 (16 * x_N_33) Q (F0 m 33 ls [.int s0_33]) := by
    intro x_K_33 x_c_33 x_x_33 x_N_33 v1_33 v2_33 v5_33 v6_33 s0_33 hN_33 H locs ls hW hl h
    rw [f_L_texts_J33] at h
    refine lv_istore (lv' := [(7, .int s0_33), (0, .ref (ad 0 0)), (1, .int v1_33), (2, .int v2_33), (3, .ref a_c), (4, .ref a_x), (5, .int v5_33), (6, .int v6_33)]) hx hb dL_texts_33 hl (by decide) rfl (fun ls hl => ?_)
    refine lv_iload_n hx hb dL_texts_35 rfl (lv_at hl 3 rfl) ?_
    refine lv_iconst (v := 5) hx hb dL_texts_36 (by decide) ?_
    refine lv_ishr hx hb dL_texts_37 ?_
    refine lv_aload_n hx hb dL_texts_38 rfl (lv_at hl 4 rfl) ?_
    refine lv_bipush (v := 8) hx hb dL_texts_39 (by decide) ?_
    refine lv_iload hx hb dL_texts_41 (lv_at hl 6 rfl) ?_
    refine lv_iadd hx hb dL_texts_43 ?_
    obtain ⟨g6, h⟩ := grd_s h
    refine g_iald hx hb hK hW 0 rfl g6 dL_texts_44 ?_
    refine lv_iconst (v := 1) hx hb dL_texts_45 (by decide) ?_
    refine lv_iadd hx hb dL_texts_46 ?_
    obtain ⟨r7, q8, h⟩ := bnd1_s h
    refine cs_L_171 hx hb hml hown hts hK hN hE hC hA hW (c_L_some l D T A (oA T 12 a_c x_c_33 ++ (oA T 6 a_x x_x_33 ++ (oc_X10 T (ad 0) (bb ad) (x_K_33 0) ++ (wkL T ad x_K_33 L18 ++ Z)))) (v2_33 >>> ((5 : Int32) &&& 31)) ((x_c_33 (8 + v5_33).toNatClampNeg) + 1) r7 q8) ⟨Nat.le_of_ble_eq_true rfl, Nat.le_of_ble_eq_true rfl⟩ hl.1 rfl (Nat.le_of_ble_eq_true rfl) dL_texts_47 (hf0 hN_33) rfl (fun H locs hW => ?_)
    refine lv_iload_n hx hb dL_texts_50 rfl (lv_at hl 3 rfl) ?_
    refine lv_bipush (v := 9) hx hb dL_texts_51 (by decide) ?_
    refine lv_ishr hx hb dL_texts_53 ?_
    refine lv_bipush (v := 17) hx hb dL_texts_54 (by decide) ?_
    obtain ⟨r9, q10, h⟩ := bnd1_s h
    refine cs_L_171 hx hb hml hown hts hK hN hE hC hA hW (c_L_some l D T A (oA T 12 a_c x_c_33 ++ (oA T 6 a_x x_x_33 ++ (oc_X10 T (ad 0) (bb ad) (x_K_33 0) ++ (wkL T ad x_K_33 L18 ++ Z)))) (v2_33 >>> ((9 : Int32) &&& 31)) 17 r9 q10) ⟨Nat.le_of_ble_eq_true rfl, Nat.le_of_ble_eq_true rfl⟩ hl.1 rfl (Nat.le_of_ble_eq_true rfl) dL_texts_56 (hf0 hN_33) rfl (fun H locs hW => ?_)
    refine lv_if_ne (tgt := 66) hx hb dL_texts_59 (by decide) (fun c11 => ?_) (fun c11 => ?_)
    · replace h := ite_f c11 h
      refine lv_iconst (v := 0) hx hb dL_texts_66 (by decide) ?_
      exact J67 _ _ _ _ _ _ _ _ _ _ hN_33 H locs ls hW (lv_sub hl [1, 2, 4, 5, 6, 7, 0] rfl) h
    · replace h := ite_t c11 h
      refine lv_iconst (v := 1) hx hb dL_texts_62 (by decide) ?_
      refine lv_goto (tgt := 67) hx hb dL_texts_63 (by decide) ?_
      exact J67 _ _ _ _ _ _ _ _ _ _ hN_33 H locs ls hW (lv_sub hl [1, 2, 4, 5, 6, 7, 0] rfl) h
  refine lv_iload_n hx hb dL_texts_0 rfl (lv_at hl 2 rfl) ?_
  refine lv_iconst (v := 2) hx hb dL_texts_1 (by decide) ?_
  obtain ⟨r1, q2, h⟩ := bnd1_s h
  refine cs_L_171 hx hb hml hown hts hK hN hE hC hA hW (c_L_some l D T A (oA T 12 a_c x_c ++ (oA T 6 a_x x_x ++ (oc_X10 T (ad 0) (bb ad) (x_K 0) ++ (wkL T ad x_K L18 ++ Z)))) p3 2 r1 q2) ⟨Nat.le_of_ble_eq_true rfl, Nat.le_of_ble_eq_true rfl⟩ hl.1 rfl (Nat.le_of_ble_eq_true rfl) dL_texts_2 (hf0 (Nat.zero_le _)) rfl (fun H locs hW => ?_)
  refine lv_istore (lv' := [(5, .int r1), (0, .ref (ad 0 0)), (1, .int p2), (2, .int p3), (3, .ref a_c), (4, .ref a_x)]) hx hb dL_texts_5 hl (by decide) rfl (fun ls hl => ?_)
  refine lv_iload_n hx hb dL_texts_7 rfl (lv_at hl 3 rfl) ?_
  refine lv_iconst (v := 3) hx hb dL_texts_8 (by decide) ?_
  refine lv_ishr hx hb dL_texts_9 ?_
  refine lv_aload_n hx hb dL_texts_10 rfl (lv_at hl 4 rfl) ?_
  refine lv_iconst (v := 0) hx hb dL_texts_11 (by decide) ?_
  refine g_iald hx hb hK hW 0 rfl (by decide) dL_texts_12 ?_
  refine lv_iconst (v := 1) hx hb dL_texts_13 (by decide) ?_
  refine lv_iadd hx hb dL_texts_14 ?_
  obtain ⟨r3, q4, h⟩ := bnd1_s h
  refine cs_L_171 hx hb hml hown hts hK hN hE hC hA hW (c_L_some l D T A (oA T 12 a_c x_c ++ (oA T 6 a_x x_x ++ (oc_X10 T (ad 0) (bb ad) (x_K 0) ++ (wkL T ad x_K L18 ++ Z)))) (p3 >>> ((3 : Int32) &&& 31)) ((x_c (0 : Int32).toNatClampNeg) + 1) r3 q4) ⟨Nat.le_of_ble_eq_true rfl, Nat.le_of_ble_eq_true rfl⟩ hl.1 rfl (Nat.le_of_ble_eq_true rfl) dL_texts_15 (hf0 (Nat.zero_le _)) rfl (fun H locs hW => ?_)
  refine lv_istore (lv' := [(6, .int r3), (5, .int r1), (0, .ref (ad 0 0)), (1, .int p2), (2, .int p3), (3, .ref a_c), (4, .ref a_x)]) hx hb dL_texts_18 hl (by decide) rfl (fun ls hl => ?_)
  refine lv_iload hx hb dL_texts_20 (lv_at hl 0 rfl) ?_
  refine lv_aload_n hx hb dL_texts_22 rfl (lv_at hl 5 rfl) ?_
  refine lv_iconst (v := 0) hx hb dL_texts_23 (by decide) ?_
  refine g_iald hx hb hK hW 0 rfl (by decide) dL_texts_24 ?_
  refine lv_icmp_ge (tgt := 32) hx hb dL_texts_25 (by decide) (fun c5 => ?_) (fun c5 => ?_)
  · replace h := ite_t c5 h
    refine lv_iconst (v := 0) hx hb dL_texts_32 (by decide) ?_
    exact J33 _ _ _ _ _ _ _ _ _ (Nat.zero_le _) H locs ls hW (lv_sub hl [2, 3, 4, 5, 6, 1, 0] rfl) h
  · replace h := ite_f c5 h
    refine lv_iconst (v := 1) hx hb dL_texts_28 (by decide) ?_
    refine lv_goto (tgt := 33) hx hb dL_texts_29 (by decide) ?_
    exact J33 _ _ _ _ _ _ _ _ _ (Nat.zero_le _) H locs ls hW (lv_sub hl [2, 3, 4, 5, 6, 1, 0] rfl) h
set_option maxHeartbeats 16000000 in
set_option maxRecDepth 100000 in
theorem c_L_patterns (l : Launch) (hfl : l.stackTraces = false) (D : va_G) (T : Nat → ClassId) (A : Nat → Prop) (ad : Nat → Nat → Nat) (hok : okad ad) (a_c : Nat) (a_p : Nat) (a_k : Nat) (Z : va_W) (x_K : Nat → Ob) (x_c : Nat → Int32) (x_p : Nat → Int32) (x_k : Nat → Int32) (p2 : Int32) (p3 : Int32) (r : Int32) (x_K9 : Nat → Ob) (x_c9 : Nat → Int32) (x_p9 : Nat → Int32) (x_k9 : Nat → Int32) (h : f_L_patterns x_K x_c x_p x_k p2 p3 = some (r, x_K9, x_c9, x_p9, x_k9)) : Met l yL_patterns (Cond.code yL_patterns cL_patterns 11 (some .boolean) :: wsL_law) (rmL 9 1) (Pl D T A (oA T 12 a_c x_c ++ (oA T 30 a_p x_p ++ (oA T 6 a_k x_k ++ (oc_X10 T (ad 0) (bb ad) (x_K 0) ++ (wkL T ad x_K L18 ++ Z))))) [.ref (ad 0 0), .int p2, .int p3, .ref a_c, .ref a_p, .ref a_k]) (Qgi D A (oA T 12 a_c x_c9 ++ (oA T 30 a_p x_p9 ++ (oA T 6 a_k x_k9 ++ (oc_X10 T (ad 0) (bb ad) (x_K9 0) ++ (wkL T ad x_K9 L18 ++ Z))))) r) 1 16 A := by
  refine Met.ofW (cc := cL_patterns) (maxL := 11) (ret := (some .boolean)) (by decide +kernel) rfl ?_
  intro p e s m args below meth c s₁ B hml hv
  obtain ⟨ha, hP, hK, hD, hN, hE, hC, hA⟩ := hv
  have hx := B.exec
  have hb := B.bytes
  have hr := B.returns
  have hlk := B.notSynchronized
  have hts : ∀ w ∈ wsL_law, w.before args s = true := fun w hw => atoms_spec B.pre w (List.mem_cons_of_mem _ hw)
  have hown : s.vm.findClass RL = some m.cls := findClass_of_methodNamed B.named
  have hW : Wd D A s.heap (oA T 12 a_c x_c ++ (oA T 30 a_p x_p ++ (oA T 6 a_k x_k ++ (oc_X10 T (ad 0) (bb ad) (x_K 0) ++ (wkL T ad x_K L18 ++ Z))))) s.heap [] := ⟨hP, hD, va_S.rf⟩
  have hl := lv_entry [.ref (ad 0 0), .int p2, .int p3, .ref a_c, .ref a_p, .ref a_k] (n := 11) (Nat.le_of_ble_eq_true rfl)
  refine W.eq (en_eq ha) ?_
  generalize (lg_sl [.ref (ad 0 0), .int p2, .int p3, .ref a_c, .ref a_p, .ref a_k] ++ List.replicate (11 - (lg_sl [.ref (ad 0 0), .int p2, .int p3, .ref a_c, .ref a_p, .ref a_k]).length) Slot.unset).toArray = ls at hl ⊢
  have hl : lv_has ls 11 [(0, .ref (ad 0 0)), (1, .int p2), (2, .int p3), (3, .ref a_c), (4, .ref a_p), (5, .ref a_k)] := hl
  clear hP hD B ha
  obtain ⟨Q, hQ⟩ : ∃ Q, Q = MQ below (Qgi D A (oA T 12 a_c x_c9 ++ (oA T 30 a_p x_p9 ++ (oA T 6 a_k x_k9 ++ (oc_X10 T (ad 0) (bb ad) (x_K9 0) ++ (wkL T ad x_K9 L18 ++ Z))))) r) args s 1 16 A := ⟨_, rfl⟩
  rw [← hQ]
  change W p l e (rmL 9 1) s m args below meth c s.heap [] 0 (16 * 0) Q (F0 m 0 ls [])
  rw [f_L_patterns] at h
  suffices hm : ∀ (H : Heap) (locs : List Loc), Wd D A s.heap (oA T 12 a_c x_c ++ (oA T 30 a_p x_p ++ (oA T 6 a_k x_k ++ (oc_X10 T (ad 0) (bb ad) (x_K 0) ++ (wkL T ad x_K L18 ++ Z))))) H locs → W p l e (rmL 9 1) s m args below meth c H locs 0 (16 * 0) Q (F0 m 0 ls []) from hm _ _ hW
  clear hW
  intro H locs hW
  have J319 : ∀ (x_K_319 : Nat → Ob) (x_c_319 : Nat → Int32) (x_p_319 : Nat → Int32) (x_k_319 : Nat → Int32) (x_N_319 : Nat) (v6_319 : Int32) (v7_319 : Int32) (v8_319 : Int32) (hN_319 : x_N_319 ≤ 1) (H : Heap) (locs : List Loc) (ls : Array Slot), Wd D A s.heap (oA T 12 a_c x_c_319 ++ (oA T 30 a_p x_p_319 ++ (oA T 6 a_k x_k_319 ++ (oc_X10 T (ad 0) (bb ad) (x_K_319 0) ++ (wkL T ad x_K_319 L18 ++ Z))))) H locs → lv_has ls 11 [(0, .ref (ad 0 0)), (4, .ref a_p), (5, .ref a_k), (6, .int v6_319), (7, .int v7_319), (8, .int v8_319)] → f_L_patterns_J319 x_K_319 x_c_319 x_p_319 x_k_319 x_N_319 v6_319 v7_319 v8_319 = some (r, x_K9, x_c9, x_p9, x_k9) → W p l e (rmL 9 1) s m args below meth c H locs x_N_319 (16 * x_N_319) Q (F0 m 319 ls []) := by
    intro x_K_319 x_c_319 x_p_319 x_k_319 x_N_319 v6_319 v7_319 v8_319 hN_319 H locs ls hW hl h
    rw [f_L_patterns_J319] at h
    refine lv_aload_n hx hb dL_patterns_319 rfl (lv_at hl 0 rfl) ?_
    refine lv_iload hx hb dL_patterns_320 (lv_at hl 3 rfl) ?_
    refine lv_iload hx hb dL_patterns_322 (lv_at hl 4 rfl) ?_
    replace hW := hW.perm pf4
    replace hW := hW.perm pf4
    obtain ⟨r10, x_K11, q12, h⟩ := bnd2_s h
    obtain ⟨gN13, h⟩ := grd_s h
    have gN13 := of_decide_eq_true gN13
    refine cs_L_199 hx hb hml hown hts hK hN hE hC hA hW (c_L_offs l hfl D T A ad hok (oA T 12 a_c x_c_319 ++ (oA T 30 a_p x_p_319 ++ (oA T 6 a_k x_k_319 ++ Z))) x_K_319 v6_319 v7_319 r10 x_K11 q12) ⟨Nat.le_of_ble_eq_true rfl, Nat.le_of_ble_eq_true rfl⟩ hl.1 rfl (Nat.le_of_ble_eq_true rfl) dL_patterns_324 (hfB gN13) rfl (fun H locs hW => ?_)
    replace hW := hW.perm pf1
    replace hW := hW.perm pf1
    replace hW := hW.perm pf4
    replace hW := hW.perm pf4
    replace hW := hW.perm pf4
    refine lv_iload hx hb dL_patterns_327 (lv_at hl 5 rfl) ?_
    refine lv_if_ne (tgt := 338) hx hb dL_patterns_329 (by decide) (fun c14 => ?_) (fun c14 => ?_)
    · replace h := ite_f c14 h
      refine lv_iload hx hb dL_patterns_338 (lv_at hl 4 rfl) ?_
      refine lv_if_ge (tgt := 355) hx hb dL_patterns_340 (by decide) (fun c15 => ?_) (fun c15 => ?_)
      · replace h := ite_t c15 h
        refine lv_aload hx hb dL_patterns_355 (lv_at hl 2 rfl) ?_
        refine lv_iload hx hb dL_patterns_357 (lv_at hl 3 rfl) ?_
        obtain ⟨g16, h⟩ := grd_s h
        refine g_iald hx hb hK hW 2 rfl g16 dL_patterns_359 ?_
        refine lv_iload hx hb dL_patterns_360 (lv_at hl 4 rfl) ?_
        refine lv_ishr hx hb dL_patterns_362 ?_
        refine lv_iconst (v := 1) hx hb dL_patterns_363 (by decide) ?_
        refine lv_iand hx hb dL_patterns_364 ?_
        refine lv_icmp_ne (tgt := 372) hx hb dL_patterns_365 (by decide) (fun c17 => ?_) (fun c17 => ?_)
        · replace h := ite_f c17 h
          refine lv_iconst (v := 0) hx hb dL_patterns_372 (by decide) ?_
          obtain ⟨rfl, rfl, rfl, rfl, rfl⟩ := ret5 h
          rw [hQ]
          refine W.widen (k := 1) (n := 16) gN13 (Nat.mul_le_mul_left 16 gN13) ?_
          exact g_retz hx hb hr hlk hW (by decide) dL_patterns_373
        · replace h := ite_t c17 h
          refine lv_iconst (v := 1) hx hb dL_patterns_368 (by decide) ?_
          refine lv_goto (tgt := 373) hx hb dL_patterns_369 (by decide) ?_
          obtain ⟨rfl, rfl, rfl, rfl, rfl⟩ := ret5 h
          rw [hQ]
          refine W.widen (k := 1) (n := 16) gN13 (Nat.mul_le_mul_left 16 gN13) ?_
          exact g_retz hx hb hr hlk hW (by decide) dL_patterns_373
      · replace h := ite_f c15 h
        refine lv_aload hx hb dL_patterns_343 (lv_at hl 1 rfl) ?_
        refine lv_iconst (v := 5) hx hb dL_patterns_345 (by decide) ?_
        refine lv_iload hx hb dL_patterns_346 (lv_at hl 3 rfl) ?_
        refine lv_imul hx hb dL_patterns_348 ?_
        refine lv_iconst (v := 4) hx hb dL_patterns_349 (by decide) ?_
        refine lv_iadd hx hb dL_patterns_350 ?_
        obtain ⟨g18, h⟩ := grd_s h
        refine g_iald hx hb hK hW 1 rfl g18 dL_patterns_351 ?_
        refine lv_goto (tgt := 365) hx hb dL_patterns_352 (by decide) ?_
        refine lv_icmp_ne (tgt := 372) hx hb dL_patterns_365 (by decide) (fun c19 => ?_) (fun c19 => ?_)
        · replace h := ite_f c19 h
          refine lv_iconst (v := 0) hx hb dL_patterns_372 (by decide) ?_
          obtain ⟨rfl, rfl, rfl, rfl, rfl⟩ := ret5 h
          rw [hQ]
          refine W.widen (k := 1) (n := 16) gN13 (Nat.mul_le_mul_left 16 gN13) ?_
          exact g_retz hx hb hr hlk hW (by decide) dL_patterns_373
        · replace h := ite_t c19 h
          refine lv_iconst (v := 1) hx hb dL_patterns_368 (by decide) ?_
          refine lv_goto (tgt := 373) hx hb dL_patterns_369 (by decide) ?_
          obtain ⟨rfl, rfl, rfl, rfl, rfl⟩ := ret5 h
          rw [hQ]
          refine W.widen (k := 1) (n := 16) gN13 (Nat.mul_le_mul_left 16 gN13) ?_
          exact g_retz hx hb hr hlk hW (by decide) dL_patterns_373
    · replace h := ite_t c14 h
      refine lv_sipush (v := (-1001)) hx hb dL_patterns_332 (by decide) ?_
      refine lv_goto (tgt := 365) hx hb dL_patterns_335 (by decide) ?_
      refine lv_icmp_ne (tgt := 372) hx hb dL_patterns_365 (by decide) (fun c20 => ?_) (fun c20 => ?_)
      · replace h := ite_f c20 h
        refine lv_iconst (v := 0) hx hb dL_patterns_372 (by decide) ?_
        obtain ⟨rfl, rfl, rfl, rfl, rfl⟩ := ret5 h
        rw [hQ]
        refine W.widen (k := 1) (n := 16) gN13 (Nat.mul_le_mul_left 16 gN13) ?_
        exact g_retz hx hb hr hlk hW (by decide) dL_patterns_373
      · replace h := ite_t c20 h
        refine lv_iconst (v := 1) hx hb dL_patterns_368 (by decide) ?_
        refine lv_goto (tgt := 373) hx hb dL_patterns_369 (by decide) ?_
        obtain ⟨rfl, rfl, rfl, rfl, rfl⟩ := ret5 h
        rw [hQ]
        refine W.widen (k := 1) (n := 16) gN13 (Nat.mul_le_mul_left 16 gN13) ?_
        exact g_retz hx hb hr hlk hW (by decide) dL_patterns_373
  have J302 : ∀ (x_K_302 : Nat → Ob) (x_c_302 : Nat → Int32) (x_p_302 : Nat → Int32) (x_k_302 : Nat → Int32) (x_N_302 : Nat) (v6_302 : Int32) (v7_302 : Int32) (v8_302 : Int32) (hN_302 : x_N_302 ≤ 1) (H : Heap) (locs : List Loc) (ls : Array Slot), Wd D A s.heap (oA T 12 a_c x_c_302 ++ (oA T 30 a_p x_p_302 ++ (oA T 6 a_k x_k_302 ++ (oc_X10 T (ad 0) (bb ad) (x_K_302 0) ++ (wkL T ad x_K_302 L18 ++ Z))))) H locs → lv_has ls 11 [(0, .ref (ad 0 0)), (4, .ref a_p), (5, .ref a_k), (6, .int v6_302), (7, .int v7_302), (8, .int v8_302)] → f_L_patterns_J302 x_K_302 x_c_302 x_p_302 x_k_302 x_N_302 v6_302 v7_302 v8_302 = some (r, x_K9, x_c9, x_p9, x_k9) → W p l e (rmL 9 1) s m args below meth c H locs x_N_302 (16 * x_N_302) Q (F0 m 302 ls []) := by
    intro x_K_302 x_c_302 x_p_302 x_k_302 x_N_302 v6_302 v7_302 v8_302 hN_302 H locs ls hW hl h
    rw [f_L_patterns_J302] at h
    refine lv_iload hx hb dL_patterns_302 (lv_at hl 5 rfl) ?_
    refine lv_if_eq (tgt := 319) hx hb dL_patterns_304 (by decide) (fun c9 => ?_) (fun c9 => ?_)
    · replace h := ite_t c9 h
      exact J319 _ _ _ _ _ _ _ _ hN_302 H locs ls hW (lv_sub hl [0, 1, 2, 3, 4, 5] rfl) h
    · replace h := ite_f c9 h
      refine lv_aload hx hb dL_patterns_307 (lv_at hl 2 rfl) ?_
      refine lv_iload hx hb dL_patterns_309 (lv_at hl 3 rfl) ?_
      refine lv_dup2_11 hx hb dL_patterns_311 rfl rfl ?_
      obtain ⟨g21, h⟩ := grd_s h
      refine g_iald hx hb hK hW 2 rfl g21 dL_patterns_312 ?_
      refine lv_iconst (v := 1) hx hb dL_patterns_313 (by decide) ?_
      refine lv_iload hx hb dL_patterns_314 (lv_at hl 4 rfl) ?_
      refine lv_ishl hx hb dL_patterns_316 ?_
      refine lv_ixor hx hb dL_patterns_317 ?_
      obtain ⟨g22, h⟩ := grd_s h
      refine g_iast (ws9 := oA T 12 a_c x_c_302 ++ (oA T 30 a_p x_p_302 ++ (oA T 6 a_k (upd x_k_302 v6_302.toNatClampNeg ((x_k_302 v6_302.toNatClampNeg) ^^^ ((1 : Int32) <<< (v7_302 &&& 31)))) ++ (oc_X10 T (ad 0) (bb ad) (x_K_302 0) ++ (wkL T ad x_K_302 L18 ++ Z))))) hx hb hK hW 2 rfl g22 rfl dL_patterns_318 (fun H locs hW => ?_)
      obtain ⟨x_k23, ex_k23⟩ : ∃ y : Nat → Int32, y = upd x_k_302 v6_302.toNatClampNeg ((x_k_302 v6_302.toNatClampNeg) ^^^ ((1 : Int32) <<< (v7_302 &&& 31))) := ⟨_, rfl⟩
      rw [← ex_k23] at hW
      replace h := lb_at ex_k23 h
      exact J319 _ _ _ _ _ _ _ _ hN_302 H locs ls hW (lv_sub hl [0, 1, 2, 3, 4, 5] rfl) h
  have J267 : ∀ (x_K_267 : Nat → Ob) (x_c_267 : Nat → Int32) (x_p_267 : Nat → Int32) (x_k_267 : Nat → Int32) (x_N_267 : Nat) (v6_267 : Int32) (v7_267 : Int32) (s0_267 : Int32) (hN_267 : x_N_267 ≤ 1) (H : Heap) (locs : List Loc) (ls : Array Slot), Wd D A s.heap (oA T 12 a_c x_c_267 ++ (oA T 30 a_p x_p_267 ++ (oA T 6 a_k x_k_267 ++ (oc_X10 T (ad 0) (bb ad) (x_K_267 0) ++ (wkL T ad x_K_267 L18 ++ Z))))) H locs → lv_has ls 11 [(0, .ref (ad 0 0)), (4, .ref a_p), (5, .ref a_k), (6, .int v6_267), (7, .int v7_267)] → f_L_patterns_J267 x_K_267 x_c_267 x_p_267 x_k_267 x_N_267 v6_267 v7_267 s0_267 = some (r, x_K9, x_c9, x_p9, x_k9) → W p l e (rmL 9 1) s m args below meth c H locs x_N_267 (16 * x_N_267) Q (F0 m 267 ls [.int s0_267]) := by
    intro x_K_267 x_c_267 x_p_267 x_k_267 x_N_267 v6_267 v7_267 s0_267 hN_267 H locs ls hW hl h
    rw [f_L_patterns_J267] at h
    refine lv_istore (lv' := [(8, .int s0_267), (0, .ref (ad 0 0)), (4, .ref a_p), (5, .ref a_k), (6, .int v6_267), (7, .int v7_267)]) hx hb dL_patterns_267 hl (by decide) rfl (fun ls hl => ?_)
    refine lv_iload hx hb dL_patterns_269 (lv_at hl 0 rfl) ?_
    refine lv_if_eq (tgt := 302) hx hb dL_patterns_271 (by decide) (fun c8 => ?_) (fun c8 => ?_)
    · replace h := ite_t c8 h
      exact J302 _ _ _ _ _ _ _ _ hN_267 H locs ls hW (lv_sub hl [1, 2, 3, 4, 5, 0] rfl) h
    · replace h := ite_f c8 h
      refine lv_iload hx hb dL_patterns_274 (lv_at hl 5 rfl) ?_
      refine lv_if_ge (tgt := 302) hx hb dL_patterns_276 (by decide) (fun c24 => ?_) (fun c24 => ?_)
      · replace h := ite_t c24 h
        exact J302 _ _ _ _ _ _ _ _ hN_267 H locs ls hW (lv_sub hl [1, 2, 3, 4, 5, 0] rfl) h
      · replace h := ite_f c24 h
        refine lv_aload hx hb dL_patterns_279 (lv_at hl 2 rfl) ?_
        refine lv_iconst (v := 5) hx hb dL_patterns_281 (by decide) ?_
        refine lv_iload hx hb dL_patterns_282 (lv_at hl 4 rfl) ?_
        refine lv_imul hx hb dL_patterns_284 ?_
        refine lv_iconst (v := 4) hx hb dL_patterns_285 (by decide) ?_
        refine lv_iadd hx hb dL_patterns_286 ?_
        refine lv_iconst (v := 1) hx hb dL_patterns_287 (by decide) ?_
        refine lv_aload hx hb dL_patterns_288 (lv_at hl 2 rfl) ?_
        refine lv_iconst (v := 5) hx hb dL_patterns_290 (by decide) ?_
        refine lv_iload hx hb dL_patterns_291 (lv_at hl 4 rfl) ?_
        refine lv_imul hx hb dL_patterns_293 ?_
        refine lv_iconst (v := 4) hx hb dL_patterns_294 (by decide) ?_
        refine lv_iadd hx hb dL_patterns_295 ?_
        obtain ⟨g25, h⟩ := grd_s h
        refine g_iald hx hb hK hW 1 rfl g25 dL_patterns_296 ?_
        refine lv_isub hx hb dL_patterns_297 ?_
        obtain ⟨g26, h⟩ := grd_s h
        refine g_iast (ws9 := oA T 12 a_c x_c_267 ++ (oA T 30 a_p (upd x_p_267 ((5 * v6_267) + 4).toNatClampNeg (1 - (x_p_267 ((5 * v6_267) + 4).toNatClampNeg))) ++ (oA T 6 a_k x_k_267 ++ (oc_X10 T (ad 0) (bb ad) (x_K_267 0) ++ (wkL T ad x_K_267 L18 ++ Z))))) hx hb hK hW 1 rfl g26 rfl dL_patterns_298 (fun H locs hW => ?_)
        obtain ⟨x_p27, ex_p27⟩ : ∃ y : Nat → Int32, y = upd x_p_267 ((5 * v6_267) + 4).toNatClampNeg (1 - (x_p_267 ((5 * v6_267) + 4).toNatClampNeg)) := ⟨_, rfl⟩
        rw [← ex_p27] at hW
        replace h := lb_at ex_p27 h
        refine lv_goto (tgt := 319) hx hb dL_patterns_299 (by decide) ?_
        exact J319 _ _ _ _ _ _ _ _ hN_267 H locs ls hW (lv_sub hl [1, 2, 3, 4, 5, 0] rfl) h
  have J266 : ∀ (x_K_266 : Nat → Ob) (x_c_266 : Nat → Int32) (x_p_266 : Nat → Int32) (x_k_266 : Nat → Int32) (x_N_266 : Nat) (v6_266 : Int32) (v7_266 : Int32) (hN_266 : x_N_266 ≤ 1) (H : Heap) (locs : List Loc) (ls : Array Slot), Wd D A s.heap (oA T 12 a_c x_c_266 ++ (oA T 30 a_p x_p_266 ++ (oA T 6 a_k x_k_266 ++ (oc_X10 T (ad 0) (bb ad) (x_K_266 0) ++ (wkL T ad x_K_266 L18 ++ Z))))) H locs → lv_has ls 11 [(0, .ref (ad 0 0)), (4, .ref a_p), (5, .ref a_k), (6, .int v6_266), (7, .int v7_266)] → f_L_patterns_J266 x_K_266 x_c_266 x_p_266 x_k_266 x_N_266 v6_266 v7_266 = some (r, x_K9, x_c9, x_p9, x_k9) → W p l e (rmL 9 1) s m args below meth c H locs x_N_266 (16 * x_N_266) Q (F0 m 266 ls []) := by
    intro x_K_266 x_c_266 x_p_266 x_k_266 x_N_266 v6_266 v7_266 hN_266 H locs ls hW hl h
    rw [f_L_patterns_J266] at h
    refine lv_iconst (v := 0) hx hb dL_patterns_266 (by decide) ?_
    exact J267 _ _ _ _ _ _ _ _ hN_266 H locs ls hW (lv_sub hl [0, 1, 2, 3, 4] rfl) h
  have J182 : ∀ (x_K_182 : Nat → Ob) (x_c_182 : Nat → Int32) (x_p_182 : Nat → Int32) (x_k_182 : Nat → Int32) (x_N_182 : Nat) (v6_182 : Int32) (v7_182 : Int32) (v8_182 : Int32) (v9_182 : Int32) (v10_182 : Int32) (hN_182 : x_N_182 ≤ 1) (H : Heap) (locs : List Loc) (ls : Array Slot), Wd D A s.heap (oA T 12 a_c x_c_182 ++ (oA T 30 a_p x_p_182 ++ (oA T 6 a_k x_k_182 ++ (oc_X10 T (ad 0) (bb ad) (x_K_182 0) ++ (wkL T ad x_K_182 L18 ++ Z))))) H locs → lv_has ls 11 [(0, .ref (ad 0 0)), (3, .ref a_c), (6, .int v6_182), (7, .int v7_182), (8, .int v8_182), (9, .int v9_182), (10, .int v10_182)] → f_L_patterns_J182 x_K_182 x_c_182 x_p_182 x_k_182 x_N_182 v6_182 v7_182 v8_182 v9_182 v10_182 = some (r, x_K9, x_c9, x_p9, x_k9) → W p l e (rmL 9 1) s m args below meth c H locs x_N_182 (16 * x_N_182) Q (F0 m 182 ls []) := by
    intro x_K_182 x_c_182 x_p_182 x_k_182 x_N_182 v6_182 v7_182 v8_182 v9_182 v10_182 hN_182 H locs ls hW hl h
    rw [f_L_patterns_J182] at h
    refine lv_aload_n hx hb dL_patterns_182 rfl (lv_at hl 0 rfl) ?_
    refine lv_iconst (v := 3) hx hb dL_patterns_183 (by decide) ?_
    refine lv_iload hx hb dL_patterns_184 (lv_at hl 2 rfl) ?_
    refine lv_iload hx hb dL_patterns_186 (lv_at hl 3 rfl) ?_
    refine lv_iload hx hb dL_patterns_188 (lv_at hl 4 rfl) ?_
    refine lv_iload hx hb dL_patterns_190 (lv_at hl 5 rfl) ?_
    replace hW := hW.perm pf4
    replace hW := hW.perm pf4
    obtain ⟨r45, x_K46, q47, h⟩ := bnd2_s h
    obtain ⟨gN48, h⟩ := grd_s h
    have gN48 := of_decide_eq_true gN48
    refine cs_L_186 hx hb hml hown hts hK hN hE hC hA hW (c_L_four l hfl D T A ad hok (oA T 12 a_c x_c_182 ++ (oA T 30 a_p x_p_182 ++ (oA T 6 a_k x_k_182 ++ Z))) x_K_182 3 v6_182 v7_182 v8_182 v9_182 r45 x_K46 q47) ⟨Nat.le_of_ble_eq_true rfl, Nat.le_of_ble_eq_true rfl⟩ hl.1 rfl (Nat.le_of_ble_eq_true rfl) dL_patterns_192 (hfB gN48) rfl (fun H locs hW => ?_)
    replace hW := hW.perm pf1
    replace hW := hW.perm pf1
    replace hW := hW.perm pf4
    replace hW := hW.perm pf4
    replace hW := hW.perm pf4
    refine lv_iload hx hb dL_patterns_195 (lv_at hl 6 rfl) ?_
    refine lv_if_eq (tgt := 208) hx hb dL_patterns_197 (by decide) (fun c49 => ?_) (fun c49 => ?_)
    · replace h := ite_t c49 h
      refine lv_sipush (v := (-1001)) hx hb dL_patterns_208 (by decide) ?_
      refine lv_icmp_ne (tgt := 218) hx hb dL_patterns_211 (by decide) (fun c50 => ?_) (fun c50 => ?_)
      · replace h := ite_f c50 h
        refine lv_iconst (v := 0) hx hb dL_patterns_218 (by decide) ?_
        obtain ⟨rfl, rfl, rfl, rfl, rfl⟩ := ret5 h
        rw [hQ]
        refine W.widen (k := 1) (n := 16) gN48 (Nat.mul_le_mul_left 16 gN48) ?_
        exact g_retz hx hb hr hlk hW (by decide) dL_patterns_219
      · replace h := ite_t c50 h
        refine lv_iconst (v := 1) hx hb dL_patterns_214 (by decide) ?_
        refine lv_goto (tgt := 219) hx hb dL_patterns_215 (by decide) ?_
        obtain ⟨rfl, rfl, rfl, rfl, rfl⟩ := ret5 h
        rw [hQ]
        refine W.widen (k := 1) (n := 16) gN48 (Nat.mul_le_mul_left 16 gN48) ?_
        exact g_retz hx hb hr hlk hW (by decide) dL_patterns_219
    · replace h := ite_f c49 h
      refine lv_aload_n hx hb dL_patterns_200 rfl (lv_at hl 1 rfl) ?_
      refine lv_iconst (v := 3) hx hb dL_patterns_201 (by decide) ?_
      refine g_iald hx hb hK hW 0 rfl (by decide) dL_patterns_202 ?_
      refine lv_iconst (v := 1) hx hb dL_patterns_203 (by decide) ?_
      refine lv_isub hx hb dL_patterns_204 ?_
      refine lv_goto (tgt := 211) hx hb dL_patterns_205 (by decide) ?_
      refine lv_icmp_ne (tgt := 218) hx hb dL_patterns_211 (by decide) (fun c51 => ?_) (fun c51 => ?_)
      · replace h := ite_f c51 h
        refine lv_iconst (v := 0) hx hb dL_patterns_218 (by decide) ?_
        obtain ⟨rfl, rfl, rfl, rfl, rfl⟩ := ret5 h
        rw [hQ]
        refine W.widen (k := 1) (n := 16) gN48 (Nat.mul_le_mul_left 16 gN48) ?_
        exact g_retz hx hb hr hlk hW (by decide) dL_patterns_219
      · replace h := ite_t c51 h
        refine lv_iconst (v := 1) hx hb dL_patterns_214 (by decide) ?_
        refine lv_goto (tgt := 219) hx hb dL_patterns_215 (by decide) ?_
        obtain ⟨rfl, rfl, rfl, rfl, rfl⟩ := ret5 h
        rw [hQ]
        refine W.widen (k := 1) (n := 16) gN48 (Nat.mul_le_mul_left 16 gN48) ?_
        exact g_retz hx hb hr hlk hW (by decide) dL_patterns_219
  have J124 : ∀ (x_K_124 : Nat → Ob) (x_c_124 : Nat → Int32) (x_p_124 : Nat → Int32) (x_k_124 : Nat → Int32) (x_N_124 : Nat) (v6_124 : Int32) (v7_124 : Int32) (v8_124 : Int32) (v9_124 : Int32) (v10_124 : Int32) (hN_124 : x_N_124 ≤ 1) (H : Heap) (locs : List Loc) (ls : Array Slot), Wd D A s.heap (oA T 12 a_c x_c_124 ++ (oA T 30 a_p x_p_124 ++ (oA T 6 a_k x_k_124 ++ (oc_X10 T (ad 0) (bb ad) (x_K_124 0) ++ (wkL T ad x_K_124 L18 ++ Z))))) H locs → lv_has ls 11 [(0, .ref (ad 0 0)), (3, .ref a_c), (4, .ref a_p), (6, .int v6_124), (7, .int v7_124), (8, .int v8_124), (9, .int v9_124), (10, .int v10_124)] → f_L_patterns_J124 x_K_124 x_c_124 x_p_124 x_k_124 x_N_124 v6_124 v7_124 v8_124 v9_124 v10_124 = some (r, x_K9, x_c9, x_p9, x_k9) → W p l e (rmL 9 1) s m args below meth c H locs x_N_124 (16 * x_N_124) Q (F0 m 124 ls []) := by
    intro x_K_124 x_c_124 x_p_124 x_k_124 x_N_124 v6_124 v7_124 v8_124 v9_124 v10_124 hN_124 H locs ls hW hl h
    rw [f_L_patterns_J124] at h
    refine lv_iload hx hb dL_patterns_124 (lv_at hl 7 rfl) ?_
    refine lv_if_eq (tgt := 182) hx hb dL_patterns_126 (by decide) (fun c44 => ?_) (fun c44 => ?_)
    · replace h := ite_t c44 h
      exact J182 _ _ _ _ _ _ _ _ _ _ hN_124 H locs ls hW (lv_sub hl [0, 1, 3, 4, 5, 6, 7] rfl) h
    · replace h := ite_f c44 h
      refine lv_aload hx hb dL_patterns_129 (lv_at hl 2 rfl) ?_
      refine lv_iconst (v := 5) hx hb dL_patterns_131 (by decide) ?_
      refine lv_aload_n hx hb dL_patterns_132 rfl (lv_at hl 1 rfl) ?_
      refine lv_iconst (v := 3) hx hb dL_patterns_133 (by decide) ?_
      refine g_iald hx hb hK hW 0 rfl (by decide) dL_patterns_134 ?_
      refine lv_imul hx hb dL_patterns_135 ?_
      refine lv_iload hx hb dL_patterns_136 (lv_at hl 3 rfl) ?_
      obtain ⟨g52, h⟩ := grd_s h
      refine g_iast (ws9 := oA T 12 a_c x_c_124 ++ (oA T 30 a_p (upd x_p_124 (5 * (x_c_124 (3 : Int32).toNatClampNeg)).toNatClampNeg v6_124) ++ (oA T 6 a_k x_k_124 ++ (oc_X10 T (ad 0) (bb ad) (x_K_124 0) ++ (wkL T ad x_K_124 L18 ++ Z))))) hx hb hK hW 1 rfl g52 rfl dL_patterns_138 (fun H locs hW => ?_)
      obtain ⟨x_p53, ex_p53⟩ : ∃ y : Nat → Int32, y = upd x_p_124 (5 * (x_c_124 (3 : Int32).toNatClampNeg)).toNatClampNeg v6_124 := ⟨_, rfl⟩
      rw [← ex_p53] at hW
      replace h := lb_at ex_p53 h
      refine lv_aload hx hb dL_patterns_139 (lv_at hl 2 rfl) ?_
      refine lv_iconst (v := 5) hx hb dL_patterns_141 (by decide) ?_
      refine lv_aload_n hx hb dL_patterns_142 rfl (lv_at hl 1 rfl) ?_
      refine lv_iconst (v := 3) hx hb dL_patterns_143 (by decide) ?_
      refine g_iald hx hb hK hW 0 rfl (by decide) dL_patterns_144 ?_
      refine lv_imul hx hb dL_patterns_145 ?_
      refine lv_iconst (v := 1) hx hb dL_patterns_146 (by decide) ?_
      refine lv_iadd hx hb dL_patterns_147 ?_
      refine lv_iload hx hb dL_patterns_148 (lv_at hl 4 rfl) ?_
      obtain ⟨g54, h⟩ := grd_s h
      refine g_iast (ws9 := oA T 12 a_c x_c_124 ++ (oA T 30 a_p (upd x_p53 ((5 * (x_c_124 (3 : Int32).toNatClampNeg)) + 1).toNatClampNeg v7_124) ++ (oA T 6 a_k x_k_124 ++ (oc_X10 T (ad 0) (bb ad) (x_K_124 0) ++ (wkL T ad x_K_124 L18 ++ Z))))) hx hb hK hW 1 rfl g54 rfl dL_patterns_150 (fun H locs hW => ?_)
      obtain ⟨x_p55, ex_p55⟩ : ∃ y : Nat → Int32, y = upd x_p53 ((5 * (x_c_124 (3 : Int32).toNatClampNeg)) + 1).toNatClampNeg v7_124 := ⟨_, rfl⟩
      rw [← ex_p55] at hW
      replace h := lb_at ex_p55 h
      refine lv_aload hx hb dL_patterns_151 (lv_at hl 2 rfl) ?_
      refine lv_iconst (v := 5) hx hb dL_patterns_153 (by decide) ?_
      refine lv_aload_n hx hb dL_patterns_154 rfl (lv_at hl 1 rfl) ?_
      refine lv_iconst (v := 3) hx hb dL_patterns_155 (by decide) ?_
      refine g_iald hx hb hK hW 0 rfl (by decide) dL_patterns_156 ?_
      refine lv_imul hx hb dL_patterns_157 ?_
      refine lv_iconst (v := 2) hx hb dL_patterns_158 (by decide) ?_
      refine lv_iadd hx hb dL_patterns_159 ?_
      refine lv_iload hx hb dL_patterns_160 (lv_at hl 5 rfl) ?_
      obtain ⟨g56, h⟩ := grd_s h
      refine g_iast (ws9 := oA T 12 a_c x_c_124 ++ (oA T 30 a_p (upd x_p55 ((5 * (x_c_124 (3 : Int32).toNatClampNeg)) + 2).toNatClampNeg v8_124) ++ (oA T 6 a_k x_k_124 ++ (oc_X10 T (ad 0) (bb ad) (x_K_124 0) ++ (wkL T ad x_K_124 L18 ++ Z))))) hx hb hK hW 1 rfl g56 rfl dL_patterns_162 (fun H locs hW => ?_)
      obtain ⟨x_p57, ex_p57⟩ : ∃ y : Nat → Int32, y = upd x_p55 ((5 * (x_c_124 (3 : Int32).toNatClampNeg)) + 2).toNatClampNeg v8_124 := ⟨_, rfl⟩
      rw [← ex_p57] at hW
      replace h := lb_at ex_p57 h
      refine lv_aload hx hb dL_patterns_163 (lv_at hl 2 rfl) ?_
      refine lv_iconst (v := 5) hx hb dL_patterns_165 (by decide) ?_
      refine lv_aload_n hx hb dL_patterns_166 rfl (lv_at hl 1 rfl) ?_
      refine lv_iconst (v := 3) hx hb dL_patterns_167 (by decide) ?_
      refine g_iald hx hb hK hW 0 rfl (by decide) dL_patterns_168 ?_
      refine lv_imul hx hb dL_patterns_169 ?_
      refine lv_iconst (v := 3) hx hb dL_patterns_170 (by decide) ?_
      refine lv_iadd hx hb dL_patterns_171 ?_
      refine lv_iload hx hb dL_patterns_172 (lv_at hl 6 rfl) ?_
      obtain ⟨g58, h⟩ := grd_s h
      refine g_iast (ws9 := oA T 12 a_c x_c_124 ++ (oA T 30 a_p (upd x_p57 ((5 * (x_c_124 (3 : Int32).toNatClampNeg)) + 3).toNatClampNeg v9_124) ++ (oA T 6 a_k x_k_124 ++ (oc_X10 T (ad 0) (bb ad) (x_K_124 0) ++ (wkL T ad x_K_124 L18 ++ Z))))) hx hb hK hW 1 rfl g58 rfl dL_patterns_174 (fun H locs hW => ?_)
      obtain ⟨x_p59, ex_p59⟩ : ∃ y : Nat → Int32, y = upd x_p57 ((5 * (x_c_124 (3 : Int32).toNatClampNeg)) + 3).toNatClampNeg v9_124 := ⟨_, rfl⟩
      rw [← ex_p59] at hW
      replace h := lb_at ex_p59 h
      refine lv_aload_n hx hb dL_patterns_175 rfl (lv_at hl 1 rfl) ?_
      refine lv_iconst (v := 3) hx hb dL_patterns_176 (by decide) ?_
      refine lv_dup2_11 hx hb dL_patterns_177 rfl rfl ?_
      refine g_iald hx hb hK hW 0 rfl (by decide) dL_patterns_178 ?_
      refine lv_iconst (v := 1) hx hb dL_patterns_179 (by decide) ?_
      refine lv_iadd hx hb dL_patterns_180 ?_
      refine g_iast (ws9 := oA T 12 a_c (upd x_c_124 (3 : Int32).toNatClampNeg ((x_c_124 (3 : Int32).toNatClampNeg) + 1)) ++ (oA T 30 a_p x_p59 ++ (oA T 6 a_k x_k_124 ++ (oc_X10 T (ad 0) (bb ad) (x_K_124 0) ++ (wkL T ad x_K_124 L18 ++ Z))))) hx hb hK hW 0 rfl (by decide) rfl dL_patterns_181 (fun H locs hW => ?_)
      obtain ⟨x_c60, ex_c60⟩ : ∃ y : Nat → Int32, y = upd x_c_124 (3 : Int32).toNatClampNeg ((x_c_124 (3 : Int32).toNatClampNeg) + 1) := ⟨_, rfl⟩
      rw [← ex_c60] at hW
      replace h := lb_at ex_c60 h
      exact J182 _ _ _ _ _ _ _ _ _ _ hN_124 H locs ls hW (lv_sub hl [0, 1, 3, 4, 5, 6, 7] rfl) h
  have J107 : ∀ (x_K_107 : Nat → Ob) (x_c_107 : Nat → Int32) (x_p_107 : Nat → Int32) (x_k_107 : Nat → Int32) (x_N_107 : Nat) (v6_107 : Int32) (v7_107 : Int32) (v8_107 : Int32) (v9_107 : Int32) (s0_107 : Int32) (hN_107 : x_N_107 ≤ 1) (H : Heap) (locs : List Loc) (ls : Array Slot), Wd D A s.heap (oA T 12 a_c x_c_107 ++ (oA T 30 a_p x_p_107 ++ (oA T 6 a_k x_k_107 ++ (oc_X10 T (ad 0) (bb ad) (x_K_107 0) ++ (wkL T ad x_K_107 L18 ++ Z))))) H locs → lv_has ls 11 [(0, .ref (ad 0 0)), (3, .ref a_c), (4, .ref a_p), (6, .int v6_107), (7, .int v7_107), (8, .int v8_107), (9, .int v9_107)] → f_L_patterns_J107 x_K_107 x_c_107 x_p_107 x_k_107 x_N_107 v6_107 v7_107 v8_107 v9_107 s0_107 = some (r, x_K9, x_c9, x_p9, x_k9) → W p l e (rmL 9 1) s m args below meth c H locs x_N_107 (16 * x_N_107) Q (F0 m 107 ls [.int s0_107]) := by
    intro x_K_107 x_c_107 x_p_107 x_k_107 x_N_107 v6_107 v7_107 v8_107 v9_107 s0_107 hN_107 H locs ls hW hl h
    rw [f_L_patterns_J107] at h
    refine lv_istore (lv' := [(10, .int s0_107), (0, .ref (ad 0 0)), (3, .ref a_c), (4, .ref a_p), (6, .int v6_107), (7, .int v7_107), (8, .int v8_107), (9, .int v9_107)]) hx hb dL_patterns_107 hl (by decide) rfl (fun ls hl => ?_)
    refine lv_iload hx hb dL_patterns_109 (lv_at hl 0 rfl) ?_
    refine lv_if_eq (tgt := 124) hx hb dL_patterns_111 (by decide) (fun c43 => ?_) (fun c43 => ?_)
    · replace h := ite_t c43 h
      exact J124 _ _ _ _ _ _ _ _ _ _ hN_107 H locs ls hW (lv_sub hl [1, 2, 3, 4, 5, 6, 7, 0] rfl) h
    · replace h := ite_f c43 h
      refine lv_aload_n hx hb dL_patterns_114 rfl (lv_at hl 2 rfl) ?_
      refine lv_iconst (v := 3) hx hb dL_patterns_115 (by decide) ?_
      refine g_iald hx hb hK hW 0 rfl (by decide) dL_patterns_116 ?_
      refine lv_bipush (v := 6) hx hb dL_patterns_117 (by decide) ?_
      refine lv_icmp_ne (tgt := 124) hx hb dL_patterns_119 (by decide) (fun c61 => ?_) (fun c61 => ?_)
      · replace h := ite_f c61 h
        exact J124 _ _ _ _ _ _ _ _ _ _ hN_107 H locs ls hW (lv_sub hl [1, 2, 3, 4, 5, 6, 7, 0] rfl) h
      · replace h := ite_t c61 h
        refine lv_iconst (v := 1) hx hb dL_patterns_122 (by decide) ?_
        obtain ⟨rfl, rfl, rfl, rfl, rfl⟩ := ret5 h
        rw [hQ]
        refine W.widen (k := 1) (n := 16) hN_107 (Nat.mul_le_mul_left 16 hN_107) ?_
        exact g_retz hx hb hr hlk hW (by decide) dL_patterns_123
  have J92 : ∀ (x_K_92 : Nat → Ob) (x_c_92 : Nat → Int32) (x_p_92 : Nat → Int32) (x_k_92 : Nat → Int32) (x_N_92 : Nat) (v6_92 : Int32) (v7_92 : Int32) (v8_92 : Int32) (s0_92 : Int32) (hN_92 : x_N_92 ≤ 1) (H : Heap) (locs : List Loc) (ls : Array Slot), Wd D A s.heap (oA T 12 a_c x_c_92 ++ (oA T 30 a_p x_p_92 ++ (oA T 6 a_k x_k_92 ++ (oc_X10 T (ad 0) (bb ad) (x_K_92 0) ++ (wkL T ad x_K_92 L18 ++ Z))))) H locs → lv_has ls 11 [(0, .ref (ad 0 0)), (3, .ref a_c), (4, .ref a_p), (6, .int v6_92), (7, .int v7_92), (8, .int v8_92)] → f_L_patterns_J92 x_K_92 x_c_92 x_p_92 x_k_92 x_N_92 v6_92 v7_92 v8_92 s0_92 = some (r, x_K9, x_c9, x_p9, x_k9) → W p l e (rmL 9 1) s m args below meth c H locs x_N_92 (16 * x_N_92) Q (F0 m 92 ls [.int s0_92]) := by
    intro x_K_92 x_c_92 x_p_92 x_k_92 x_N_92 v6_92 v7_92 v8_92 s0_92 hN_92 H locs ls hW hl h
    rw [f_L_patterns_J92] at h
    refine lv_istore (lv' := [(9, .int s0_92), (0, .ref (ad 0 0)), (3, .ref a_c), (4, .ref a_p), (6, .int v6_92), (7, .int v7_92), (8, .int v8_92)]) hx hb dL_patterns_92 hl (by decide) rfl (fun ls hl => ?_)
    refine lv_iload hx hb dL_patterns_94 (lv_at hl 0 rfl) ?_
    refine lv_aload_n hx hb dL_patterns_96 rfl (lv_at hl 2 rfl) ?_
    refine lv_iconst (v := 3) hx hb dL_patterns_97 (by decide) ?_
    refine g_iald hx hb hK hW 0 rfl (by decide) dL_patterns_98 ?_
    refine lv_icmp_ge (tgt := 106) hx hb dL_patterns_99 (by decide) (fun c42 => ?_) (fun c42 => ?_)
    · replace h := ite_t c42 h
      refine lv_iconst (v := 0) hx hb dL_patterns_106 (by decide) ?_
      exact J107 _ _ _ _ _ _ _ _ _ _ hN_92 H locs ls hW (lv_sub hl [1, 2, 3, 4, 5, 6, 0] rfl) h
    · replace h := ite_f c42 h
      refine lv_iconst (v := 1) hx hb dL_patterns_102 (by decide) ?_
      refine lv_goto (tgt := 107) hx hb dL_patterns_103 (by decide) ?_
      exact J107 _ _ _ _ _ _ _ _ _ _ hN_92 H locs ls hW (lv_sub hl [1, 2, 3, 4, 5, 6, 0] rfl) h
  have J64 : ∀ (x_K_64 : Nat → Ob) (x_c_64 : Nat → Int32) (x_p_64 : Nat → Int32) (x_k_64 : Nat → Int32) (x_N_64 : Nat) (v2_64 : Int32) (v6_64 : Int32) (v7_64 : Int32) (s0_64 : Int32) (hN_64 : x_N_64 ≤ 1) (H : Heap) (locs : List Loc) (ls : Array Slot), Wd D A s.heap (oA T 12 a_c x_c_64 ++ (oA T 30 a_p x_p_64 ++ (oA T 6 a_k x_k_64 ++ (oc_X10 T (ad 0) (bb ad) (x_K_64 0) ++ (wkL T ad x_K_64 L18 ++ Z))))) H locs → lv_has ls 11 [(0, .ref (ad 0 0)), (2, .int v2_64), (3, .ref a_c), (4, .ref a_p), (6, .int v6_64), (7, .int v7_64)] → f_L_patterns_J64 x_K_64 x_c_64 x_p_64 x_k_64 x_N_64 v2_64 v6_64 v7_64 s0_64 = some (r, x_K9, x_c9, x_p9, x_k9) → W p l e (rmL 9 1) s m args below meth c H locs x_N_64 (16 * x_N_64) Q (F0 m 64 ls [.int s0_64]) := by
    intro x_K_64 x_c_64 x_p_64 x_k_64 x_N_64 v2_64 v6_64 v7_64 s0_64 hN_64 H locs ls hW hl h
    rw [f_L_patterns_J64] at h
    refine lv_istore (lv' := [(8, .int s0_64), (0, .ref (ad 0 0)), (2, .int v2_64), (3, .ref a_c), (4, .ref a_p), (6, .int v6_64), (7, .int v7_64)]) hx hb dL_patterns_64 hl (by decide) rfl (fun ls hl => ?_)
    refine lv_iload_n hx hb dL_patterns_66 rfl (lv_at hl 2 rfl) ?_
    refine lv_bipush (v := 7) hx hb dL_patterns_67 (by decide) ?_
    refine lv_ishr hx hb dL_patterns_69 ?_
    refine lv_iconst (v := 3) hx hb dL_patterns_70 (by decide) ?_
    obtain ⟨r37, q38, h⟩ := bnd1_s h
    refine cs_L_171 hx hb hml hown hts hK hN hE hC hA hW (c_L_some l D T A (oA T 12 a_c x_c_64 ++ (oA T 30 a_p x_p_64 ++ (oA T 6 a_k x_k_64 ++ (oc_X10 T (ad 0) (bb ad) (x_K_64 0) ++ (wkL T ad x_K_64 L18 ++ Z))))) (v2_64 >>> ((7 : Int32) &&& 31)) 3 r37 q38) ⟨Nat.le_of_ble_eq_true rfl, Nat.le_of_ble_eq_true rfl⟩ hl.1 rfl (Nat.le_of_ble_eq_true rfl) dL_patterns_71 (hf0 hN_64) rfl (fun H locs hW => ?_)
    refine lv_if_ne (tgt := 81) hx hb dL_patterns_74 (by decide) (fun c39 => ?_) (fun c39 => ?_)
    · replace h := ite_f c39 h
      refine lv_iload_n hx hb dL_patterns_81 rfl (lv_at hl 2 rfl) ?_
      refine lv_iconst (v := 2) hx hb dL_patterns_82 (by decide) ?_
      refine lv_ishr hx hb dL_patterns_83 ?_
      refine lv_aload_n hx hb dL_patterns_84 rfl (lv_at hl 3 rfl) ?_
      refine lv_iconst (v := 3) hx hb dL_patterns_85 (by decide) ?_
      refine g_iald hx hb hK hW 0 rfl (by decide) dL_patterns_86 ?_
      refine lv_iconst (v := 1) hx hb dL_patterns_87 (by decide) ?_
      refine lv_iadd hx hb dL_patterns_88 ?_
      obtain ⟨r40, q41, h⟩ := bnd1_s h
      refine cs_L_171 hx hb hml hown hts hK hN hE hC hA hW (c_L_some l D T A (oA T 12 a_c x_c_64 ++ (oA T 30 a_p x_p_64 ++ (oA T 6 a_k x_k_64 ++ (oc_X10 T (ad 0) (bb ad) (x_K_64 0) ++ (wkL T ad x_K_64 L18 ++ Z))))) (v2_64 >>> ((2 : Int32) &&& 31)) ((x_c_64 (3 : Int32).toNatClampNeg) + 1) r40 q41) ⟨Nat.le_of_ble_eq_true rfl, Nat.le_of_ble_eq_true rfl⟩ hl.1 rfl (Nat.le_of_ble_eq_true rfl) dL_patterns_89 (hf0 hN_64) rfl (fun H locs hW => ?_)
      exact J92 _ _ _ _ _ _ _ _ _ hN_64 H locs ls hW (lv_sub hl [1, 3, 4, 5, 6, 0] rfl) h
    · replace h := ite_t c39 h
      refine lv_iconst (v := (-1)) hx hb dL_patterns_77 (by decide) ?_
      refine lv_goto (tgt := 92) hx hb dL_patterns_78 (by decide) ?_
      exact J92 _ _ _ _ _ _ _ _ _ hN_64 H locs ls hW (lv_sub hl [1, 3, 4, 5, 6, 0] rfl) h
  have J51 : ∀ (x_K_51 : Nat → Ob) (x_c_51 : Nat → Int32) (x_p_51 : Nat → Int32) (x_k_51 : Nat → Int32) (x_N_51 : Nat) (v2_51 : Int32) (v6_51 : Int32) (v7_51 : Int32) (hN_51 : x_N_51 ≤ 1) (H : Heap) (locs : List Loc) (ls : Array Slot), Wd D A s.heap (oA T 12 a_c x_c_51 ++ (oA T 30 a_p x_p_51 ++ (oA T 6 a_k x_k_51 ++ (oc_X10 T (ad 0) (bb ad) (x_K_51 0) ++ (wkL T ad x_K_51 L18 ++ Z))))) H locs → lv_has ls 11 [(0, .ref (ad 0 0)), (2, .int v2_51), (3, .ref a_c), (4, .ref a_p), (6, .int v6_51), (7, .int v7_51)] → f_L_patterns_J51 x_K_51 x_c_51 x_p_51 x_k_51 x_N_51 v2_51 v6_51 v7_51 = some (r, x_K9, x_c9, x_p9, x_k9) → W p l e (rmL 9 1) s m args below meth c H locs x_N_51 (16 * x_N_51) Q (F0 m 51 ls []) := by
    intro x_K_51 x_c_51 x_p_51 x_k_51 x_N_51 v2_51 v6_51 v7_51 hN_51 H locs ls hW hl h
    rw [f_L_patterns_J51] at h
    refine lv_iconst (v := (-1)) hx hb dL_patterns_51 (by decide) ?_
    refine lv_goto (tgt := 64) hx hb dL_patterns_52 (by decide) ?_
    exact J64 _ _ _ _ _ _ _ _ _ hN_51 H locs ls hW (lv_sub hl [0, 1, 2, 3, 4, 5] rfl) h
  have J34 : ∀ (x_K_34 : Nat → Ob) (x_c_34 : Nat → Int32) (x_p_34 : Nat → Int32) (x_k_34 : Nat → Int32) (x_N_34 : Nat) (v2_34 : Int32) (v6_34 : Int32) (s0_34 : Int32) (hN_34 : x_N_34 ≤ 1) (H : Heap) (locs : List Loc) (ls : Array Slot), Wd D A s.heap (oA T 12 a_c x_c_34 ++ (oA T 30 a_p x_p_34 ++ (oA T 6 a_k x_k_34 ++ (oc_X10 T (ad 0) (bb ad) (x_K_34 0) ++ (wkL T ad x_K_34 L18 ++ Z))))) H locs → lv_has ls 11 [(0, .ref (ad 0 0)), (2, .int v2_34), (3, .ref a_c), (4, .ref a_p), (6, .int v6_34)] → f_L_patterns_J34 x_K_34 x_c_34 x_p_34 x_k_34 x_N_34 v2_34 v6_34 s0_34 = some (r, x_K9, x_c9, x_p9, x_k9) → W p l e (rmL 9 1) s m args below meth c H locs x_N_34 (16 * x_N_34) Q (F0 m 34 ls [.int s0_34]) := by
    intro x_K_34 x_c_34 x_p_34 x_k_34 x_N_34 v2_34 v6_34 s0_34 hN_34 H locs ls hW hl h
    rw [f_L_patterns_J34] at h
    refine lv_istore (lv' := [(7, .int s0_34), (0, .ref (ad 0 0)), (2, .int v2_34), (3, .ref a_c), (4, .ref a_p), (6, .int v6_34)]) hx hb dL_patterns_34 hl (by decide) rfl (fun ls hl => ?_)
    refine lv_iload hx hb dL_patterns_36 (lv_at hl 0 rfl) ?_
    refine lv_if_lt (tgt := 51) hx hb dL_patterns_38 (by decide) (fun c36 => ?_) (fun c36 => ?_)
    · replace h := ite_t c36 h
      exact J51 _ _ _ _ _ _ _ _ hN_34 H locs ls hW (lv_sub hl [1, 2, 3, 4, 5, 0] rfl) h
    · replace h := ite_f c36 h
      refine lv_iload_n hx hb dL_patterns_41 rfl (lv_at hl 2 rfl) ?_
      refine lv_iconst (v := 5) hx hb dL_patterns_42 (by decide) ?_
      refine lv_ishr hx hb dL_patterns_43 ?_
      refine lv_iconst (v := 2) hx hb dL_patterns_44 (by decide) ?_
      obtain ⟨r62, q63, h⟩ := bnd1_s h
      refine cs_L_171 hx hb hml hown hts hK hN hE hC hA hW (c_L_some l D T A (oA T 12 a_c x_c_34 ++ (oA T 30 a_p x_p_34 ++ (oA T 6 a_k x_k_34 ++ (oc_X10 T (ad 0) (bb ad) (x_K_34 0) ++ (wkL T ad x_K_34 L18 ++ Z))))) (v2_34 >>> ((5 : Int32) &&& 31)) 2 r62 q63) ⟨Nat.le_of_ble_eq_true rfl, Nat.le_of_ble_eq_true rfl⟩ hl.1 rfl (Nat.le_of_ble_eq_true rfl) dL_patterns_45 (hf0 hN_34) rfl (fun H locs hW => ?_)
      refine lv_if_ne (tgt := 55) hx hb dL_patterns_48 (by decide) (fun c64 => ?_) (fun c64 => ?_)
      · replace h := ite_f c64 h
        refine lv_iload_n hx hb dL_patterns_55 rfl (lv_at hl 2 rfl) ?_
        refine lv_bipush (v := 6) hx hb dL_patterns_56 (by decide) ?_
        refine lv_ishr hx hb dL_patterns_58 ?_
        refine lv_bipush (v := 6) hx hb dL_patterns_59 (by decide) ?_
        obtain ⟨r65, q66, h⟩ := bnd1_s h
        refine cs_L_171 hx hb hml hown hts hK hN hE hC hA hW (c_L_some l D T A (oA T 12 a_c x_c_34 ++ (oA T 30 a_p x_p_34 ++ (oA T 6 a_k x_k_34 ++ (oc_X10 T (ad 0) (bb ad) (x_K_34 0) ++ (wkL T ad x_K_34 L18 ++ Z))))) (v2_34 >>> ((6 : Int32) &&& 31)) 6 r65 q66) ⟨Nat.le_of_ble_eq_true rfl, Nat.le_of_ble_eq_true rfl⟩ hl.1 rfl (Nat.le_of_ble_eq_true rfl) dL_patterns_61 (hf0 hN_34) rfl (fun H locs hW => ?_)
        exact J64 _ _ _ _ _ _ _ _ _ hN_34 H locs ls hW (lv_sub hl [1, 2, 3, 4, 5, 0] rfl) h
      · replace h := ite_t c64 h
        exact J51 _ _ _ _ _ _ _ _ hN_34 H locs ls hW (lv_sub hl [1, 2, 3, 4, 5, 0] rfl) h
  refine lv_iload_n hx hb dL_patterns_0 rfl (lv_at hl 1 rfl) ?_
  refine lv_if_ne (tgt := 220) hx hb dL_patterns_1 (by decide) (fun c1 => ?_) (fun c1 => ?_)
  · replace h := ite_f c1 h
    refine lv_iload_n hx hb dL_patterns_220 rfl (lv_at hl 2 rfl) ?_
    refine lv_aload_n hx hb dL_patterns_221 rfl (lv_at hl 3 rfl) ?_
    refine lv_iconst (v := 3) hx hb dL_patterns_222 (by decide) ?_
    refine g_iald hx hb hK hW 0 rfl (by decide) dL_patterns_223 ?_
    refine lv_iconst (v := 1) hx hb dL_patterns_224 (by decide) ?_
    refine lv_iadd hx hb dL_patterns_225 ?_
    obtain ⟨r2, q3, h⟩ := bnd1_s h
    refine cs_L_171 hx hb hml hown hts hK hN hE hC hA hW (c_L_some l D T A (oA T 12 a_c x_c ++ (oA T 30 a_p x_p ++ (oA T 6 a_k x_k ++ (oc_X10 T (ad 0) (bb ad) (x_K 0) ++ (wkL T ad x_K L18 ++ Z))))) p3 ((x_c (3 : Int32).toNatClampNeg) + 1) r2 q3) ⟨Nat.le_of_ble_eq_true rfl, Nat.le_of_ble_eq_true rfl⟩ hl.1 rfl (Nat.le_of_ble_eq_true rfl) dL_patterns_226 (hf0 (Nat.zero_le _)) rfl (fun H locs hW => ?_)
    refine lv_istore (lv' := [(6, .int r2), (0, .ref (ad 0 0)), (1, .int p2), (2, .int p3), (3, .ref a_c), (4, .ref a_p), (5, .ref a_k)]) hx hb dL_patterns_229 hl (by decide) rfl (fun ls hl => ?_)
    refine lv_iload_n hx hb dL_patterns_231 rfl (lv_at hl 3 rfl) ?_
    refine lv_iconst (v := 4) hx hb dL_patterns_232 (by decide) ?_
    refine lv_ishr hx hb dL_patterns_233 ?_
    refine lv_aload_n hx hb dL_patterns_234 rfl (lv_at hl 4 rfl) ?_
    refine lv_iconst (v := 0) hx hb dL_patterns_235 (by decide) ?_
    refine g_iald hx hb hK hW 0 rfl (by decide) dL_patterns_236 ?_
    refine lv_iconst (v := 2) hx hb dL_patterns_237 (by decide) ?_
    refine lv_iadd hx hb dL_patterns_238 ?_
    obtain ⟨r4, q5, h⟩ := bnd1_s h
    refine cs_L_171 hx hb hml hown hts hK hN hE hC hA hW (c_L_some l D T A (oA T 12 a_c x_c ++ (oA T 30 a_p x_p ++ (oA T 6 a_k x_k ++ (oc_X10 T (ad 0) (bb ad) (x_K 0) ++ (wkL T ad x_K L18 ++ Z))))) (p3 >>> ((4 : Int32) &&& 31)) ((x_c (0 : Int32).toNatClampNeg) + 2) r4 q5) ⟨Nat.le_of_ble_eq_true rfl, Nat.le_of_ble_eq_true rfl⟩ hl.1 rfl (Nat.le_of_ble_eq_true rfl) dL_patterns_239 (hf0 (Nat.zero_le _)) rfl (fun H locs hW => ?_)
    refine lv_iconst (v := 1) hx hb dL_patterns_242 (by decide) ?_
    refine lv_isub hx hb dL_patterns_243 ?_
    refine lv_topi (fun w7_6 ew7_6 => ?_)
    replace h := lb_at ew7_6 h
    refine lv_istore (lv' := [(7, .int w7_6), (6, .int r2), (0, .ref (ad 0 0)), (1, .int p2), (2, .int p3), (3, .ref a_c), (4, .ref a_p), (5, .ref a_k)]) hx hb dL_patterns_244 hl (by decide) rfl (fun ls hl => ?_)
    refine lv_iload hx hb dL_patterns_246 (lv_at hl 1 rfl) ?_
    refine lv_aload_n hx hb dL_patterns_248 rfl (lv_at hl 5 rfl) ?_
    refine lv_iconst (v := 3) hx hb dL_patterns_249 (by decide) ?_
    refine g_iald hx hb hK hW 0 rfl (by decide) dL_patterns_250 ?_
    refine lv_icmp_ge (tgt := 266) hx hb dL_patterns_251 (by decide) (fun c7 => ?_) (fun c7 => ?_)
    · replace h := ite_t c7 h
      exact J266 _ _ _ _ _ _ _ (Nat.zero_le _) H locs ls hW (lv_sub hl [2, 6, 7, 1, 0] rfl) h
    · replace h := ite_f c7 h
      refine lv_iload hx hb dL_patterns_254 (lv_at hl 0 rfl) ?_
      refine lv_aload_n hx hb dL_patterns_256 rfl (lv_at hl 5 rfl) ?_
      refine lv_iconst (v := 0) hx hb dL_patterns_257 (by decide) ?_
      refine g_iald hx hb hK hW 0 rfl (by decide) dL_patterns_258 ?_
      refine lv_icmp_ge (tgt := 266) hx hb dL_patterns_259 (by decide) (fun c28 => ?_) (fun c28 => ?_)
      · replace h := ite_t c28 h
        exact J266 _ _ _ _ _ _ _ (Nat.zero_le _) H locs ls hW (lv_sub hl [2, 6, 7, 1, 0] rfl) h
      · replace h := ite_f c28 h
        refine lv_iconst (v := 1) hx hb dL_patterns_262 (by decide) ?_
        refine lv_goto (tgt := 267) hx hb dL_patterns_263 (by decide) ?_
        exact J267 _ _ _ _ _ _ _ _ (Nat.zero_le _) H locs ls hW (lv_sub hl [2, 6, 7, 1, 0] rfl) h
  · replace h := ite_t c1 h
    refine lv_iload_n hx hb dL_patterns_4 rfl (lv_at hl 2 rfl) ?_
    refine lv_bipush (v := 6) hx hb dL_patterns_5 (by decide) ?_
    obtain ⟨r29, q30, h⟩ := bnd1_s h
    refine cs_L_171 hx hb hml hown hts hK hN hE hC hA hW (c_L_some l D T A (oA T 12 a_c x_c ++ (oA T 30 a_p x_p ++ (oA T 6 a_k x_k ++ (oc_X10 T (ad 0) (bb ad) (x_K 0) ++ (wkL T ad x_K L18 ++ Z))))) p3 6 r29 q30) ⟨Nat.le_of_ble_eq_true rfl, Nat.le_of_ble_eq_true rfl⟩ hl.1 rfl (Nat.le_of_ble_eq_true rfl) dL_patterns_7 (hf0 (Nat.zero_le _)) rfl (fun H locs hW => ?_)
    refine lv_istore (lv' := [(6, .int r29), (0, .ref (ad 0 0)), (1, .int p2), (2, .int p3), (3, .ref a_c), (4, .ref a_p), (5, .ref a_k)]) hx hb dL_patterns_10 hl (by decide) rfl (fun ls hl => ?_)
    refine lv_iload_n hx hb dL_patterns_12 rfl (lv_at hl 3 rfl) ?_
    refine lv_iconst (v := 3) hx hb dL_patterns_13 (by decide) ?_
    refine lv_ishr hx hb dL_patterns_14 ?_
    refine lv_iconst (v := 2) hx hb dL_patterns_15 (by decide) ?_
    obtain ⟨r31, q32, h⟩ := bnd1_s h
    refine cs_L_171 hx hb hml hown hts hK hN hE hC hA hW (c_L_some l D T A (oA T 12 a_c x_c ++ (oA T 30 a_p x_p ++ (oA T 6 a_k x_k ++ (oc_X10 T (ad 0) (bb ad) (x_K 0) ++ (wkL T ad x_K L18 ++ Z))))) (p3 >>> ((3 : Int32) &&& 31)) 2 r31 q32) ⟨Nat.le_of_ble_eq_true rfl, Nat.le_of_ble_eq_true rfl⟩ hl.1 rfl (Nat.le_of_ble_eq_true rfl) dL_patterns_16 (hf0 (Nat.zero_le _)) rfl (fun H locs hW => ?_)
    refine lv_if_ne (tgt := 26) hx hb dL_patterns_19 (by decide) (fun c33 => ?_) (fun c33 => ?_)
    · replace h := ite_f c33 h
      refine lv_iload_n hx hb dL_patterns_26 rfl (lv_at hl 3 rfl) ?_
      refine lv_iconst (v := 4) hx hb dL_patterns_27 (by decide) ?_
      refine lv_ishr hx hb dL_patterns_28 ?_
      refine lv_bipush (v := 6) hx hb dL_patterns_29 (by decide) ?_
      obtain ⟨r34, q35, h⟩ := bnd1_s h
      refine cs_L_171 hx hb hml hown hts hK hN hE hC hA hW (c_L_some l D T A (oA T 12 a_c x_c ++ (oA T 30 a_p x_p ++ (oA T 6 a_k x_k ++ (oc_X10 T (ad 0) (bb ad) (x_K 0) ++ (wkL T ad x_K L18 ++ Z))))) (p3 >>> ((4 : Int32) &&& 31)) 6 r34 q35) ⟨Nat.le_of_ble_eq_true rfl, Nat.le_of_ble_eq_true rfl⟩ hl.1 rfl (Nat.le_of_ble_eq_true rfl) dL_patterns_31 (hf0 (Nat.zero_le _)) rfl (fun H locs hW => ?_)
      exact J34 _ _ _ _ _ _ _ _ (Nat.zero_le _) H locs ls hW (lv_sub hl [1, 3, 4, 5, 0] rfl) h
    · replace h := ite_t c33 h
      refine lv_iconst (v := (-1)) hx hb dL_patterns_22 (by decide) ?_
      refine lv_goto (tgt := 34) hx hb dL_patterns_23 (by decide) ?_
      exact J34 _ _ _ _ _ _ _ _ (Nat.zero_le _) H locs ls hW (lv_sub hl [1, 3, 4, 5, 0] rfl) h
