set_option maxHeartbeats 4000000 in
set_option maxRecDepth 100000 in
theorem c_X6_addWord (l : Launch) (D : va_G) (T : Nat → ClassId) (A : Nat → Prop) (a_o : Nat → Nat) (Z : va_W)  (x_o : Ob) (p1 : Int32) (x_o9 : Ob) (h : f_X6_addWord x_o p1 = some x_o9) : Met l yX6_addWord (Cond.code yX6_addWord cX6_addWord 2 none :: wsL_law) (rmd 0) (Pg D T A (oc_X6 T a_o x_o ++ Z) [.ref (a_o 0), .int p1]) (Qgv D A (oc_X6 T a_o x_o9 ++ Z)) 0 0 A := by
  refine Met.ofW (cc := cX6_addWord) (maxL := 2) (ret := none) (by decide +kernel) rfl ?_
  intro p e s m args below meth c s₁ B hml hv
  obtain ⟨ha, hP, hK, hD, hN⟩ := hv
  have hx := B.exec
  have hb := B.bytes
  have hr := B.returns
  have hlk := B.notSynchronized
  have hts : ∀ w ∈ wsL_law, w.before args s = true := fun w hw => atoms_spec B.pre w (List.mem_cons_of_mem _ hw)
  have hown : s.vm.findClass RX6 = some m.cls := findClass_of_methodNamed B.named
  have hW : Wd D A s.heap (oc_X6 T a_o x_o ++ Z) s.heap [] := ⟨hP, hD, va_S.rf⟩
  have hl := lv_entry [.ref (a_o 0), .int p1] (n := 2) (Nat.le_of_ble_eq_true rfl)
  refine W.eq (en_eq ha) ?_
  generalize (lg_sl [.ref (a_o 0), .int p1] ++ List.replicate (2 - (lg_sl [.ref (a_o 0), .int p1]).length) Slot.unset).toArray = ls at hl ⊢
  have hl : lv_has ls 2 [(0, .ref (a_o 0)), (1, .int p1)] := hl
  clear hP hD B ha
  obtain ⟨Q, hQ⟩ : ∃ Q, Q = MQ below (Qgv D A (oc_X6 T a_o x_o9 ++ Z)) args s 0 0 A := ⟨_, rfl⟩
  rw [← hQ]
  change W p l e (rmd 0) s m args below meth c s.heap [] 0 0 Q (F0 m 0 ls [])
  rw [f_X6_addWord] at h
  suffices hm : ∀ (H : Heap) (locs : List Loc), Wd D A s.heap (oc_X6 T a_o x_o ++ Z) H locs → W p l e (rmd 0) s m args below meth c H locs 0 0 Q (F0 m 0 ls []) from hm _ _ hW
  intro H locs hW
  refine lv_aload_n hx hb dX6_addWord_0 rfl (lv_at hl 0 rfl) ?_
  refine fg_X6_9 (v := .int (x_o 0 0)) hx hb hts hown hK hW 0 rfl rfl dX6_addWord_1 ?_
  refine lv_if_lt (tgt := 39) hx hb dX6_addWord_4 (by decide) (fun c1 => ?_) (fun c1 => ?_)
  · have h := ite_t c1 h
    obtain rfl := ret1 h
    rw [hQ]
    exact g_retv hx hb hr hlk hW dX6_addWord_39
  · have h := ite_f c1 h
    refine lv_aload_n hx hb dX6_addWord_7 rfl (lv_at hl 0 rfl) ?_
    refine fg_X6_9 (v := .int (x_o 0 0)) hx hb hts hown hK hW 0 rfl rfl dX6_addWord_8 ?_
    refine lv_aload_n hx hb dX6_addWord_11 rfl (lv_at hl 0 rfl) ?_
    refine fg_X6_15 (v := .ref (a_o 1)) hx hb hts hown hK hW 0 rfl rfl dX6_addWord_12 ?_
    refine g_alen (v := 6) hx hb hK hW 1 0 rfl rfl rfl dX6_addWord_15 ?_
    refine lv_icmp_ge (tgt := 39) hx hb dX6_addWord_16 (by decide) (fun c2 => ?_) (fun c2 => ?_)
    · have h := ite_t c2 h
      obtain rfl := ret1 h
      rw [hQ]
      exact g_retv hx hb hr hlk hW dX6_addWord_39
    · have h := ite_f c2 h
      refine lv_aload_n hx hb dX6_addWord_19 rfl (lv_at hl 0 rfl) ?_
      refine fg_X6_15 (v := .ref (a_o 1)) hx hb hts hown hK hW 0 rfl rfl dX6_addWord_20 ?_
      refine lv_aload_n hx hb dX6_addWord_23 rfl (lv_at hl 0 rfl) ?_
      refine fg_X6_9 (v := .int (x_o 0 0)) hx hb hts hown hK hW 0 rfl rfl dX6_addWord_24 ?_
      refine lv_iload_n hx hb dX6_addWord_27 rfl (lv_at hl 1 rfl) ?_
      obtain ⟨g3, h⟩ := grd_s h
      refine g_iast (ws9 := oc_X6 T a_o (upo x_o 1 (x_o 0 0).toNatClampNeg p1) ++ Z) hx hb hK hW 1 rfl g3 sa_X6_1 dX6_addWord_28 (fun H locs hW => ?_)
      obtain ⟨x_o4, ex_o4⟩ : ∃ y : Ob, y = upo x_o 1 (x_o 0 0).toNatClampNeg p1 := ⟨_, rfl⟩
      rw [← ex_o4] at hW
      have h := lb_at ex_o4 h
      refine lv_aload_n hx hb dX6_addWord_29 rfl (lv_at hl 0 rfl) ?_
      refine lv_dup hx hb dX6_addWord_30 rfl ?_
      refine fg_X6_9 (v := .int (x_o4 0 0)) hx hb hts hown hK hW 0 rfl rfl dX6_addWord_31 ?_
      refine lv_iconst (v := 1) hx hb dX6_addWord_34 (by decide) ?_
      refine lv_iadd hx hb dX6_addWord_35 ?_
      refine fp_X6_9 (ws9 := oc_X6 T a_o (upo x_o4 0 0 ((x_o4 0 0) + 1)) ++ Z) hx hb hts hown hK hW 0 rfl (Nat.le_of_ble_eq_true rfl) sf_X6_0 dX6_addWord_36 (fun H locs hW => ?_)
      obtain ⟨x_o5, ex_o5⟩ : ∃ y : Ob, y = upo x_o4 0 0 ((x_o4 0 0) + 1) := ⟨_, rfl⟩
      rw [← ex_o5] at hW
      have h := lb_at ex_o5 h
      obtain rfl := ret1 h
      rw [hQ]
      exact g_retv hx hb hr hlk hW dX6_addWord_39
set_option maxHeartbeats 4000000 in
set_option maxRecDepth 100000 in
theorem c_X6_putWord (l : Launch) (D : va_G) (T : Nat → ClassId) (A : Nat → Prop) (a_o : Nat → Nat) (Z : va_W)  (x_o : Ob) (p1 : Int32) (p2 : Int32) (x_o9 : Ob) (h : f_X6_putWord x_o p1 p2 = some x_o9) : Met l yX6_putWord (Cond.code yX6_putWord cX6_putWord 3 none :: wsL_law) (rmd 0) (Pg D T A (oc_X6 T a_o x_o ++ Z) [.ref (a_o 0), .int p1, .int p2]) (Qgv D A (oc_X6 T a_o x_o9 ++ Z)) 0 0 A := by
  refine Met.ofW (cc := cX6_putWord) (maxL := 3) (ret := none) (by decide +kernel) rfl ?_
  intro p e s m args below meth c s₁ B hml hv
  obtain ⟨ha, hP, hK, hD, hN⟩ := hv
  have hx := B.exec
  have hb := B.bytes
  have hr := B.returns
  have hlk := B.notSynchronized
  have hts : ∀ w ∈ wsL_law, w.before args s = true := fun w hw => atoms_spec B.pre w (List.mem_cons_of_mem _ hw)
  have hown : s.vm.findClass RX6 = some m.cls := findClass_of_methodNamed B.named
  have hW : Wd D A s.heap (oc_X6 T a_o x_o ++ Z) s.heap [] := ⟨hP, hD, va_S.rf⟩
  have hl := lv_entry [.ref (a_o 0), .int p1, .int p2] (n := 3) (Nat.le_of_ble_eq_true rfl)
  refine W.eq (en_eq ha) ?_
  generalize (lg_sl [.ref (a_o 0), .int p1, .int p2] ++ List.replicate (3 - (lg_sl [.ref (a_o 0), .int p1, .int p2]).length) Slot.unset).toArray = ls at hl ⊢
  have hl : lv_has ls 3 [(0, .ref (a_o 0)), (1, .int p1), (2, .int p2)] := hl
  clear hP hD B ha
  obtain ⟨Q, hQ⟩ : ∃ Q, Q = MQ below (Qgv D A (oc_X6 T a_o x_o9 ++ Z)) args s 0 0 A := ⟨_, rfl⟩
  rw [← hQ]
  change W p l e (rmd 0) s m args below meth c s.heap [] 0 0 Q (F0 m 0 ls [])
  rw [f_X6_putWord] at h
  suffices hm : ∀ (H : Heap) (locs : List Loc), Wd D A s.heap (oc_X6 T a_o x_o ++ Z) H locs → W p l e (rmd 0) s m args below meth c H locs 0 0 Q (F0 m 0 ls []) from hm _ _ hW
  intro H locs hW
  refine lv_iload_n hx hb dX6_putWord_0 rfl (lv_at hl 1 rfl) ?_
  refine lv_if_lt (tgt := 19) hx hb dX6_putWord_1 (by decide) (fun c1 => ?_) (fun c1 => ?_)
  · have h := ite_t c1 h
    obtain rfl := ret1 h
    rw [hQ]
    exact g_retv hx hb hr hlk hW dX6_putWord_19
  · have h := ite_f c1 h
    refine lv_iload_n hx hb dX6_putWord_4 rfl (lv_at hl 1 rfl) ?_
    refine lv_aload_n hx hb dX6_putWord_5 rfl (lv_at hl 0 rfl) ?_
    refine fg_X6_9 (v := .int (x_o 0 0)) hx hb hts hown hK hW 0 rfl rfl dX6_putWord_6 ?_
    refine lv_icmp_ge (tgt := 19) hx hb dX6_putWord_9 (by decide) (fun c2 => ?_) (fun c2 => ?_)
    · have h := ite_t c2 h
      obtain rfl := ret1 h
      rw [hQ]
      exact g_retv hx hb hr hlk hW dX6_putWord_19
    · have h := ite_f c2 h
      refine lv_aload_n hx hb dX6_putWord_12 rfl (lv_at hl 0 rfl) ?_
      refine fg_X6_15 (v := .ref (a_o 1)) hx hb hts hown hK hW 0 rfl rfl dX6_putWord_13 ?_
      refine lv_iload_n hx hb dX6_putWord_16 rfl (lv_at hl 1 rfl) ?_
      refine lv_iload_n hx hb dX6_putWord_17 rfl (lv_at hl 2 rfl) ?_
      obtain ⟨g3, h⟩ := grd_s h
      refine g_iast (ws9 := oc_X6 T a_o (upo x_o 1 p1.toNatClampNeg p2) ++ Z) hx hb hK hW 1 rfl g3 sa_X6_1 dX6_putWord_18 (fun H locs hW => ?_)
      obtain ⟨x_o4, ex_o4⟩ : ∃ y : Ob, y = upo x_o 1 p1.toNatClampNeg p2 := ⟨_, rfl⟩
      rw [← ex_o4] at hW
      have h := lb_at ex_o4 h
      obtain rfl := ret1 h
      rw [hQ]
      exact g_retv hx hb hr hlk hW dX6_putWord_19
set_option maxHeartbeats 4000000 in
set_option maxRecDepth 100000 in
theorem c_X6_takeOut (l : Launch) (D : va_G) (T : Nat → ClassId) (A : Nat → Prop) (a_o : Nat → Nat) (Z : va_W)  (x_o : Ob) (p1 : Int32) (x_o9 : Ob) (h : f_X6_takeOut x_o p1 = some x_o9) : Met l yX6_takeOut (Cond.code yX6_takeOut cX6_takeOut 3 none :: wsL_law) (rmd 0) (Pg D T A (oc_X6 T a_o x_o ++ Z) [.ref (a_o 0), .int p1]) (Qgv D A (oc_X6 T a_o x_o9 ++ Z)) 0 0 A := by
  refine Met.ofW (cc := cX6_takeOut) (maxL := 3) (ret := none) (by decide +kernel) rfl ?_
  intro p e s m args below meth c s₁ B hml hv
  obtain ⟨ha, hP, hK, hD, hN⟩ := hv
  have hx := B.exec
  have hb := B.bytes
  have hr := B.returns
  have hlk := B.notSynchronized
  have hts : ∀ w ∈ wsL_law, w.before args s = true := fun w hw => atoms_spec B.pre w (List.mem_cons_of_mem _ hw)
  have hown : s.vm.findClass RX6 = some m.cls := findClass_of_methodNamed B.named
  have hW : Wd D A s.heap (oc_X6 T a_o x_o ++ Z) s.heap [] := ⟨hP, hD, va_S.rf⟩
  have hl := lv_entry [.ref (a_o 0), .int p1] (n := 3) (Nat.le_of_ble_eq_true rfl)
  refine W.eq (en_eq ha) ?_
  generalize (lg_sl [.ref (a_o 0), .int p1] ++ List.replicate (3 - (lg_sl [.ref (a_o 0), .int p1]).length) Slot.unset).toArray = ls at hl ⊢
  have hl : lv_has ls 3 [(0, .ref (a_o 0)), (1, .int p1)] := hl
  clear hP hD B ha
  obtain ⟨Q, hQ⟩ : ∃ Q, Q = MQ below (Qgv D A (oc_X6 T a_o x_o9 ++ Z)) args s 0 0 A := ⟨_, rfl⟩
  rw [← hQ]
  change W p l e (rmd 0) s m args below meth c s.heap [] 0 0 Q (F0 m 0 ls [])
  have L14 : ∀ (n : Nat) (x_o_14 : Ob) (v2_14 : Int32) (H : Heap) (locs : List Loc) (ls : Array Slot) (o2_14r : Int32) (y_o_14r : Ob), Wd D A s.heap (oc_X6 T a_o x_o_14 ++ Z) H locs → lv_has ls 3 [(0, .ref (a_o 0)), (2, .int v2_14)] → f_X6_takeOut_L14 n x_o_14 v2_14 = some (o2_14r, y_o_14r) → (∀ (H : Heap) (locs : List Loc) (ls : Array Slot), Wd D A s.heap (oc_X6 T a_o y_o_14r ++ Z) H locs → lv_has ls 3 [(0, .ref (a_o 0))] → W p l e (rmd 0) s m args below meth c H locs 0 0 Q (F0 m 44 ls [])) → W p l e (rmd 0) s m args below meth c H locs 0 0 Q (F0 m 14 ls []) := by
    intro n
    induction n with
    | zero =>
      intro x_o_14 v2_14 H locs ls o2_14r y_o_14r hW hl h k1
      rw [f_X6_takeOut_L14] at h
      cases h
    | succ n ih =>
      intro x_o_14 v2_14 H locs ls o2_14r y_o_14r hW hl h k1
      rw [f_X6_takeOut_L14] at h
      refine lv_iload_n hx hb dX6_takeOut_14 rfl (lv_at hl 1 rfl) ?_
      refine lv_iconst (v := 1) hx hb dX6_takeOut_15 (by decide) ?_
      refine lv_iadd hx hb dX6_takeOut_16 ?_
      refine lv_aload_n hx hb dX6_takeOut_17 rfl (lv_at hl 0 rfl) ?_
      refine fg_X6_9 (v := .int (x_o_14 0 0)) hx hb hts hown hK hW 0 rfl rfl dX6_takeOut_18 ?_
      refine lv_icmp_ge (tgt := 44) hx hb dX6_takeOut_21 (by decide) (fun c3 => ?_) (fun c3 => ?_)
      · have h := ite_t c3 h
        obtain ⟨rfl, rfl⟩ := ret2 h
        exact k1 H locs ls hW (lv_sub hl [0] rfl)
      · have h := ite_f c3 h
        refine lv_aload_n hx hb dX6_takeOut_24 rfl (lv_at hl 0 rfl) ?_
        refine fg_X6_15 (v := .ref (a_o 1)) hx hb hts hown hK hW 0 rfl rfl dX6_takeOut_25 ?_
        refine lv_iload_n hx hb dX6_takeOut_28 rfl (lv_at hl 1 rfl) ?_
        refine lv_aload_n hx hb dX6_takeOut_29 rfl (lv_at hl 0 rfl) ?_
        refine fg_X6_15 (v := .ref (a_o 1)) hx hb hts hown hK hW 0 rfl rfl dX6_takeOut_30 ?_
        refine lv_iload_n hx hb dX6_takeOut_33 rfl (lv_at hl 1 rfl) ?_
        refine lv_iconst (v := 1) hx hb dX6_takeOut_34 (by decide) ?_
        refine lv_iadd hx hb dX6_takeOut_35 ?_
        obtain ⟨g4, h⟩ := grd_s h
        refine g_iald hx hb hK hW 1 rfl g4 dX6_takeOut_36 ?_
        obtain ⟨g5, h⟩ := grd_s h
        refine g_iast (ws9 := oc_X6 T a_o (upo x_o_14 1 v2_14.toNatClampNeg (x_o_14 1 (v2_14 + 1).toNatClampNeg)) ++ Z) hx hb hK hW 1 rfl g5 sa_X6_1 dX6_takeOut_37 (fun H locs hW => ?_)
        obtain ⟨x_o6, ex_o6⟩ : ∃ y : Ob, y = upo x_o_14 1 v2_14.toNatClampNeg (x_o_14 1 (v2_14 + 1).toNatClampNeg) := ⟨_, rfl⟩
        rw [← ex_o6] at hW
        have h := lb_at ex_o6 h
        obtain ⟨w2_7, ew2_7⟩ : ∃ y : Int32, y = v2_14 + 1 := ⟨_, rfl⟩
        have h := lb_at ew2_7 h
        refine lv_iinc (v := w2_7) (lv' := [(2, .int w2_7), (0, .ref (a_o 0))]) hx hb dX6_takeOut_38 hl (k := 1) rfl (by rw [ew2_7]; rfl) (by decide) rfl (fun ls hl => ?_)
        refine lv_goto (tgt := 14) hx hb dX6_takeOut_41 (by decide) ?_
        exact ih _ _ H locs ls _ _ hW (lv_sub hl [1, 0] rfl) h k1
  rw [f_X6_takeOut] at h
  suffices hm : ∀ (H : Heap) (locs : List Loc), Wd D A s.heap (oc_X6 T a_o x_o ++ Z) H locs → W p l e (rmd 0) s m args below meth c H locs 0 0 Q (F0 m 0 ls []) from hm _ _ hW
  intro H locs hW
  refine lv_iload_n hx hb dX6_takeOut_0 rfl (lv_at hl 1 rfl) ?_
  refine lv_if_lt (tgt := 54) hx hb dX6_takeOut_1 (by decide) (fun c1 => ?_) (fun c1 => ?_)
  · have h := ite_t c1 h
    obtain rfl := ret1 h
    rw [hQ]
    exact g_retv hx hb hr hlk hW dX6_takeOut_54
  · have h := ite_f c1 h
    refine lv_iload_n hx hb dX6_takeOut_4 rfl (lv_at hl 1 rfl) ?_
    refine lv_aload_n hx hb dX6_takeOut_5 rfl (lv_at hl 0 rfl) ?_
    refine fg_X6_9 (v := .int (x_o 0 0)) hx hb hts hown hK hW 0 rfl rfl dX6_takeOut_6 ?_
    refine lv_icmp_ge (tgt := 54) hx hb dX6_takeOut_9 (by decide) (fun c2 => ?_) (fun c2 => ?_)
    · have h := ite_t c2 h
      obtain rfl := ret1 h
      rw [hQ]
      exact g_retv hx hb hr hlk hW dX6_takeOut_54
    · have h := ite_f c2 h
      refine lv_iload_n hx hb dX6_takeOut_12 rfl (lv_at hl 1 rfl) ?_
      refine lv_istore_n (lv' := [(2, .int p1), (0, .ref (a_o 0)), (1, .int p1)]) hx hb dX6_takeOut_13 rfl hl (by decide) rfl (fun ls hl => ?_)
      obtain ⟨o2_u8, y_o_u8, q9, h⟩ := bnd2_s h
      refine L14 200 _ _ H locs ls o2_u8 y_o_u8 hW (lv_sub hl [1, 0] rfl) q9 (fun H locs ls hW hl => ?_)
      refine lv_aload_n hx hb dX6_takeOut_44 rfl (lv_at hl 0 rfl) ?_
      refine lv_dup hx hb dX6_takeOut_45 rfl ?_
      refine fg_X6_9 (v := .int (y_o_u8 0 0)) hx hb hts hown hK hW 0 rfl rfl dX6_takeOut_46 ?_
      refine lv_iconst (v := 1) hx hb dX6_takeOut_49 (by decide) ?_
      refine lv_isub hx hb dX6_takeOut_50 ?_
      refine fp_X6_9 (ws9 := oc_X6 T a_o (upo y_o_u8 0 0 ((y_o_u8 0 0) - 1)) ++ Z) hx hb hts hown hK hW 0 rfl (Nat.le_of_ble_eq_true rfl) sf_X6_0 dX6_takeOut_51 (fun H locs hW => ?_)
      obtain ⟨x_o10, ex_o10⟩ : ∃ y : Ob, y = upo y_o_u8 0 0 ((y_o_u8 0 0) - 1) := ⟨_, rfl⟩
      rw [← ex_o10] at hW
      have h := lb_at ex_o10 h
      obtain rfl := ret1 h
      rw [hQ]
      exact g_retv hx hb hr hlk hW dX6_takeOut_54
set_option maxHeartbeats 4000000 in
set_option maxRecDepth 100000 in
theorem c_X6_copyWords (l : Launch) (D : va_G) (T : Nat → ClassId) (A : Nat → Prop) (a_o : Nat → Nat) (a_q1 : Nat → Nat) (Z : va_W)  (x_o : Ob) (x_q1 : Ob) (x_o9 : Ob) (h : f_X6_copyWords x_o x_q1 = some x_o9) : Met l yX6_copyWords (Cond.code yX6_copyWords cX6_copyWords 3 none :: wsL_law) (rmd 0) (Pg D T A (oc_X6 T a_o x_o ++ (oc_X6 T a_q1 x_q1 ++ Z)) [.ref (a_o 0), .ref (a_q1 0)]) (Qgv D A (oc_X6 T a_o x_o9 ++ (oc_X6 T a_q1 x_q1 ++ Z))) 0 0 A := by
  refine Met.ofW (cc := cX6_copyWords) (maxL := 3) (ret := none) (by decide +kernel) rfl ?_
  intro p e s m args below meth c s₁ B hml hv
  obtain ⟨ha, hP, hK, hD, hN⟩ := hv
  have hx := B.exec
  have hb := B.bytes
  have hr := B.returns
  have hlk := B.notSynchronized
  have hts : ∀ w ∈ wsL_law, w.before args s = true := fun w hw => atoms_spec B.pre w (List.mem_cons_of_mem _ hw)
  have hown : s.vm.findClass RX6 = some m.cls := findClass_of_methodNamed B.named
  have hW : Wd D A s.heap (oc_X6 T a_o x_o ++ (oc_X6 T a_q1 x_q1 ++ Z)) s.heap [] := ⟨hP, hD, va_S.rf⟩
  have hl := lv_entry [.ref (a_o 0), .ref (a_q1 0)] (n := 3) (Nat.le_of_ble_eq_true rfl)
  refine W.eq (en_eq ha) ?_
  generalize (lg_sl [.ref (a_o 0), .ref (a_q1 0)] ++ List.replicate (3 - (lg_sl [.ref (a_o 0), .ref (a_q1 0)]).length) Slot.unset).toArray = ls at hl ⊢
  have hl : lv_has ls 3 [(0, .ref (a_o 0)), (1, .ref (a_q1 0))] := hl
  clear hP hD B ha
  obtain ⟨Q, hQ⟩ : ∃ Q, Q = MQ below (Qgv D A (oc_X6 T a_o x_o9 ++ (oc_X6 T a_q1 x_q1 ++ Z))) args s 0 0 A := ⟨_, rfl⟩
  rw [← hQ]
  change W p l e (rmd 0) s m args below meth c s.heap [] 0 0 Q (F0 m 0 ls [])
  have L10 : ∀ (n : Nat) (x_o_10 : Ob) (v2_10 : Int32) (H : Heap) (locs : List Loc) (ls : Array Slot) (o2_10r : Int32) (y_o_10r : Ob), Wd D A s.heap (oc_X6 T a_o x_o_10 ++ (oc_X6 T a_q1 x_q1 ++ Z)) H locs → lv_has ls 3 [(0, .ref (a_o 0)), (1, .ref (a_q1 0)), (2, .int v2_10)] → f_X6_copyWords_L10 n x_o_10 x_q1 v2_10 = some (o2_10r, y_o_10r) → (∀ (H : Heap) (locs : List Loc) (ls : Array Slot), Wd D A s.heap (oc_X6 T a_o y_o_10r ++ (oc_X6 T a_q1 x_q1 ++ Z)) H locs → lv_has ls 3 [] → W p l e (rmd 0) s m args below meth c H locs 0 0 Q (F0 m 36 ls [])) → W p l e (rmd 0) s m args below meth c H locs 0 0 Q (F0 m 10 ls []) := by
    intro n
    induction n with
    | zero =>
      intro x_o_10 v2_10 H locs ls o2_10r y_o_10r hW hl h k1
      rw [f_X6_copyWords_L10] at h
      cases h
    | succ n ih =>
      intro x_o_10 v2_10 H locs ls o2_10r y_o_10r hW hl h k1
      rw [f_X6_copyWords_L10] at h
      refine lv_iload_n hx hb dX6_copyWords_10 rfl (lv_at hl 2 rfl) ?_
      refine lv_aload_n hx hb dX6_copyWords_11 rfl (lv_at hl 0 rfl) ?_
      refine fg_X6_9 (v := .int (x_o_10 0 0)) hx hb hts hown hK hW 0 rfl rfl dX6_copyWords_12 ?_
      refine lv_icmp_ge (tgt := 36) hx hb dX6_copyWords_15 (by decide) (fun c2 => ?_) (fun c2 => ?_)
      · have h := ite_t c2 h
        obtain ⟨rfl, rfl⟩ := ret2 h
        exact k1 H locs ls hW (lv_sub hl [] rfl)
      · have h := ite_f c2 h
        refine lv_aload_n hx hb dX6_copyWords_18 rfl (lv_at hl 0 rfl) ?_
        refine fg_X6_15 (v := .ref (a_o 1)) hx hb hts hown hK hW 0 rfl rfl dX6_copyWords_19 ?_
        refine lv_iload_n hx hb dX6_copyWords_22 rfl (lv_at hl 2 rfl) ?_
        refine lv_aload_n hx hb dX6_copyWords_23 rfl (lv_at hl 1 rfl) ?_
        refine fg_X6_15 (v := .ref (a_q1 1)) hx hb hts hown hK hW 6 rfl rfl dX6_copyWords_24 ?_
        refine lv_iload_n hx hb dX6_copyWords_27 rfl (lv_at hl 2 rfl) ?_
        obtain ⟨g3, h⟩ := grd_s h
        refine g_iald hx hb hK hW 7 rfl g3 dX6_copyWords_28 ?_
        obtain ⟨g4, h⟩ := grd_s h
        refine g_iast (ws9 := oc_X6 T a_o (upo x_o_10 1 v2_10.toNatClampNeg (x_q1 1 v2_10.toNatClampNeg)) ++ (oc_X6 T a_q1 x_q1 ++ Z)) hx hb hK hW 1 rfl g4 sa_X6_1 dX6_copyWords_29 (fun H locs hW => ?_)
        obtain ⟨x_o5, ex_o5⟩ : ∃ y : Ob, y = upo x_o_10 1 v2_10.toNatClampNeg (x_q1 1 v2_10.toNatClampNeg) := ⟨_, rfl⟩
        rw [← ex_o5] at hW
        have h := lb_at ex_o5 h
        obtain ⟨w2_6, ew2_6⟩ : ∃ y : Int32, y = v2_10 + 1 := ⟨_, rfl⟩
        have h := lb_at ew2_6 h
        refine lv_iinc (v := w2_6) (lv' := [(2, .int w2_6), (0, .ref (a_o 0)), (1, .ref (a_q1 0))]) hx hb dX6_copyWords_30 hl (k := 2) rfl (by rw [ew2_6]; rfl) (by decide) rfl (fun ls hl => ?_)
        refine lv_goto (tgt := 10) hx hb dX6_copyWords_33 (by decide) ?_
        exact ih _ _ H locs ls _ _ hW (lv_sub hl [1, 2, 0] rfl) h k1
  rw [f_X6_copyWords] at h
  suffices hm : ∀ (H : Heap) (locs : List Loc), Wd D A s.heap (oc_X6 T a_o x_o ++ (oc_X6 T a_q1 x_q1 ++ Z)) H locs → W p l e (rmd 0) s m args below meth c H locs 0 0 Q (F0 m 0 ls []) from hm _ _ hW
  intro H locs hW
  refine lv_aload_n hx hb dX6_copyWords_0 rfl (lv_at hl 0 rfl) ?_
  refine lv_aload_n hx hb dX6_copyWords_1 rfl (lv_at hl 1 rfl) ?_
  refine fg_X6_9 (v := .int (x_q1 0 0)) hx hb hts hown hK hW 6 rfl rfl dX6_copyWords_2 ?_
  refine fp_X6_9 (ws9 := oc_X6 T a_o (upo x_o 0 0 (x_q1 0 0)) ++ (oc_X6 T a_q1 x_q1 ++ Z)) hx hb hts hown hK hW 0 rfl (Nat.le_of_ble_eq_true rfl) sf_X6_0 dX6_copyWords_5 (fun H locs hW => ?_)
  obtain ⟨x_o1, ex_o1⟩ : ∃ y : Ob, y = upo x_o 0 0 (x_q1 0 0) := ⟨_, rfl⟩
  rw [← ex_o1] at hW
  have h := lb_at ex_o1 h
  refine lv_iconst (v := 0) hx hb dX6_copyWords_8 (by decide) ?_
  refine lv_istore_n (lv' := [(2, .int 0), (0, .ref (a_o 0)), (1, .ref (a_q1 0))]) hx hb dX6_copyWords_9 rfl hl (by decide) rfl (fun ls hl => ?_)
  obtain ⟨o2_u7, y_o_u7, q8, h⟩ := bnd2_s h
  refine L10 200 _ _ H locs ls o2_u7 y_o_u7 hW (lv_sub hl [1, 2, 0] rfl) q8 (fun H locs ls hW hl => ?_)
  obtain rfl := ret1 h
  rw [hQ]
  exact g_retv hx hb hr hlk hW dX6_copyWords_36
set_option maxHeartbeats 4000000 in
set_option maxRecDepth 100000 in
theorem c_X6_leaveAll (l : Launch) (D : va_G) (T : Nat → ClassId) (A : Nat → Prop) (a_o : Nat → Nat) (a_q1 : Nat → Nat) (Z : va_W)  (x_o : Ob) (x_q1 : Ob) (x_o9 : Ob) (h : f_X6_leaveAll x_o x_q1 = some x_o9) : Met l yX6_leaveAll (Cond.code yX6_leaveAll cX6_leaveAll 6 none :: wsL_law) (rmd 1) (Pg D T A (oc_X6 T a_o x_o ++ (oc_X3 T a_q1 x_q1 ++ Z)) [.ref (a_o 0), .ref (a_q1 0)]) (Qgv D A (oc_X6 T a_o x_o9 ++ (oc_X3 T a_q1 x_q1 ++ Z))) 0 0 A := by
  refine Met.ofW (cc := cX6_leaveAll) (maxL := 6) (ret := none) (by decide +kernel) rfl ?_
  intro p e s m args below meth c s₁ B hml hv
  obtain ⟨ha, hP, hK, hD, hN⟩ := hv
  have hx := B.exec
  have hb := B.bytes
  have hr := B.returns
  have hlk := B.notSynchronized
  have hts : ∀ w ∈ wsL_law, w.before args s = true := fun w hw => atoms_spec B.pre w (List.mem_cons_of_mem _ hw)
  have hown : s.vm.findClass RX6 = some m.cls := findClass_of_methodNamed B.named
  have hW : Wd D A s.heap (oc_X6 T a_o x_o ++ (oc_X3 T a_q1 x_q1 ++ Z)) s.heap [] := ⟨hP, hD, va_S.rf⟩
  have hl := lv_entry [.ref (a_o 0), .ref (a_q1 0)] (n := 6) (Nat.le_of_ble_eq_true rfl)
  refine W.eq (en_eq ha) ?_
  generalize (lg_sl [.ref (a_o 0), .ref (a_q1 0)] ++ List.replicate (6 - (lg_sl [.ref (a_o 0), .ref (a_q1 0)]).length) Slot.unset).toArray = ls at hl ⊢
  have hl : lv_has ls 6 [(0, .ref (a_o 0)), (1, .ref (a_q1 0))] := hl
  clear hP hD B ha
  obtain ⟨Q, hQ⟩ : ∃ Q, Q = MQ below (Qgv D A (oc_X6 T a_o x_o9 ++ (oc_X3 T a_q1 x_q1 ++ Z))) args s 0 0 A := ⟨_, rfl⟩
  rw [← hQ]
  change W p l e (rmd 1) s m args below meth c s.heap [] 0 0 Q (F0 m 0 ls [])
  have L47 : ∀ (n : Nat) (x_o_47 : Ob) (v2_47 : Int32) (v3_47 : Int32) (v4_47 : Int32) (v5_47 : Int32) (H : Heap) (locs : List Loc) (ls : Array Slot) (o5_47r : Int32) (y_o_47r : Ob), Wd D A s.heap (oc_X6 T a_o x_o_47 ++ (oc_X3 T a_q1 x_q1 ++ Z)) H locs → lv_has ls 6 [(0, .ref (a_o 0)), (1, .ref (a_q1 0)), (2, .int v2_47), (3, .int v3_47), (4, .int v4_47), (5, .int v5_47)] → f_X6_leaveAll_L47 n x_o_47 x_q1 v2_47 v3_47 v4_47 v5_47 = some (o5_47r, y_o_47r) → (∀ (H : Heap) (locs : List Loc) (ls : Array Slot), Wd D A s.heap (oc_X6 T a_o y_o_47r ++ (oc_X3 T a_q1 x_q1 ++ Z)) H locs → lv_has ls 6 [(0, .ref (a_o 0)), (1, .ref (a_q1 0)), (2, .int v2_47)] → W p l e (rmd 1) s m args below meth c H locs 0 0 Q (F0 m 96 ls [])) → W p l e (rmd 1) s m args below meth c H locs 0 0 Q (F0 m 47 ls []) := by
    intro n
    induction n with
    | zero =>
      intro x_o_47 v2_47 v3_47 v4_47 v5_47 H locs ls o5_47r y_o_47r hW hl h k1
      rw [f_X6_leaveAll_L47] at h
      cases h
    | succ n ih =>
      intro x_o_47 v2_47 v3_47 v4_47 v5_47 H locs ls o5_47r y_o_47r hW hl h k1
      rw [f_X6_leaveAll_L47] at h
      refine lv_iload hx hb dX6_leaveAll_47 (lv_at hl 5 rfl) ?_
      refine lv_iload hx hb dX6_leaveAll_49 (lv_at hl 4 rfl) ?_
      refine lv_icmp_ge (tgt := 96) hx hb dX6_leaveAll_51 (by decide) (fun c10 => ?_) (fun c10 => ?_)
      · have h := ite_t c10 h
        obtain ⟨rfl, rfl⟩ := ret2 h
        exact k1 H locs ls hW (lv_sub hl [0, 1, 2] rfl)
      · have h := ite_f c10 h
        refine lv_aload_n hx hb dX6_leaveAll_54 rfl (lv_at hl 0 rfl) ?_
        refine fg_X6_25 (v := .ref (a_o 4)) hx hb hts hown hK hW 0 rfl rfl dX6_leaveAll_55 ?_
        refine lv_iload_n hx hb dX6_leaveAll_58 rfl (lv_at hl 2 rfl) ?_
        refine lv_iconst (v := 4) hx hb dX6_leaveAll_59 (by decide) ?_
        refine lv_imul hx hb dX6_leaveAll_60 ?_
        refine lv_iload hx hb dX6_leaveAll_61 (lv_at hl 5 rfl) ?_
        refine lv_iadd hx hb dX6_leaveAll_63 ?_
        refine lv_aload_n hx hb dX6_leaveAll_64 rfl (lv_at hl 1 rfl) ?_
        refine lv_iload_n hx hb dX6_leaveAll_65 rfl (lv_at hl 3 rfl) ?_
        refine lv_iload hx hb dX6_leaveAll_66 (lv_at hl 5 rfl) ?_
        have hW := hW.perm pf1
        obtain ⟨r11, q12, h⟩ := bnd1_s h
        refine cl_X6_60 hx hb hml hown hts hK hN hW (c_X3_categoryIn l D T A a_q1 (oc_X6 T a_o x_o_47 ++ Z) x_q1 v3_47 v5_47 r11 q12) ⟨Nat.le_of_ble_eq_true rfl, Nat.le_of_ble_eq_true rfl⟩ hl.1 rfl (Nat.le_of_ble_eq_true rfl) dX6_leaveAll_68 ⟨Nat.zero_le _, Nat.zero_le _⟩ rfl (fun H locs hW => ?_)
        have hW := hW.perm pf1
        obtain ⟨g13, h⟩ := grd_s h
        refine g_iast (ws9 := oc_X6 T a_o (upo x_o_47 4 ((v2_47 * 4) + v5_47).toNatClampNeg r11) ++ (oc_X3 T a_q1 x_q1 ++ Z)) hx hb hK hW 4 rfl g13 sa_X6_4 dX6_leaveAll_71 (fun H locs hW => ?_)
        obtain ⟨x_o14, ex_o14⟩ : ∃ y : Ob, y = upo x_o_47 4 ((v2_47 * 4) + v5_47).toNatClampNeg r11 := ⟨_, rfl⟩
        rw [← ex_o14] at hW
        have h := lb_at ex_o14 h
        refine lv_aload_n hx hb dX6_leaveAll_72 rfl (lv_at hl 0 rfl) ?_
        refine fg_X6_28 (v := .ref (a_o 5)) hx hb hts hown hK hW 0 rfl rfl dX6_leaveAll_73 ?_
        refine lv_iload_n hx hb dX6_leaveAll_76 rfl (lv_at hl 2 rfl) ?_
        refine lv_iconst (v := 4) hx hb dX6_leaveAll_77 (by decide) ?_
        refine lv_imul hx hb dX6_leaveAll_78 ?_
        refine lv_iload hx hb dX6_leaveAll_79 (lv_at hl 5 rfl) ?_
        refine lv_iadd hx hb dX6_leaveAll_81 ?_
        refine lv_aload_n hx hb dX6_leaveAll_82 rfl (lv_at hl 1 rfl) ?_
        refine lv_iload_n hx hb dX6_leaveAll_83 rfl (lv_at hl 3 rfl) ?_
        refine lv_iload hx hb dX6_leaveAll_84 (lv_at hl 5 rfl) ?_
        have hW := hW.perm pf1
        obtain ⟨r15, q16, h⟩ := bnd1_s h
        refine cl_X6_63 hx hb hml hown hts hK hN hW (c_X3_featuresIn l D T A a_q1 (oc_X6 T a_o x_o14 ++ Z) x_q1 v3_47 v5_47 r15 q16) ⟨Nat.le_of_ble_eq_true rfl, Nat.le_of_ble_eq_true rfl⟩ hl.1 rfl (Nat.le_of_ble_eq_true rfl) dX6_leaveAll_86 ⟨Nat.zero_le _, Nat.zero_le _⟩ rfl (fun H locs hW => ?_)
        have hW := hW.perm pf1
        obtain ⟨g17, h⟩ := grd_s h
        refine g_iast (ws9 := oc_X6 T a_o (upo x_o14 5 ((v2_47 * 4) + v5_47).toNatClampNeg r15) ++ (oc_X3 T a_q1 x_q1 ++ Z)) hx hb hK hW 5 rfl g17 sa_X6_5 dX6_leaveAll_89 (fun H locs hW => ?_)
        obtain ⟨x_o18, ex_o18⟩ : ∃ y : Ob, y = upo x_o14 5 ((v2_47 * 4) + v5_47).toNatClampNeg r15 := ⟨_, rfl⟩
        rw [← ex_o18] at hW
        have h := lb_at ex_o18 h
        obtain ⟨w5_19, ew5_19⟩ : ∃ y : Int32, y = v5_47 + 1 := ⟨_, rfl⟩
        have h := lb_at ew5_19 h
        refine lv_iinc (v := w5_19) (lv' := [(5, .int w5_19), (0, .ref (a_o 0)), (1, .ref (a_q1 0)), (2, .int v2_47), (3, .int v3_47), (4, .int v4_47)]) hx hb dX6_leaveAll_90 hl (k := 5) rfl (by rw [ew5_19]; rfl) (by decide) rfl (fun ls hl => ?_)
        refine lv_goto (tgt := 47) hx hb dX6_leaveAll_93 (by decide) ?_
        exact ih _ _ _ _ _ H locs ls _ _ hW (lv_sub hl [1, 2, 3, 4, 5, 0] rfl) h k1
  have L2 : ∀ (n : Nat) (x_o_2 : Ob) (v2_2 : Int32) (H : Heap) (locs : List Loc) (ls : Array Slot) (o2_2r : Int32) (y_o_2r : Ob), Wd D A s.heap (oc_X6 T a_o x_o_2 ++ (oc_X3 T a_q1 x_q1 ++ Z)) H locs → lv_has ls 6 [(0, .ref (a_o 0)), (1, .ref (a_q1 0)), (2, .int v2_2)] → f_X6_leaveAll_L2 n x_o_2 x_q1 v2_2 = some (o2_2r, y_o_2r) → (∀ (H : Heap) (locs : List Loc) (ls : Array Slot), Wd D A s.heap (oc_X6 T a_o y_o_2r ++ (oc_X3 T a_q1 x_q1 ++ Z)) H locs → lv_has ls 6 [] → W p l e (rmd 1) s m args below meth c H locs 0 0 Q (F0 m 102 ls [])) → W p l e (rmd 1) s m args below meth c H locs 0 0 Q (F0 m 2 ls []) := by
    intro n
    induction n with
    | zero =>
      intro x_o_2 v2_2 H locs ls o2_2r y_o_2r hW hl h k1
      rw [f_X6_leaveAll_L2] at h
      cases h
    | succ n ih =>
      intro x_o_2 v2_2 H locs ls o2_2r y_o_2r hW hl h k1
      rw [f_X6_leaveAll_L2] at h
      refine lv_iload_n hx hb dX6_leaveAll_2 rfl (lv_at hl 2 rfl) ?_
      refine lv_aload_n hx hb dX6_leaveAll_3 rfl (lv_at hl 0 rfl) ?_
      refine fg_X6_9 (v := .int (x_o_2 0 0)) hx hb hts hown hK hW 0 rfl rfl dX6_leaveAll_4 ?_
      refine lv_icmp_ge (tgt := 102) hx hb dX6_leaveAll_7 (by decide) (fun c1 => ?_) (fun c1 => ?_)
      · have h := ite_t c1 h
        obtain ⟨rfl, rfl⟩ := ret2 h
        exact k1 H locs ls hW (lv_sub hl [] rfl)
      · have h := ite_f c1 h
        refine lv_aload_n hx hb dX6_leaveAll_10 rfl (lv_at hl 1 rfl) ?_
        refine lv_aload_n hx hb dX6_leaveAll_11 rfl (lv_at hl 0 rfl) ?_
        refine fg_X6_15 (v := .ref (a_o 1)) hx hb hts hown hK hW 0 rfl rfl dX6_leaveAll_12 ?_
        refine lv_iload_n hx hb dX6_leaveAll_15 rfl (lv_at hl 2 rfl) ?_
        obtain ⟨g2, h⟩ := grd_s h
        refine g_iald hx hb hK hW 1 rfl g2 dX6_leaveAll_16 ?_
        have hW := hW.perm pf1
        obtain ⟨r3, q4, h⟩ := bnd1_s h
        refine cl_X6_45 hx hb hml hown hts hK hN hW (c_X3_rowOf l D T A a_q1 (oc_X6 T a_o x_o_2 ++ Z) x_q1 (x_o_2 1 v2_2.toNatClampNeg) r3 q4) ⟨Nat.le_of_ble_eq_true rfl, Nat.le_of_ble_eq_true rfl⟩ hl.1 rfl (Nat.le_of_ble_eq_true rfl) dX6_leaveAll_17 ⟨Nat.zero_le _, Nat.zero_le _⟩ rfl (fun H locs hW => ?_)
        have hW := hW.perm pf1
        refine lv_istore_n (lv' := [(3, .int r3), (0, .ref (a_o 0)), (1, .ref (a_q1 0)), (2, .int v2_2)]) hx hb dX6_leaveAll_20 rfl hl (by decide) rfl (fun ls hl => ?_)
        refine lv_iconst (v := 4) hx hb dX6_leaveAll_21 (by decide) ?_
        refine lv_aload_n hx hb dX6_leaveAll_22 rfl (lv_at hl 2 rfl) ?_
        refine lv_iload_n hx hb dX6_leaveAll_23 rfl (lv_at hl 0 rfl) ?_
        have hW := hW.perm pf1
        obtain ⟨r5, q6, h⟩ := bnd1_s h
        refine cl_X6_51 hx hb hml hown hts hK hN hW (c_X3_filledIn l D T A a_q1 (oc_X6 T a_o x_o_2 ++ Z) x_q1 r3 r5 q6) ⟨Nat.le_of_ble_eq_true rfl, Nat.le_of_ble_eq_true rfl⟩ hl.1 rfl (Nat.le_of_ble_eq_true rfl) dX6_leaveAll_24 ⟨Nat.zero_le _, Nat.zero_le _⟩ rfl (fun H locs hW => ?_)
        have hW := hW.perm pf1
        refine va_mmin hx hb (hml.trans hl.1.symm) hown (hts _ wm17_1) (hts _ wm12_16) (hts _ wm12_17) (hts _ wm12_18) (Nat.le_of_ble_eq_true rfl) (Nat.le_of_ble_eq_true rfl) (Nat.zero_le _) (Nat.zero_le _) dX6_leaveAll_27 ?_
        refine lv_topi (fun w4_7 ew4_7 => ?_)
        have h := lb_at ew4_7 h
        refine lv_istore (lv' := [(4, .int w4_7), (3, .int r3), (0, .ref (a_o 0)), (1, .ref (a_q1 0)), (2, .int v2_2)]) hx hb dX6_leaveAll_30 hl (by decide) rfl (fun ls hl => ?_)
        refine lv_aload_n hx hb dX6_leaveAll_32 rfl (lv_at hl 2 rfl) ?_
        refine fg_X6_19 (v := .ref (a_o 2)) hx hb hts hown hK hW 0 rfl rfl dX6_leaveAll_33 ?_
        refine lv_iload_n hx hb dX6_leaveAll_36 rfl (lv_at hl 4 rfl) ?_
        refine lv_iconst (v := 1) hx hb dX6_leaveAll_37 (by decide) ?_
        refine lv_iload hx hb dX6_leaveAll_38 (lv_at hl 0 rfl) ?_
        refine lv_ishl hx hb dX6_leaveAll_40 ?_
        refine lv_iconst (v := 1) hx hb dX6_leaveAll_41 (by decide) ?_
        refine lv_isub hx hb dX6_leaveAll_42 ?_
        obtain ⟨g8, h⟩ := grd_s h
        refine g_iast (ws9 := oc_X6 T a_o (upo x_o_2 2 v2_2.toNatClampNeg (((1 : Int32) <<< (w4_7 &&& 31)) - 1)) ++ (oc_X3 T a_q1 x_q1 ++ Z)) hx hb hK hW 2 rfl g8 sa_X6_2 dX6_leaveAll_43 (fun H locs hW => ?_)
        obtain ⟨x_o9, ex_o9⟩ : ∃ y : Ob, y = upo x_o_2 2 v2_2.toNatClampNeg (((1 : Int32) <<< (w4_7 &&& 31)) - 1) := ⟨_, rfl⟩
        rw [← ex_o9] at hW
        have h := lb_at ex_o9 h
        refine lv_iconst (v := 0) hx hb dX6_leaveAll_44 (by decide) ?_
        refine lv_istore (lv' := [(5, .int 0), (4, .int w4_7), (3, .int r3), (0, .ref (a_o 0)), (1, .ref (a_q1 0)), (2, .int v2_2)]) hx hb dX6_leaveAll_45 hl (by decide) rfl (fun ls hl => ?_)
        obtain ⟨o5_u20, y_o_u20, q21, h⟩ := bnd2_s h
        refine L47 200 _ _ _ _ _ H locs ls o5_u20 y_o_u20 hW (lv_sub hl [3, 4, 5, 2, 1, 0] rfl) q21 (fun H locs ls hW hl => ?_)
        obtain ⟨w2_22, ew2_22⟩ : ∃ y : Int32, y = v2_2 + 1 := ⟨_, rfl⟩
        have h := lb_at ew2_22 h
        refine lv_iinc (v := w2_22) (lv' := [(2, .int w2_22), (0, .ref (a_o 0)), (1, .ref (a_q1 0))]) hx hb dX6_leaveAll_96 hl (k := 2) rfl (by rw [ew2_22]; rfl) (by decide) rfl (fun ls hl => ?_)
        refine lv_goto (tgt := 2) hx hb dX6_leaveAll_99 (by decide) ?_
        exact ih _ _ H locs ls _ _ hW (lv_sub hl [1, 2, 0] rfl) h k1
  rw [f_X6_leaveAll] at h
  suffices hm : ∀ (H : Heap) (locs : List Loc), Wd D A s.heap (oc_X6 T a_o x_o ++ (oc_X3 T a_q1 x_q1 ++ Z)) H locs → W p l e (rmd 1) s m args below meth c H locs 0 0 Q (F0 m 0 ls []) from hm _ _ hW
  intro H locs hW
  refine lv_iconst (v := 0) hx hb dX6_leaveAll_0 (by decide) ?_
  refine lv_istore_n (lv' := [(2, .int 0), (0, .ref (a_o 0)), (1, .ref (a_q1 0))]) hx hb dX6_leaveAll_1 rfl hl (by decide) rfl (fun ls hl => ?_)
  obtain ⟨o2_u23, y_o_u23, q24, h⟩ := bnd2_s h
  refine L2 200 _ _ H locs ls o2_u23 y_o_u23 hW (lv_sub hl [1, 2, 0] rfl) q24 (fun H locs ls hW hl => ?_)
  obtain rfl := ret1 h
  rw [hQ]
  exact g_retv hx hb hr hlk hW dX6_leaveAll_102
set_option maxHeartbeats 4000000 in
set_option maxRecDepth 100000 in
theorem c_X6_strikeOut (l : Launch) (D : va_G) (T : Nat → ClassId) (A : Nat → Prop) (a_o : Nat → Nat) (Z : va_W)  (x_o : Ob) (p1 : Int32) (p2 : Int32) (x_o9 : Ob) (h : f_X6_strikeOut x_o p1 p2 = some x_o9) : Met l yX6_strikeOut (Cond.code yX6_strikeOut cX6_strikeOut 3 none :: wsL_law) (rmd 0) (Pg D T A (oc_X6 T a_o x_o ++ Z) [.ref (a_o 0), .int p1, .int p2]) (Qgv D A (oc_X6 T a_o x_o9 ++ Z)) 0 0 A := by
  refine Met.ofW (cc := cX6_strikeOut) (maxL := 3) (ret := none) (by decide +kernel) rfl ?_
  intro p e s m args below meth c s₁ B hml hv
  obtain ⟨ha, hP, hK, hD, hN⟩ := hv
  have hx := B.exec
  have hb := B.bytes
  have hr := B.returns
  have hlk := B.notSynchronized
  have hts : ∀ w ∈ wsL_law, w.before args s = true := fun w hw => atoms_spec B.pre w (List.mem_cons_of_mem _ hw)
  have hown : s.vm.findClass RX6 = some m.cls := findClass_of_methodNamed B.named
  have hW : Wd D A s.heap (oc_X6 T a_o x_o ++ Z) s.heap [] := ⟨hP, hD, va_S.rf⟩
  have hl := lv_entry [.ref (a_o 0), .int p1, .int p2] (n := 3) (Nat.le_of_ble_eq_true rfl)
  refine W.eq (en_eq ha) ?_
  generalize (lg_sl [.ref (a_o 0), .int p1, .int p2] ++ List.replicate (3 - (lg_sl [.ref (a_o 0), .int p1, .int p2]).length) Slot.unset).toArray = ls at hl ⊢
  have hl : lv_has ls 3 [(0, .ref (a_o 0)), (1, .int p1), (2, .int p2)] := hl
  clear hP hD B ha
  obtain ⟨Q, hQ⟩ : ∃ Q, Q = MQ below (Qgv D A (oc_X6 T a_o x_o9 ++ Z)) args s 0 0 A := ⟨_, rfl⟩
  rw [← hQ]
  change W p l e (rmd 0) s m args below meth c s.heap [] 0 0 Q (F0 m 0 ls [])
  rw [f_X6_strikeOut] at h
  suffices hm : ∀ (H : Heap) (locs : List Loc), Wd D A s.heap (oc_X6 T a_o x_o ++ Z) H locs → W p l e (rmd 0) s m args below meth c H locs 0 0 Q (F0 m 0 ls []) from hm _ _ hW
  intro H locs hW
  refine lv_iload_n hx hb dX6_strikeOut_0 rfl (lv_at hl 1 rfl) ?_
  refine lv_if_lt (tgt := 24) hx hb dX6_strikeOut_1 (by decide) (fun c1 => ?_) (fun c1 => ?_)
  · have h := ite_t c1 h
    obtain rfl := ret1 h
    rw [hQ]
    exact g_retv hx hb hr hlk hW dX6_strikeOut_24
  · have h := ite_f c1 h
    refine lv_iload_n hx hb dX6_strikeOut_4 rfl (lv_at hl 1 rfl) ?_
    refine lv_aload_n hx hb dX6_strikeOut_5 rfl (lv_at hl 0 rfl) ?_
    refine fg_X6_9 (v := .int (x_o 0 0)) hx hb hts hown hK hW 0 rfl rfl dX6_strikeOut_6 ?_
    refine lv_icmp_ge (tgt := 24) hx hb dX6_strikeOut_9 (by decide) (fun c2 => ?_) (fun c2 => ?_)
    · have h := ite_t c2 h
      obtain rfl := ret1 h
      rw [hQ]
      exact g_retv hx hb hr hlk hW dX6_strikeOut_24
    · have h := ite_f c2 h
      refine lv_aload_n hx hb dX6_strikeOut_12 rfl (lv_at hl 0 rfl) ?_
      refine fg_X6_19 (v := .ref (a_o 2)) hx hb hts hown hK hW 0 rfl rfl dX6_strikeOut_13 ?_
      refine lv_iload_n hx hb dX6_strikeOut_16 rfl (lv_at hl 1 rfl) ?_
      refine lv_dup2_11 hx hb dX6_strikeOut_17 rfl rfl ?_
      obtain ⟨g3, h⟩ := grd_s h
      refine g_iald hx hb hK hW 2 rfl g3 dX6_strikeOut_18 ?_
      refine lv_iload_n hx hb dX6_strikeOut_19 rfl (lv_at hl 2 rfl) ?_
      refine lv_iconst (v := (-1)) hx hb dX6_strikeOut_20 (by decide) ?_
      refine lv_ixor hx hb dX6_strikeOut_21 ?_
      refine lv_iand hx hb dX6_strikeOut_22 ?_
      obtain ⟨g4, h⟩ := grd_s h
      refine g_iast (ws9 := oc_X6 T a_o (upo x_o 2 p1.toNatClampNeg ((x_o 2 p1.toNatClampNeg) &&& (p2 ^^^ (((-1) : Int32))))) ++ Z) hx hb hK hW 2 rfl g4 sa_X6_2 dX6_strikeOut_23 (fun H locs hW => ?_)
      obtain ⟨x_o5, ex_o5⟩ : ∃ y : Ob, y = upo x_o 2 p1.toNatClampNeg ((x_o 2 p1.toNatClampNeg) &&& (p2 ^^^ (((-1) : Int32)))) := ⟨_, rfl⟩
      rw [← ex_o5] at hW
      have h := lb_at ex_o5 h
      obtain rfl := ret1 h
      rw [hQ]
      exact g_retv hx hb hr hlk hW dX6_strikeOut_24
set_option maxHeartbeats 4000000 in
set_option maxRecDepth 100000 in
theorem c_X6_firstOf (l : Launch) (D : va_G) (T : Nat → ClassId) (A : Nat → Prop) (a_o : Nat → Nat) (Z : va_W)  (x_o : Ob) (p1 : Int32) (p2 : Int32) (r : Int32) (h : f_X6_firstOf x_o p1 p2 = some r) : Met l yX6_firstOf (Cond.code yX6_firstOf cX6_firstOf 5 (some .int) :: wsL_law) (rmd 1) (Pg D T A (oc_X6 T a_o x_o ++ Z) [.ref (a_o 0), .int p1, .int p2]) (Qgi D A (oc_X6 T a_o x_o ++ Z) r) 0 0 A := by
  refine Met.ofW (cc := cX6_firstOf) (maxL := 5) (ret := (some .int)) (by decide +kernel) rfl ?_
  intro p e s m args below meth c s₁ B hml hv
  obtain ⟨ha, hP, hK, hD, hN⟩ := hv
  have hx := B.exec
  have hb := B.bytes
  have hr := B.returns
  have hlk := B.notSynchronized
  have hts : ∀ w ∈ wsL_law, w.before args s = true := fun w hw => atoms_spec B.pre w (List.mem_cons_of_mem _ hw)
  have hown : s.vm.findClass RX6 = some m.cls := findClass_of_methodNamed B.named
  have hW : Wd D A s.heap (oc_X6 T a_o x_o ++ Z) s.heap [] := ⟨hP, hD, va_S.rf⟩
  have hl := lv_entry [.ref (a_o 0), .int p1, .int p2] (n := 5) (Nat.le_of_ble_eq_true rfl)
  refine W.eq (en_eq ha) ?_
  generalize (lg_sl [.ref (a_o 0), .int p1, .int p2] ++ List.replicate (5 - (lg_sl [.ref (a_o 0), .int p1, .int p2]).length) Slot.unset).toArray = ls at hl ⊢
  have hl : lv_has ls 5 [(0, .ref (a_o 0)), (1, .int p1), (2, .int p2)] := hl
  clear hP hD B ha
  obtain ⟨Q, hQ⟩ : ∃ Q, Q = MQ below (Qgi D A (oc_X6 T a_o x_o ++ Z) r) args s 0 0 A := ⟨_, rfl⟩
  rw [← hQ]
  change W p l e (rmd 1) s m args below meth c s.heap [] 0 0 Q (F0 m 0 ls [])
  have L10 : ∀ (n : Nat) (v3_10 : Int32) (v4_10 : Int32) (H : Heap) (locs : List Loc) (ls : Array Slot) (code : Nat) (o4_10r : Int32), Wd D A s.heap (oc_X6 T a_o x_o ++ Z) H locs → lv_has ls 5 [(3, .int v3_10), (4, .int v4_10)] → f_X6_firstOf_L10 n x_o v3_10 v4_10 = some (code, o4_10r) → (code = 1 → ∀ (H : Heap) (locs : List Loc) (ls : Array Slot), Wd D A s.heap (oc_X6 T a_o x_o ++ Z) H locs → lv_has ls 5 [] → W p l e (rmd 1) s m args below meth c H locs 0 0 Q (F0 m 34 ls [])) → (code = 2 → ∀ (H : Heap) (locs : List Loc) (ls : Array Slot), Wd D A s.heap (oc_X6 T a_o x_o ++ Z) H locs → lv_has ls 5 [(4, .int o4_10r)] → W p l e (rmd 1) s m args below meth c H locs 0 0 Q (F0 m 25 ls [])) → W p l e (rmd 1) s m args below meth c H locs 0 0 Q (F0 m 10 ls []) := by
    intro n
    induction n with
    | zero =>
      intro v3_10 v4_10 H locs ls code o4_10r hW hl h k1 k2
      rw [f_X6_firstOf_L10] at h
      cases h
    | succ n ih =>
      intro v3_10 v4_10 H locs ls code o4_10r hW hl h k1 k2
      rw [f_X6_firstOf_L10] at h
      refine lv_iload hx hb dX6_firstOf_10 (lv_at hl 1 rfl) ?_
      refine lv_iconst (v := 4) hx hb dX6_firstOf_12 (by decide) ?_
      refine lv_icmp_ge (tgt := 34) hx hb dX6_firstOf_13 (by decide) (fun c3 => ?_) (fun c3 => ?_)
      · have h := ite_t c3 h
        obtain ⟨rfl, rfl⟩ := ret2 h
        exact k1 rfl H locs ls hW (lv_sub hl [] rfl)
      · have h := ite_f c3 h
        refine lv_iload_n hx hb dX6_firstOf_16 rfl (lv_at hl 0 rfl) ?_
        refine lv_iload hx hb dX6_firstOf_17 (lv_at hl 1 rfl) ?_
        refine lv_ishr hx hb dX6_firstOf_19 ?_
        refine lv_iconst (v := 1) hx hb dX6_firstOf_20 (by decide) ?_
        refine lv_iand hx hb dX6_firstOf_21 ?_
        refine lv_if_eq (tgt := 28) hx hb dX6_firstOf_22 (by decide) (fun c4 => ?_) (fun c4 => ?_)
        · have h := ite_t c4 h
          obtain ⟨w4_5, ew4_5⟩ : ∃ y : Int32, y = v4_10 + 1 := ⟨_, rfl⟩
          have h := lb_at ew4_5 h
          refine lv_iinc (v := w4_5) (lv' := [(4, .int w4_5), (3, .int v3_10)]) hx hb dX6_firstOf_28 hl (k := 1) rfl (by rw [ew4_5]; rfl) (by decide) rfl (fun ls hl => ?_)
          refine lv_goto (tgt := 10) hx hb dX6_firstOf_31 (by decide) ?_
          exact ih _ _ H locs ls _ _ hW (lv_sub hl [1, 0] rfl) h k1 k2
        · have h := ite_f c4 h
          obtain ⟨rfl, rfl⟩ := ret2 h
          exact k2 rfl H locs ls hW (lv_sub hl [1] rfl)
  rw [f_X6_firstOf] at h
  suffices hm : ∀ (H : Heap) (locs : List Loc), Wd D A s.heap (oc_X6 T a_o x_o ++ Z) H locs → W p l e (rmd 1) s m args below meth c H locs 0 0 Q (F0 m 0 ls []) from hm _ _ hW
  intro H locs hW
  refine lv_aload_n hx hb dX6_firstOf_0 rfl (lv_at hl 0 rfl) ?_
  refine lv_iload_n hx hb dX6_firstOf_1 rfl (lv_at hl 1 rfl) ?_
  refine lv_iload_n hx hb dX6_firstOf_2 rfl (lv_at hl 2 rfl) ?_
  obtain ⟨r1, q2, h⟩ := bnd1_s h
  refine cl_X6_66 hx hb hml hown hts hK hN hW (c_X6_leftOf l D T A a_o (Z) x_o p1 p2 r1 q2) ⟨Nat.le_of_ble_eq_true rfl, Nat.le_of_ble_eq_true rfl⟩ hl.1 rfl (Nat.le_of_ble_eq_true rfl) dX6_firstOf_3 ⟨Nat.zero_le _, Nat.zero_le _⟩ rfl (fun H locs hW => ?_)
  refine lv_istore_n (lv' := [(3, .int r1), (0, .ref (a_o 0)), (1, .int p1), (2, .int p2)]) hx hb dX6_firstOf_6 rfl hl (by decide) rfl (fun ls hl => ?_)
  refine lv_iconst (v := 0) hx hb dX6_firstOf_7 (by decide) ?_
  refine lv_istore (lv' := [(4, .int 0), (3, .int r1), (0, .ref (a_o 0)), (1, .int p1), (2, .int p2)]) hx hb dX6_firstOf_8 hl (by decide) rfl (fun ls hl => ?_)
  obtain ⟨code7, o4_u6, q8, h⟩ := bnd2_s h
  refine L10 200 _ _ H locs ls code7 o4_u6 hW (lv_sub hl [1, 0] rfl) q8 (fun hc H locs ls hW hl => ?_) (fun hc H locs ls hW hl => ?_)
  · have h := ite_t hc h
    refine lv_iconst (v := (-1)) hx hb dX6_firstOf_34 (by decide) ?_
    obtain rfl := ret1 h
    rw [hQ]
    exact g_reti hx hb hr hlk hW dX6_firstOf_35
  · have h := ite_f (by rw [hc]; decide) h
    refine lv_iload hx hb dX6_firstOf_25 (lv_at hl 0 rfl) ?_
    obtain rfl := ret1 h
    rw [hQ]
    exact g_reti hx hb hr hlk hW dX6_firstOf_27
set_option maxHeartbeats 4000000 in
set_option maxRecDepth 100000 in
theorem c_X6_isGiven (l : Launch) (D : va_G) (T : Nat → ClassId) (A : Nat → Prop) (a_o : Nat → Nat) (a_q1 : Nat → Nat) (Z : va_W)  (x_o : Ob) (x_q1 : Ob) (r : Int32) (h : f_X6_isGiven x_o x_q1 = some r) : Met l yX6_isGiven (Cond.code yX6_isGiven cX6_isGiven 3 (some .boolean) :: wsL_law) (rmd 0) (Pg D T A (oc_X6 T a_o x_o ++ (oc_RW T a_q1 x_q1 ++ Z)) [.ref (a_o 0), .ref (a_q1 0)]) (Qgi D A (oc_X6 T a_o x_o ++ (oc_RW T a_q1 x_q1 ++ Z)) r) 0 0 A := by
  refine Met.ofW (cc := cX6_isGiven) (maxL := 3) (ret := (some .boolean)) (by decide +kernel) rfl ?_
  intro p e s m args below meth c s₁ B hml hv
  obtain ⟨ha, hP, hK, hD, hN⟩ := hv
  have hx := B.exec
  have hb := B.bytes
  have hr := B.returns
  have hlk := B.notSynchronized
  have hts : ∀ w ∈ wsL_law, w.before args s = true := fun w hw => atoms_spec B.pre w (List.mem_cons_of_mem _ hw)
  have hown : s.vm.findClass RX6 = some m.cls := findClass_of_methodNamed B.named
  have hW : Wd D A s.heap (oc_X6 T a_o x_o ++ (oc_RW T a_q1 x_q1 ++ Z)) s.heap [] := ⟨hP, hD, va_S.rf⟩
  have hl := lv_entry [.ref (a_o 0), .ref (a_q1 0)] (n := 3) (Nat.le_of_ble_eq_true rfl)
  refine W.eq (en_eq ha) ?_
  generalize (lg_sl [.ref (a_o 0), .ref (a_q1 0)] ++ List.replicate (3 - (lg_sl [.ref (a_o 0), .ref (a_q1 0)]).length) Slot.unset).toArray = ls at hl ⊢
  have hl : lv_has ls 3 [(0, .ref (a_o 0)), (1, .ref (a_q1 0))] := hl
  clear hP hD B ha
  obtain ⟨Q, hQ⟩ : ∃ Q, Q = MQ below (Qgi D A (oc_X6 T a_o x_o ++ (oc_RW T a_q1 x_q1 ++ Z)) r) args s 0 0 A := ⟨_, rfl⟩
  rw [← hQ]
  change W p l e (rmd 0) s m args below meth c s.heap [] 0 0 Q (F0 m 0 ls [])
  have L2 : ∀ (n : Nat) (v2_2 : Int32) (H : Heap) (locs : List Loc) (ls : Array Slot) (code : Nat) (o2_2r : Int32), Wd D A s.heap (oc_X6 T a_o x_o ++ (oc_RW T a_q1 x_q1 ++ Z)) H locs → lv_has ls 3 [(0, .ref (a_o 0)), (1, .ref (a_q1 0)), (2, .int v2_2)] → f_X6_isGiven_L2 n x_o x_q1 v2_2 = some (code, o2_2r) → (code = 1 → ∀ (H : Heap) (locs : List Loc) (ls : Array Slot), Wd D A s.heap (oc_X6 T a_o x_o ++ (oc_RW T a_q1 x_q1 ++ Z)) H locs → lv_has ls 3 [] → W p l e (rmd 0) s m args below meth c H locs 0 0 Q (F0 m 37 ls [])) → (code = 2 → ∀ (H : Heap) (locs : List Loc) (ls : Array Slot), Wd D A s.heap (oc_X6 T a_o x_o ++ (oc_RW T a_q1 x_q1 ++ Z)) H locs → lv_has ls 3 [] → W p l e (rmd 0) s m args below meth c H locs 0 0 Q (F0 m 29 ls [])) → W p l e (rmd 0) s m args below meth c H locs 0 0 Q (F0 m 2 ls []) := by
    intro n
    induction n with
    | zero =>
      intro v2_2 H locs ls code o2_2r hW hl h k1 k2
      rw [f_X6_isGiven_L2] at h
      cases h
    | succ n ih =>
      intro v2_2 H locs ls code o2_2r hW hl h k1 k2
      rw [f_X6_isGiven_L2] at h
      refine lv_iload_n hx hb dX6_isGiven_2 rfl (lv_at hl 2 rfl) ?_
      refine lv_aload_n hx hb dX6_isGiven_3 rfl (lv_at hl 0 rfl) ?_
      refine fg_X6_22 (v := .ref (a_o 3)) hx hb hts hown hK hW 0 rfl rfl dX6_isGiven_4 ?_
      refine g_alen (v := 6) hx hb hK hW 3 0 rfl rfl rfl dX6_isGiven_7 ?_
      refine lv_icmp_ge (tgt := 37) hx hb dX6_isGiven_8 (by decide) (fun c1 => ?_) (fun c1 => ?_)
      · have h := ite_t c1 h
        obtain ⟨rfl, rfl⟩ := ret2 h
        exact k1 rfl H locs ls hW (lv_sub hl [] rfl)
      · have h := ite_f c1 h
        refine lv_iload_n hx hb dX6_isGiven_11 rfl (lv_at hl 2 rfl) ?_
        refine lv_aload_n hx hb dX6_isGiven_12 rfl (lv_at hl 1 rfl) ?_
        refine g_alen (v := 6) hx hb hK hW 6 0 rfl rfl rfl dX6_isGiven_13 ?_
        refine lv_icmp_ge (tgt := 37) hx hb dX6_isGiven_14 (by decide) (fun c2 => ?_) (fun c2 => ?_)
        · have h := ite_t c2 h
          obtain ⟨rfl, rfl⟩ := ret2 h
          exact k1 rfl H locs ls hW (lv_sub hl [] rfl)
        · have h := ite_f c2 h
          refine lv_aload_n hx hb dX6_isGiven_17 rfl (lv_at hl 0 rfl) ?_
          refine fg_X6_22 (v := .ref (a_o 3)) hx hb hts hown hK hW 0 rfl rfl dX6_isGiven_18 ?_
          refine lv_iload_n hx hb dX6_isGiven_21 rfl (lv_at hl 2 rfl) ?_
          obtain ⟨g3, h⟩ := grd_s h
          refine g_iald hx hb hK hW 3 rfl g3 dX6_isGiven_22 ?_
          refine lv_aload_n hx hb dX6_isGiven_23 rfl (lv_at hl 1 rfl) ?_
          refine lv_iload_n hx hb dX6_isGiven_24 rfl (lv_at hl 2 rfl) ?_
          obtain ⟨g4, h⟩ := grd_s h
          refine g_iald hx hb hK hW 6 rfl g4 dX6_isGiven_25 ?_
          refine lv_icmp_eq (tgt := 31) hx hb dX6_isGiven_26 (by decide) (fun c5 => ?_) (fun c5 => ?_)
          · have h := ite_t c5 h
            obtain ⟨w2_6, ew2_6⟩ : ∃ y : Int32, y = v2_2 + 1 := ⟨_, rfl⟩
            have h := lb_at ew2_6 h
            refine lv_iinc (v := w2_6) (lv' := [(2, .int w2_6), (0, .ref (a_o 0)), (1, .ref (a_q1 0))]) hx hb dX6_isGiven_31 hl (k := 2) rfl (by rw [ew2_6]; rfl) (by decide) rfl (fun ls hl => ?_)
            refine lv_goto (tgt := 2) hx hb dX6_isGiven_34 (by decide) ?_
            exact ih _ H locs ls _ _ hW (lv_sub hl [1, 2, 0] rfl) h k1 k2
          · have h := ite_f c5 h
            obtain ⟨rfl, rfl⟩ := ret2 h
            exact k2 rfl H locs ls hW (lv_sub hl [] rfl)
  rw [f_X6_isGiven] at h
  suffices hm : ∀ (H : Heap) (locs : List Loc), Wd D A s.heap (oc_X6 T a_o x_o ++ (oc_RW T a_q1 x_q1 ++ Z)) H locs → W p l e (rmd 0) s m args below meth c H locs 0 0 Q (F0 m 0 ls []) from hm _ _ hW
  intro H locs hW
  refine lv_iconst (v := 0) hx hb dX6_isGiven_0 (by decide) ?_
  refine lv_istore_n (lv' := [(2, .int 0), (0, .ref (a_o 0)), (1, .ref (a_q1 0))]) hx hb dX6_isGiven_1 rfl hl (by decide) rfl (fun ls hl => ?_)
  obtain ⟨code8, o2_u7, q9, h⟩ := bnd2_s h
  refine L2 200 _ H locs ls code8 o2_u7 hW (lv_sub hl [1, 2, 0] rfl) q9 (fun hc H locs ls hW hl => ?_) (fun hc H locs ls hW hl => ?_)
  · have h := ite_t hc h
    refine lv_iconst (v := 1) hx hb dX6_isGiven_37 (by decide) ?_
    obtain rfl := ret1 h
    rw [hQ]
    exact g_retz hx hb hr hlk hW (by decide) dX6_isGiven_38
  · have h := ite_f (by rw [hc]; decide) h
    refine lv_iconst (v := 0) hx hb dX6_isGiven_29 (by decide) ?_
    obtain rfl := ret1 h
    rw [hQ]
    exact g_retz hx hb hr hlk hW (by decide) dX6_isGiven_30
set_option maxHeartbeats 4000000 in
set_option maxRecDepth 100000 in
theorem c_X6_giveAll (l : Launch) (D : va_G) (T : Nat → ClassId) (A : Nat → Prop) (a_o : Nat → Nat) (a_q1 : Nat → Nat) (Z : va_W)  (x_o : Ob) (x_q1 : Ob) (x_o9 : Ob) (h : f_X6_giveAll x_o x_q1 = some x_o9) : Met l yX6_giveAll (Cond.code yX6_giveAll cX6_giveAll 3 none :: wsL_law) (rmd 0) (Pg D T A (oc_X6 T a_o x_o ++ (oc_RW T a_q1 x_q1 ++ Z)) [.ref (a_o 0), .ref (a_q1 0)]) (Qgv D A (oc_X6 T a_o x_o9 ++ (oc_RW T a_q1 x_q1 ++ Z))) 0 0 A := by
  refine Met.ofW (cc := cX6_giveAll) (maxL := 3) (ret := none) (by decide +kernel) rfl ?_
  intro p e s m args below meth c s₁ B hml hv
  obtain ⟨ha, hP, hK, hD, hN⟩ := hv
  have hx := B.exec
  have hb := B.bytes
  have hr := B.returns
  have hlk := B.notSynchronized
  have hts : ∀ w ∈ wsL_law, w.before args s = true := fun w hw => atoms_spec B.pre w (List.mem_cons_of_mem _ hw)
  have hown : s.vm.findClass RX6 = some m.cls := findClass_of_methodNamed B.named
  have hW : Wd D A s.heap (oc_X6 T a_o x_o ++ (oc_RW T a_q1 x_q1 ++ Z)) s.heap [] := ⟨hP, hD, va_S.rf⟩
  have hl := lv_entry [.ref (a_o 0), .ref (a_q1 0)] (n := 3) (Nat.le_of_ble_eq_true rfl)
  refine W.eq (en_eq ha) ?_
  generalize (lg_sl [.ref (a_o 0), .ref (a_q1 0)] ++ List.replicate (3 - (lg_sl [.ref (a_o 0), .ref (a_q1 0)]).length) Slot.unset).toArray = ls at hl ⊢
  have hl : lv_has ls 3 [(0, .ref (a_o 0)), (1, .ref (a_q1 0))] := hl
  clear hP hD B ha
  obtain ⟨Q, hQ⟩ : ∃ Q, Q = MQ below (Qgv D A (oc_X6 T a_o x_o9 ++ (oc_RW T a_q1 x_q1 ++ Z))) args s 0 0 A := ⟨_, rfl⟩
  rw [← hQ]
  change W p l e (rmd 0) s m args below meth c s.heap [] 0 0 Q (F0 m 0 ls [])
  have L2 : ∀ (n : Nat) (x_o_2 : Ob) (v2_2 : Int32) (H : Heap) (locs : List Loc) (ls : Array Slot) (o2_2r : Int32) (y_o_2r : Ob), Wd D A s.heap (oc_X6 T a_o x_o_2 ++ (oc_RW T a_q1 x_q1 ++ Z)) H locs → lv_has ls 3 [(0, .ref (a_o 0)), (1, .ref (a_q1 0)), (2, .int v2_2)] → f_X6_giveAll_L2 n x_o_2 x_q1 v2_2 = some (o2_2r, y_o_2r) → (∀ (H : Heap) (locs : List Loc) (ls : Array Slot), Wd D A s.heap (oc_X6 T a_o y_o_2r ++ (oc_RW T a_q1 x_q1 ++ Z)) H locs → lv_has ls 3 [] → W p l e (rmd 0) s m args below meth c H locs 0 0 Q (F0 m 32 ls [])) → W p l e (rmd 0) s m args below meth c H locs 0 0 Q (F0 m 2 ls []) := by
    intro n
    induction n with
    | zero =>
      intro x_o_2 v2_2 H locs ls o2_2r y_o_2r hW hl h k1
      rw [f_X6_giveAll_L2] at h
      cases h
    | succ n ih =>
      intro x_o_2 v2_2 H locs ls o2_2r y_o_2r hW hl h k1
      rw [f_X6_giveAll_L2] at h
      refine lv_iload_n hx hb dX6_giveAll_2 rfl (lv_at hl 2 rfl) ?_
      refine lv_aload_n hx hb dX6_giveAll_3 rfl (lv_at hl 0 rfl) ?_
      refine fg_X6_22 (v := .ref (a_o 3)) hx hb hts hown hK hW 0 rfl rfl dX6_giveAll_4 ?_
      refine g_alen (v := 6) hx hb hK hW 3 0 rfl rfl rfl dX6_giveAll_7 ?_
      refine lv_icmp_ge (tgt := 32) hx hb dX6_giveAll_8 (by decide) (fun c1 => ?_) (fun c1 => ?_)
      · have h := ite_t c1 h
        obtain ⟨rfl, rfl⟩ := ret2 h
        exact k1 H locs ls hW (lv_sub hl [] rfl)
      · have h := ite_f c1 h
        refine lv_iload_n hx hb dX6_giveAll_11 rfl (lv_at hl 2 rfl) ?_
        refine lv_aload_n hx hb dX6_giveAll_12 rfl (lv_at hl 1 rfl) ?_
        refine g_alen (v := 6) hx hb hK hW 6 0 rfl rfl rfl dX6_giveAll_13 ?_
        refine lv_icmp_ge (tgt := 32) hx hb dX6_giveAll_14 (by decide) (fun c2 => ?_) (fun c2 => ?_)
        · have h := ite_t c2 h
          obtain ⟨rfl, rfl⟩ := ret2 h
          exact k1 H locs ls hW (lv_sub hl [] rfl)
        · have h := ite_f c2 h
          refine lv_aload_n hx hb dX6_giveAll_17 rfl (lv_at hl 0 rfl) ?_
          refine fg_X6_22 (v := .ref (a_o 3)) hx hb hts hown hK hW 0 rfl rfl dX6_giveAll_18 ?_
          refine lv_iload_n hx hb dX6_giveAll_21 rfl (lv_at hl 2 rfl) ?_
          refine lv_aload_n hx hb dX6_giveAll_22 rfl (lv_at hl 1 rfl) ?_
          refine lv_iload_n hx hb dX6_giveAll_23 rfl (lv_at hl 2 rfl) ?_
          obtain ⟨g3, h⟩ := grd_s h
          refine g_iald hx hb hK hW 6 rfl g3 dX6_giveAll_24 ?_
          obtain ⟨g4, h⟩ := grd_s h
          refine g_iast (ws9 := oc_X6 T a_o (upo x_o_2 3 v2_2.toNatClampNeg (x_q1 0 v2_2.toNatClampNeg)) ++ (oc_RW T a_q1 x_q1 ++ Z)) hx hb hK hW 3 rfl g4 sa_X6_3 dX6_giveAll_25 (fun H locs hW => ?_)
          obtain ⟨x_o5, ex_o5⟩ : ∃ y : Ob, y = upo x_o_2 3 v2_2.toNatClampNeg (x_q1 0 v2_2.toNatClampNeg) := ⟨_, rfl⟩
          rw [← ex_o5] at hW
          have h := lb_at ex_o5 h
          obtain ⟨w2_6, ew2_6⟩ : ∃ y : Int32, y = v2_2 + 1 := ⟨_, rfl⟩
          have h := lb_at ew2_6 h
          refine lv_iinc (v := w2_6) (lv' := [(2, .int w2_6), (0, .ref (a_o 0)), (1, .ref (a_q1 0))]) hx hb dX6_giveAll_26 hl (k := 2) rfl (by rw [ew2_6]; rfl) (by decide) rfl (fun ls hl => ?_)
          refine lv_goto (tgt := 2) hx hb dX6_giveAll_29 (by decide) ?_
          exact ih _ _ H locs ls _ _ hW (lv_sub hl [1, 2, 0] rfl) h k1
  rw [f_X6_giveAll] at h
  suffices hm : ∀ (H : Heap) (locs : List Loc), Wd D A s.heap (oc_X6 T a_o x_o ++ (oc_RW T a_q1 x_q1 ++ Z)) H locs → W p l e (rmd 0) s m args below meth c H locs 0 0 Q (F0 m 0 ls []) from hm _ _ hW
  intro H locs hW
  refine lv_iconst (v := 0) hx hb dX6_giveAll_0 (by decide) ?_
  refine lv_istore_n (lv' := [(2, .int 0), (0, .ref (a_o 0)), (1, .ref (a_q1 0))]) hx hb dX6_giveAll_1 rfl hl (by decide) rfl (fun ls hl => ?_)
  obtain ⟨o2_u7, y_o_u7, q8, h⟩ := bnd2_s h
  refine L2 200 _ _ H locs ls o2_u7 y_o_u7 hW (lv_sub hl [1, 2, 0] rfl) q8 (fun H locs ls hW hl => ?_)
  obtain rfl := ret1 h
  rw [hQ]
  exact g_retv hx hb hr hlk hW dX6_giveAll_32
set_option maxHeartbeats 4000000 in
set_option maxRecDepth 100000 in
theorem c_X7_isFull (l : Launch) (D : va_G) (T : Nat → ClassId) (A : Nat → Prop) (a_o : Nat → Nat) (Z : va_W)  (x_o : Ob) (r : Int32) (h : f_X7_isFull x_o = some r) : Met l yX7_isFull (Cond.code yX7_isFull cX7_isFull 1 (some .boolean) :: wsL_law) (rmd 0) (Pg D T A (oc_X7 T a_o x_o ++ Z) [.ref (a_o 0)]) (Qgi D A (oc_X7 T a_o x_o ++ Z) r) 0 0 A := by
  refine Met.ofW (cc := cX7_isFull) (maxL := 1) (ret := (some .boolean)) (by decide +kernel) rfl ?_
  intro p e s m args below meth c s₁ B hml hv
  obtain ⟨ha, hP, hK, hD, hN⟩ := hv
  have hx := B.exec
  have hb := B.bytes
  have hr := B.returns
  have hlk := B.notSynchronized
  have hts : ∀ w ∈ wsL_law, w.before args s = true := fun w hw => atoms_spec B.pre w (List.mem_cons_of_mem _ hw)
  have hown : s.vm.findClass RX7 = some m.cls := findClass_of_methodNamed B.named
  have hW : Wd D A s.heap (oc_X7 T a_o x_o ++ Z) s.heap [] := ⟨hP, hD, va_S.rf⟩
  have hl := lv_entry [.ref (a_o 0)] (n := 1) (Nat.le_of_ble_eq_true rfl)
  refine W.eq (en_eq ha) ?_
  generalize (lg_sl [.ref (a_o 0)] ++ List.replicate (1 - (lg_sl [.ref (a_o 0)]).length) Slot.unset).toArray = ls at hl ⊢
  have hl : lv_has ls 1 [(0, .ref (a_o 0))] := hl
  clear hP hD B ha
  obtain ⟨Q, hQ⟩ : ∃ Q, Q = MQ below (Qgi D A (oc_X7 T a_o x_o ++ Z) r) args s 0 0 A := ⟨_, rfl⟩
  rw [← hQ]
  change W p l e (rmd 0) s m args below meth c s.heap [] 0 0 Q (F0 m 0 ls [])
  rw [f_X7_isFull] at h
  suffices hm : ∀ (H : Heap) (locs : List Loc), Wd D A s.heap (oc_X7 T a_o x_o ++ Z) H locs → W p l e (rmd 0) s m args below meth c H locs 0 0 Q (F0 m 0 ls []) from hm _ _ hW
  intro H locs hW
  refine lv_aload_n hx hb dX7_isFull_0 rfl (lv_at hl 0 rfl) ?_
  refine fg_X7_9 (v := .int (x_o 0 0)) hx hb hts hown hK hW 0 rfl rfl dX7_isFull_1 ?_
  refine lv_bipush (v := 8) hx hb dX7_isFull_4 (by decide) ?_
  refine lv_icmp_lt (tgt := 13) hx hb dX7_isFull_6 (by decide) (fun c1 => ?_) (fun c1 => ?_)
  · have h := ite_t c1 h
    refine lv_iconst (v := 0) hx hb dX7_isFull_13 (by decide) ?_
    obtain rfl := ret1 h
    rw [hQ]
    exact g_retz hx hb hr hlk hW (by decide) dX7_isFull_14
  · have h := ite_f c1 h
    refine lv_iconst (v := 1) hx hb dX7_isFull_9 (by decide) ?_
    refine lv_goto (tgt := 14) hx hb dX7_isFull_10 (by decide) ?_
    obtain rfl := ret1 h
    rw [hQ]
    exact g_retz hx hb hr hlk hW (by decide) dX7_isFull_14
set_option maxHeartbeats 4000000 in
set_option maxRecDepth 100000 in
theorem c_X7_add (l : Launch) (D : va_G) (T : Nat → ClassId) (A : Nat → Prop) (a_o : Nat → Nat) (Z : va_W)  (x_o : Ob) (p1 : Int32) (p2 : Int32) (p3 : Int32) (p4 : Int32) (p5 : Int32) (r : Int32) (x_o9 : Ob) (h : f_X7_add x_o p1 p2 p3 p4 p5 = some (r, x_o9)) : Met l yX7_add (Cond.code yX7_add cX7_add 6 (some .int) :: wsL_law) (rmd 1) (Pg D T A (oc_X7 T a_o x_o ++ Z) [.ref (a_o 0), .int p1, .int p2, .int p3, .int p4, .int p5]) (Qgi D A (oc_X7 T a_o x_o9 ++ Z) r) 0 0 A := by
  refine Met.ofW (cc := cX7_add) (maxL := 6) (ret := (some .int)) (by decide +kernel) rfl ?_
  intro p e s m args below meth c s₁ B hml hv
  obtain ⟨ha, hP, hK, hD, hN⟩ := hv
  have hx := B.exec
  have hb := B.bytes
  have hr := B.returns
  have hlk := B.notSynchronized
  have hts : ∀ w ∈ wsL_law, w.before args s = true := fun w hw => atoms_spec B.pre w (List.mem_cons_of_mem _ hw)
  have hown : s.vm.findClass RX7 = some m.cls := findClass_of_methodNamed B.named
  have hW : Wd D A s.heap (oc_X7 T a_o x_o ++ Z) s.heap [] := ⟨hP, hD, va_S.rf⟩
  have hl := lv_entry [.ref (a_o 0), .int p1, .int p2, .int p3, .int p4, .int p5] (n := 6) (Nat.le_of_ble_eq_true rfl)
  refine W.eq (en_eq ha) ?_
  generalize (lg_sl [.ref (a_o 0), .int p1, .int p2, .int p3, .int p4, .int p5] ++ List.replicate (6 - (lg_sl [.ref (a_o 0), .int p1, .int p2, .int p3, .int p4, .int p5]).length) Slot.unset).toArray = ls at hl ⊢
  have hl : lv_has ls 6 [(0, .ref (a_o 0)), (1, .int p1), (2, .int p2), (3, .int p3), (4, .int p4), (5, .int p5)] := hl
  clear hP hD B ha
  obtain ⟨Q, hQ⟩ : ∃ Q, Q = MQ below (Qgi D A (oc_X7 T a_o x_o9 ++ Z) r) args s 0 0 A := ⟨_, rfl⟩
  rw [← hQ]
  change W p l e (rmd 1) s m args below meth c s.heap [] 0 0 Q (F0 m 0 ls [])
  rw [f_X7_add] at h
  suffices hm : ∀ (H : Heap) (locs : List Loc), Wd D A s.heap (oc_X7 T a_o x_o ++ Z) H locs → W p l e (rmd 1) s m args below meth c H locs 0 0 Q (F0 m 0 ls []) from hm _ _ hW
  intro H locs hW
  refine lv_aload_n hx hb dX7_add_0 rfl (lv_at hl 0 rfl) ?_
  refine fg_X7_9 (v := .int (x_o 0 0)) hx hb hts hown hK hW 0 rfl rfl dX7_add_1 ?_
  refine lv_bipush (v := 8) hx hb dX7_add_4 (by decide) ?_
  obtain ⟨r1, q2, h⟩ := bnd1_s h
  refine cl_X7_36 hx hb hml hown hts hK hN hW (c_X10_isBelow l D T A (oc_X7 T a_o x_o ++ Z) (x_o 0 0) 8 r1 q2) ⟨Nat.le_of_ble_eq_true rfl, Nat.le_of_ble_eq_true rfl⟩ hl.1 rfl (Nat.le_of_ble_eq_true rfl) dX7_add_6 ⟨Nat.zero_le _, Nat.zero_le _⟩ rfl (fun H locs hW => ?_)
  refine lv_if_ne (tgt := 14) hx hb dX7_add_9 (by decide) (fun c3 => ?_) (fun c3 => ?_)
  · have h := ite_f c3 h
    refine lv_aload_n hx hb dX7_add_14 rfl (lv_at hl 0 rfl) ?_
    refine fg_X7_15 (v := .ref (a_o 1)) hx hb hts hown hK hW 0 rfl rfl dX7_add_15 ?_
    refine lv_aload_n hx hb dX7_add_18 rfl (lv_at hl 0 rfl) ?_
    refine fg_X7_9 (v := .int (x_o 0 0)) hx hb hts hown hK hW 0 rfl rfl dX7_add_19 ?_
    refine lv_iload_n hx hb dX7_add_22 rfl (lv_at hl 1 rfl) ?_
    obtain ⟨g4, h⟩ := grd_s h
    obtain ⟨g5, h⟩ := grd_s h
    refine g_zast (ws9 := oc_X7 T a_o (upo x_o 1 (x_o 0 0).toNatClampNeg p1) ++ Z) hx hb hK hW 1 rfl g4 g5 sa_X7_1 dX7_add_23 (fun H locs hW => ?_)
    obtain ⟨x_o6, ex_o6⟩ : ∃ y : Ob, y = upo x_o 1 (x_o 0 0).toNatClampNeg p1 := ⟨_, rfl⟩
    rw [← ex_o6] at hW
    have h := lb_at ex_o6 h
    refine lv_aload_n hx hb dX7_add_24 rfl (lv_at hl 0 rfl) ?_
    refine fg_X7_19 (v := .ref (a_o 2)) hx hb hts hown hK hW 0 rfl rfl dX7_add_25 ?_
    refine lv_aload_n hx hb dX7_add_28 rfl (lv_at hl 0 rfl) ?_
    refine fg_X7_9 (v := .int (x_o6 0 0)) hx hb hts hown hK hW 0 rfl rfl dX7_add_29 ?_
    refine lv_iload_n hx hb dX7_add_32 rfl (lv_at hl 2 rfl) ?_
    obtain ⟨g7, h⟩ := grd_s h
    refine g_iast (ws9 := oc_X7 T a_o (upo x_o6 2 (x_o6 0 0).toNatClampNeg p2) ++ Z) hx hb hK hW 2 rfl g7 sa_X7_2 dX7_add_33 (fun H locs hW => ?_)
    obtain ⟨x_o8, ex_o8⟩ : ∃ y : Ob, y = upo x_o6 2 (x_o6 0 0).toNatClampNeg p2 := ⟨_, rfl⟩
    rw [← ex_o8] at hW
    have h := lb_at ex_o8 h
    refine lv_aload_n hx hb dX7_add_34 rfl (lv_at hl 0 rfl) ?_
    refine fg_X7_23 (v := .ref (a_o 3)) hx hb hts hown hK hW 0 rfl rfl dX7_add_35 ?_
    refine lv_aload_n hx hb dX7_add_38 rfl (lv_at hl 0 rfl) ?_
    refine fg_X7_9 (v := .int (x_o8 0 0)) hx hb hts hown hK hW 0 rfl rfl dX7_add_39 ?_
    refine lv_iload_n hx hb dX7_add_42 rfl (lv_at hl 3 rfl) ?_
    obtain ⟨g9, h⟩ := grd_s h
    refine g_iast (ws9 := oc_X7 T a_o (upo x_o8 3 (x_o8 0 0).toNatClampNeg p3) ++ Z) hx hb hK hW 3 rfl g9 sa_X7_3 dX7_add_43 (fun H locs hW => ?_)
    obtain ⟨x_o10, ex_o10⟩ : ∃ y : Ob, y = upo x_o8 3 (x_o8 0 0).toNatClampNeg p3 := ⟨_, rfl⟩
    rw [← ex_o10] at hW
    have h := lb_at ex_o10 h
    refine lv_aload_n hx hb dX7_add_44 rfl (lv_at hl 0 rfl) ?_
    refine fg_X7_26 (v := .ref (a_o 4)) hx hb hts hown hK hW 0 rfl rfl dX7_add_45 ?_
    refine lv_aload_n hx hb dX7_add_48 rfl (lv_at hl 0 rfl) ?_
    refine fg_X7_9 (v := .int (x_o10 0 0)) hx hb hts hown hK hW 0 rfl rfl dX7_add_49 ?_
    refine lv_iload hx hb dX7_add_52 (lv_at hl 4 rfl) ?_
    obtain ⟨g11, h⟩ := grd_s h
    refine g_iast (ws9 := oc_X7 T a_o (upo x_o10 4 (x_o10 0 0).toNatClampNeg p4) ++ Z) hx hb hK hW 4 rfl g11 sa_X7_4 dX7_add_54 (fun H locs hW => ?_)
    obtain ⟨x_o12, ex_o12⟩ : ∃ y : Ob, y = upo x_o10 4 (x_o10 0 0).toNatClampNeg p4 := ⟨_, rfl⟩
    rw [← ex_o12] at hW
    have h := lb_at ex_o12 h
    refine lv_aload_n hx hb dX7_add_55 rfl (lv_at hl 0 rfl) ?_
    refine fg_X7_29 (v := .ref (a_o 5)) hx hb hts hown hK hW 0 rfl rfl dX7_add_56 ?_
    refine lv_aload_n hx hb dX7_add_59 rfl (lv_at hl 0 rfl) ?_
    refine fg_X7_9 (v := .int (x_o12 0 0)) hx hb hts hown hK hW 0 rfl rfl dX7_add_60 ?_
    refine lv_iload hx hb dX7_add_63 (lv_at hl 5 rfl) ?_
    obtain ⟨g13, h⟩ := grd_s h
    refine g_iast (ws9 := oc_X7 T a_o (upo x_o12 5 (x_o12 0 0).toNatClampNeg p5) ++ Z) hx hb hK hW 5 rfl g13 sa_X7_5 dX7_add_65 (fun H locs hW => ?_)
    obtain ⟨x_o14, ex_o14⟩ : ∃ y : Ob, y = upo x_o12 5 (x_o12 0 0).toNatClampNeg p5 := ⟨_, rfl⟩
    rw [← ex_o14] at hW
    have h := lb_at ex_o14 h
    refine lv_aload_n hx hb dX7_add_66 rfl (lv_at hl 0 rfl) ?_
    refine lv_dup hx hb dX7_add_67 rfl ?_
    refine fg_X7_9 (v := .int (x_o14 0 0)) hx hb hts hown hK hW 0 rfl rfl dX7_add_68 ?_
    refine lv_iconst (v := 1) hx hb dX7_add_71 (by decide) ?_
    refine lv_iadd hx hb dX7_add_72 ?_
    refine fp_X7_9 (ws9 := oc_X7 T a_o (upo x_o14 0 0 ((x_o14 0 0) + 1)) ++ Z) hx hb hts hown hK hW 0 rfl (Nat.le_of_ble_eq_true rfl) sf_X7_0 dX7_add_73 (fun H locs hW => ?_)
    obtain ⟨x_o15, ex_o15⟩ : ∃ y : Ob, y = upo x_o14 0 0 ((x_o14 0 0) + 1) := ⟨_, rfl⟩
    rw [← ex_o15] at hW
    have h := lb_at ex_o15 h
    refine lv_aload_n hx hb dX7_add_76 rfl (lv_at hl 0 rfl) ?_
    refine fg_X7_9 (v := .int (x_o15 0 0)) hx hb hts hown hK hW 0 rfl rfl dX7_add_77 ?_
    refine lv_iconst (v := 1) hx hb dX7_add_80 (by decide) ?_
    refine lv_isub hx hb dX7_add_81 ?_
    obtain ⟨rfl, rfl⟩ := ret2 h
    rw [hQ]
    exact g_reti hx hb hr hlk hW dX7_add_82
  · have h := ite_t c3 h
    refine lv_iconst (v := (-1)) hx hb dX7_add_12 (by decide) ?_
    obtain ⟨rfl, rfl⟩ := ret2 h
    rw [hQ]
    exact g_reti hx hb hr hlk hW dX7_add_13
set_option maxHeartbeats 4000000 in
set_option maxRecDepth 100000 in
theorem c_X7_addSure (l : Launch) (D : va_G) (T : Nat → ClassId) (A : Nat → Prop) (a_o : Nat → Nat) (Z : va_W)  (x_o : Ob) (p1 : Int32) (p2 : Int32) (p3 : Int32) (r : Int32) (x_o9 : Ob) (h : f_X7_addSure x_o p1 p2 p3 = some (r, x_o9)) : Met l yX7_addSure (Cond.code yX7_addSure cX7_addSure 4 (some .int) :: wsL_law) (rmd 2) (Pg D T A (oc_X7 T a_o x_o ++ Z) [.ref (a_o 0), .int p1, .int p2, .int p3]) (Qgi D A (oc_X7 T a_o x_o9 ++ Z) r) 0 0 A := by
  refine Met.ofW (cc := cX7_addSure) (maxL := 4) (ret := (some .int)) (by decide +kernel) rfl ?_
  intro p e s m args below meth c s₁ B hml hv
  obtain ⟨ha, hP, hK, hD, hN⟩ := hv
  have hx := B.exec
  have hb := B.bytes
  have hr := B.returns
  have hlk := B.notSynchronized
  have hts : ∀ w ∈ wsL_law, w.before args s = true := fun w hw => atoms_spec B.pre w (List.mem_cons_of_mem _ hw)
  have hown : s.vm.findClass RX7 = some m.cls := findClass_of_methodNamed B.named
  have hW : Wd D A s.heap (oc_X7 T a_o x_o ++ Z) s.heap [] := ⟨hP, hD, va_S.rf⟩
  have hl := lv_entry [.ref (a_o 0), .int p1, .int p2, .int p3] (n := 4) (Nat.le_of_ble_eq_true rfl)
  refine W.eq (en_eq ha) ?_
  generalize (lg_sl [.ref (a_o 0), .int p1, .int p2, .int p3] ++ List.replicate (4 - (lg_sl [.ref (a_o 0), .int p1, .int p2, .int p3]).length) Slot.unset).toArray = ls at hl ⊢
  have hl : lv_has ls 4 [(0, .ref (a_o 0)), (1, .int p1), (2, .int p2), (3, .int p3)] := hl
  clear hP hD B ha
  obtain ⟨Q, hQ⟩ : ∃ Q, Q = MQ below (Qgi D A (oc_X7 T a_o x_o9 ++ Z) r) args s 0 0 A := ⟨_, rfl⟩
  rw [← hQ]
  change W p l e (rmd 2) s m args below meth c s.heap [] 0 0 Q (F0 m 0 ls [])
  rw [f_X7_addSure] at h
  suffices hm : ∀ (H : Heap) (locs : List Loc), Wd D A s.heap (oc_X7 T a_o x_o ++ Z) H locs → W p l e (rmd 2) s m args below meth c H locs 0 0 Q (F0 m 0 ls []) from hm _ _ hW
  intro H locs hW
  refine lv_aload_n hx hb dX7_addSure_0 rfl (lv_at hl 0 rfl) ?_
  refine lv_iconst (v := 1) hx hb dX7_addSure_1 (by decide) ?_
  refine lv_iload_n hx hb dX7_addSure_2 rfl (lv_at hl 1 rfl) ?_
  refine lv_iload_n hx hb dX7_addSure_3 rfl (lv_at hl 2 rfl) ?_
  refine lv_iload_n hx hb dX7_addSure_4 rfl (lv_at hl 3 rfl) ?_
  refine lv_iconst (v := (-1)) hx hb dX7_addSure_5 (by decide) ?_
  obtain ⟨r1, x_o2, q3, h⟩ := bnd2_s h
  refine cl_X7_32 hx hb hml hown hts hK hN hW (c_X7_add l D T A a_o (Z) x_o 1 p1 p2 p3 (-1) r1 x_o2 q3) ⟨Nat.le_of_ble_eq_true rfl, Nat.le_of_ble_eq_true rfl⟩ hl.1 rfl (Nat.le_of_ble_eq_true rfl) dX7_addSure_6 ⟨Nat.zero_le _, Nat.zero_le _⟩ rfl (fun H locs hW => ?_)
  obtain ⟨rfl, rfl⟩ := ret2 h
  rw [hQ]
  exact g_reti hx hb hr hlk hW dX7_addSure_9
set_option maxHeartbeats 4000000 in
set_option maxRecDepth 100000 in
theorem c_X7_addSeen (l : Launch) (D : va_G) (T : Nat → ClassId) (A : Nat → Prop) (a_o : Nat → Nat) (Z : va_W)  (x_o : Ob) (p1 : Int32) (p2 : Int32) (p3 : Int32) (p4 : Int32) (r : Int32) (x_o9 : Ob) (h : f_X7_addSeen x_o p1 p2 p3 p4 = some (r, x_o9)) : Met l yX7_addSeen (Cond.code yX7_addSeen cX7_addSeen 5 (some .int) :: wsL_law) (rmd 2) (Pg D T A (oc_X7 T a_o x_o ++ Z) [.ref (a_o 0), .int p1, .int p2, .int p3, .int p4]) (Qgi D A (oc_X7 T a_o x_o9 ++ Z) r) 0 0 A := by
  refine Met.ofW (cc := cX7_addSeen) (maxL := 5) (ret := (some .int)) (by decide +kernel) rfl ?_
  intro p e s m args below meth c s₁ B hml hv
  obtain ⟨ha, hP, hK, hD, hN⟩ := hv
  have hx := B.exec
  have hb := B.bytes
  have hr := B.returns
  have hlk := B.notSynchronized
  have hts : ∀ w ∈ wsL_law, w.before args s = true := fun w hw => atoms_spec B.pre w (List.mem_cons_of_mem _ hw)
  have hown : s.vm.findClass RX7 = some m.cls := findClass_of_methodNamed B.named
  have hW : Wd D A s.heap (oc_X7 T a_o x_o ++ Z) s.heap [] := ⟨hP, hD, va_S.rf⟩
  have hl := lv_entry [.ref (a_o 0), .int p1, .int p2, .int p3, .int p4] (n := 5) (Nat.le_of_ble_eq_true rfl)
  refine W.eq (en_eq ha) ?_
  generalize (lg_sl [.ref (a_o 0), .int p1, .int p2, .int p3, .int p4] ++ List.replicate (5 - (lg_sl [.ref (a_o 0), .int p1, .int p2, .int p3, .int p4]).length) Slot.unset).toArray = ls at hl ⊢
  have hl : lv_has ls 5 [(0, .ref (a_o 0)), (1, .int p1), (2, .int p2), (3, .int p3), (4, .int p4)] := hl
  clear hP hD B ha
  obtain ⟨Q, hQ⟩ : ∃ Q, Q = MQ below (Qgi D A (oc_X7 T a_o x_o9 ++ Z) r) args s 0 0 A := ⟨_, rfl⟩
  rw [← hQ]
  change W p l e (rmd 2) s m args below meth c s.heap [] 0 0 Q (F0 m 0 ls [])
  rw [f_X7_addSeen] at h
  suffices hm : ∀ (H : Heap) (locs : List Loc), Wd D A s.heap (oc_X7 T a_o x_o ++ Z) H locs → W p l e (rmd 2) s m args below meth c H locs 0 0 Q (F0 m 0 ls []) from hm _ _ hW
  intro H locs hW
  refine lv_aload_n hx hb dX7_addSeen_0 rfl (lv_at hl 0 rfl) ?_
  refine lv_iconst (v := 0) hx hb dX7_addSeen_1 (by decide) ?_
  refine lv_iload_n hx hb dX7_addSeen_2 rfl (lv_at hl 1 rfl) ?_
  refine lv_iload_n hx hb dX7_addSeen_3 rfl (lv_at hl 2 rfl) ?_
  refine lv_iload_n hx hb dX7_addSeen_4 rfl (lv_at hl 3 rfl) ?_
  refine lv_iload hx hb dX7_addSeen_5 (lv_at hl 4 rfl) ?_
  obtain ⟨r1, x_o2, q3, h⟩ := bnd2_s h
  refine cl_X7_32 hx hb hml hown hts hK hN hW (c_X7_add l D T A a_o (Z) x_o 0 p1 p2 p3 p4 r1 x_o2 q3) ⟨Nat.le_of_ble_eq_true rfl, Nat.le_of_ble_eq_true rfl⟩ hl.1 rfl (Nat.le_of_ble_eq_true rfl) dX7_addSeen_7 ⟨Nat.zero_le _, Nat.zero_le _⟩ rfl (fun H locs hW => ?_)
  obtain ⟨rfl, rfl⟩ := ret2 h
  rw [hQ]
  exact g_reti hx hb hr hlk hW dX7_addSeen_10
set_option maxHeartbeats 4000000 in
set_option maxRecDepth 100000 in
theorem c_X7_holdsSure (l : Launch) (D : va_G) (T : Nat → ClassId) (A : Nat → Prop) (a_o : Nat → Nat) (a_q2 : Nat → Nat) (Z : va_W)  (x_o : Ob) (x_q2 : Ob) (p1 : Int32) (p3 : Int32) (r : Int32) (h : f_X7_holdsSure x_o x_q2 p1 p3 = some r) : Met l yX7_holdsSure (Cond.code yX7_holdsSure cX7_holdsSure 6 (some .boolean) :: wsL_law) (rmd 1) (Pg D T A (oc_X7 T a_o x_o ++ (oc_X6 T a_q2 x_q2 ++ Z)) [.ref (a_o 0), .int p1, .ref (a_q2 0), .int p3]) (Qgi D A (oc_X7 T a_o x_o ++ (oc_X6 T a_q2 x_q2 ++ Z)) r) 0 0 A := by
  refine Met.ofW (cc := cX7_holdsSure) (maxL := 6) (ret := (some .boolean)) (by decide +kernel) rfl ?_
  intro p e s m args below meth c s₁ B hml hv
  obtain ⟨ha, hP, hK, hD, hN⟩ := hv
  have hx := B.exec
  have hb := B.bytes
  have hr := B.returns
  have hlk := B.notSynchronized
  have hts : ∀ w ∈ wsL_law, w.before args s = true := fun w hw => atoms_spec B.pre w (List.mem_cons_of_mem _ hw)
  have hown : s.vm.findClass RX7 = some m.cls := findClass_of_methodNamed B.named
  have hW : Wd D A s.heap (oc_X7 T a_o x_o ++ (oc_X6 T a_q2 x_q2 ++ Z)) s.heap [] := ⟨hP, hD, va_S.rf⟩
  have hl := lv_entry [.ref (a_o 0), .int p1, .ref (a_q2 0), .int p3] (n := 6) (Nat.le_of_ble_eq_true rfl)
  refine W.eq (en_eq ha) ?_
  generalize (lg_sl [.ref (a_o 0), .int p1, .ref (a_q2 0), .int p3] ++ List.replicate (6 - (lg_sl [.ref (a_o 0), .int p1, .ref (a_q2 0), .int p3]).length) Slot.unset).toArray = ls at hl ⊢
  have hl : lv_has ls 6 [(0, .ref (a_o 0)), (1, .int p1), (2, .ref (a_q2 0)), (3, .int p3)] := hl
  clear hP hD B ha
  obtain ⟨Q, hQ⟩ : ∃ Q, Q = MQ below (Qgi D A (oc_X7 T a_o x_o ++ (oc_X6 T a_q2 x_q2 ++ Z)) r) args s 0 0 A := ⟨_, rfl⟩
  rw [← hQ]
  change W p l e (rmd 1) s m args below meth c s.heap [] 0 0 Q (F0 m 0 ls [])
  rw [f_X7_holdsSure] at h
  suffices hm : ∀ (H : Heap) (locs : List Loc), Wd D A s.heap (oc_X7 T a_o x_o ++ (oc_X6 T a_q2 x_q2 ++ Z)) H locs → W p l e (rmd 1) s m args below meth c H locs 0 0 Q (F0 m 0 ls []) from hm _ _ hW
  intro H locs hW
  refine lv_iload_n hx hb dX7_holdsSure_0 rfl (lv_at hl 3 rfl) ?_
  refine lv_aload_n hx hb dX7_holdsSure_1 rfl (lv_at hl 0 rfl) ?_
  refine fg_X7_23 (v := .ref (a_o 3)) hx hb hts hown hK hW 0 rfl rfl dX7_holdsSure_2 ?_
  refine lv_iload_n hx hb dX7_holdsSure_5 rfl (lv_at hl 1 rfl) ?_
  obtain ⟨g1, h⟩ := grd_s h
  refine g_iald hx hb hK hW 3 rfl g1 dX7_holdsSure_6 ?_
  refine lv_iadd hx hb dX7_holdsSure_7 ?_
  refine lv_topi (fun w4_2 ew4_2 => ?_)
  have h := lb_at ew4_2 h
  refine lv_istore (lv' := [(4, .int w4_2), (0, .ref (a_o 0)), (1, .int p1), (2, .ref (a_q2 0)), (3, .int p3)]) hx hb dX7_holdsSure_8 hl (by decide) rfl (fun ls hl => ?_)
  refine lv_aload_n hx hb dX7_holdsSure_10 rfl (lv_at hl 3 rfl) ?_
  refine lv_iload hx hb dX7_holdsSure_11 (lv_at hl 0 rfl) ?_
  have hW := hW.perm pf1
  obtain ⟨r3, q4, h⟩ := bnd1_s h
  refine cl_X7_51 hx hb hml hown hts hK hN hW (c_X6_leftIn l D T A a_q2 (oc_X7 T a_o x_o ++ Z) x_q2 w4_2 r3 q4) ⟨Nat.le_of_ble_eq_true rfl, Nat.le_of_ble_eq_true rfl⟩ hl.1 rfl (Nat.le_of_ble_eq_true rfl) dX7_holdsSure_13 ⟨Nat.zero_le _, Nat.zero_le _⟩ rfl (fun H locs hW => ?_)
  have hW := hW.perm pf1
  refine lv_istore (lv' := [(5, .int r3), (4, .int w4_2), (0, .ref (a_o 0)), (1, .int p1), (2, .ref (a_q2 0)), (3, .int p3)]) hx hb dX7_holdsSure_16 hl (by decide) rfl (fun ls hl => ?_)
  refine lv_iload hx hb dX7_holdsSure_18 (lv_at hl 0 rfl) ?_
  refine lv_if_eq (tgt := 44) hx hb dX7_holdsSure_20 (by decide) (fun c5 => ?_) (fun c5 => ?_)
  · have h := ite_t c5 h
    refine lv_iconst (v := 0) hx hb dX7_holdsSure_44 (by decide) ?_
    obtain rfl := ret1 h
    rw [hQ]
    exact g_retz hx hb hr hlk hW (by decide) dX7_holdsSure_45
  · have h := ite_f c5 h
    refine lv_aload_n hx hb dX7_holdsSure_23 rfl (lv_at hl 4 rfl) ?_
    refine lv_iload hx hb dX7_holdsSure_24 (lv_at hl 1 rfl) ?_
    refine lv_aload_n hx hb dX7_holdsSure_26 rfl (lv_at hl 2 rfl) ?_
    refine fg_X7_26 (v := .ref (a_o 4)) hx hb hts hown hK hW 0 rfl rfl dX7_holdsSure_27 ?_
    refine lv_iload_n hx hb dX7_holdsSure_30 rfl (lv_at hl 3 rfl) ?_
    obtain ⟨g6, h⟩ := grd_s h
    refine g_iald hx hb hK hW 4 rfl g6 dX7_holdsSure_31 ?_
    have hW := hW.perm pf1
    obtain ⟨r7, q8, h⟩ := bnd1_s h
    refine cl_X7_47 hx hb hml hown hts hK hN hW (c_X6_leftOf l D T A a_q2 (oc_X7 T a_o x_o ++ Z) x_q2 w4_2 (x_o 4 p1.toNatClampNeg) r7 q8) ⟨Nat.le_of_ble_eq_true rfl, Nat.le_of_ble_eq_true rfl⟩ hl.1 rfl (Nat.le_of_ble_eq_true rfl) dX7_holdsSure_32 ⟨Nat.zero_le _, Nat.zero_le _⟩ rfl (fun H locs hW => ?_)
    have hW := hW.perm pf1
    refine lv_iload hx hb dX7_holdsSure_35 (lv_at hl 0 rfl) ?_
    refine lv_icmp_ne (tgt := 44) hx hb dX7_holdsSure_37 (by decide) (fun c9 => ?_) (fun c9 => ?_)
    · have h := ite_f c9 h
      refine lv_iconst (v := 0) hx hb dX7_holdsSure_44 (by decide) ?_
      obtain rfl := ret1 h
      rw [hQ]
      exact g_retz hx hb hr hlk hW (by decide) dX7_holdsSure_45
    · have h := ite_t c9 h
      refine lv_iconst (v := 1) hx hb dX7_holdsSure_40 (by decide) ?_
      refine lv_goto (tgt := 45) hx hb dX7_holdsSure_41 (by decide) ?_
      obtain rfl := ret1 h
      rw [hQ]
      exact g_retz hx hb hr hlk hW (by decide) dX7_holdsSure_45
set_option maxHeartbeats 4000000 in
set_option maxRecDepth 100000 in
theorem c_X7_holdsSeen (l : Launch) (D : va_G) (T : Nat → ClassId) (A : Nat → Prop) (a_o : Nat → Nat) (a_q2 : Nat → Nat) (Z : va_W)  (x_o : Ob) (x_q2 : Ob) (p1 : Int32) (p3 : Int32) (r : Int32) (h : f_X7_holdsSeen x_o x_q2 p1 p3 = some r) : Met l yX7_holdsSeen (Cond.code yX7_holdsSeen cX7_holdsSeen 6 (some .boolean) :: wsL_law) (rmd 1) (Pg D T A (oc_X7 T a_o x_o ++ (oc_X6 T a_q2 x_q2 ++ Z)) [.ref (a_o 0), .int p1, .ref (a_q2 0), .int p3]) (Qgi D A (oc_X7 T a_o x_o ++ (oc_X6 T a_q2 x_q2 ++ Z)) r) 0 0 A := by
  refine Met.ofW (cc := cX7_holdsSeen) (maxL := 6) (ret := (some .boolean)) (by decide +kernel) rfl ?_
  intro p e s m args below meth c s₁ B hml hv
  obtain ⟨ha, hP, hK, hD, hN⟩ := hv
  have hx := B.exec
  have hb := B.bytes
  have hr := B.returns
  have hlk := B.notSynchronized
  have hts : ∀ w ∈ wsL_law, w.before args s = true := fun w hw => atoms_spec B.pre w (List.mem_cons_of_mem _ hw)
  have hown : s.vm.findClass RX7 = some m.cls := findClass_of_methodNamed B.named
  have hW : Wd D A s.heap (oc_X7 T a_o x_o ++ (oc_X6 T a_q2 x_q2 ++ Z)) s.heap [] := ⟨hP, hD, va_S.rf⟩
  have hl := lv_entry [.ref (a_o 0), .int p1, .ref (a_q2 0), .int p3] (n := 6) (Nat.le_of_ble_eq_true rfl)
  refine W.eq (en_eq ha) ?_
  generalize (lg_sl [.ref (a_o 0), .int p1, .ref (a_q2 0), .int p3] ++ List.replicate (6 - (lg_sl [.ref (a_o 0), .int p1, .ref (a_q2 0), .int p3]).length) Slot.unset).toArray = ls at hl ⊢
  have hl : lv_has ls 6 [(0, .ref (a_o 0)), (1, .int p1), (2, .ref (a_q2 0)), (3, .int p3)] := hl
  clear hP hD B ha
  obtain ⟨Q, hQ⟩ : ∃ Q, Q = MQ below (Qgi D A (oc_X7 T a_o x_o ++ (oc_X6 T a_q2 x_q2 ++ Z)) r) args s 0 0 A := ⟨_, rfl⟩
  rw [← hQ]
  change W p l e (rmd 1) s m args below meth c s.heap [] 0 0 Q (F0 m 0 ls [])
  have J66 : ∀ (v1_66 : Int32) (v4_66 : Int32) (v5_66 : Int32) (H : Heap) (locs : List Loc) (ls : Array Slot) (code : Nat) (o4j : Int32) (o5j : Int32), Wd D A s.heap (oc_X7 T a_o x_o ++ (oc_X6 T a_q2 x_q2 ++ Z)) H locs → lv_has ls 6 [(0, .ref (a_o 0)), (1, .int v1_66), (2, .ref (a_q2 0)), (4, .int v4_66), (5, .int v5_66)] → f_X7_holdsSeen_J66 x_o x_q2 v1_66 v4_66 v5_66 = some (code, o4j, o5j) → (code = 0 → ∀ (H : Heap) (locs : List Loc) (ls : Array Slot), Wd D A s.heap (oc_X7 T a_o x_o ++ (oc_X6 T a_q2 x_q2 ++ Z)) H locs → lv_has ls 6 [(0, .ref (a_o 0)), (1, .int v1_66), (2, .ref (a_q2 0)), (4, .int o4j), (5, .int o5j)] → W p l e (rmd 1) s m args below meth c H locs 0 0 Q (F0 m 13 ls [])) → (code = 1 → ∀ (H : Heap) (locs : List Loc) (ls : Array Slot), Wd D A s.heap (oc_X7 T a_o x_o ++ (oc_X6 T a_q2 x_q2 ++ Z)) H locs → lv_has ls 6 [] → W p l e (rmd 1) s m args below meth c H locs 0 0 Q (F0 m 100 ls [])) → (code = 2 → ∀ (H : Heap) (locs : List Loc) (ls : Array Slot), Wd D A s.heap (oc_X7 T a_o x_o ++ (oc_X6 T a_q2 x_q2 ++ Z)) H locs → lv_has ls 6 [] → W p l e (rmd 1) s m args below meth c H locs 0 0 Q (F0 m 64 ls [])) → (code = 3 → ∀ (H : Heap) (locs : List Loc) (ls : Array Slot), Wd D A s.heap (oc_X7 T a_o x_o ++ (oc_X6 T a_q2 x_q2 ++ Z)) H locs → lv_has ls 6 [] → W p l e (rmd 1) s m args below meth c H locs 0 0 Q (F0 m 81 ls [])) → W p l e (rmd 1) s m args below meth c H locs 0 0 Q (F0 m 66 ls []) := by
    intro v1_66 v4_66 v5_66 H locs ls code o4j o5j hW hl h k0 k1 k2 k3
    rw [f_X7_holdsSeen_J66] at h
    refine lv_aload_n hx hb dX7_holdsSeen_66 rfl (lv_at hl 2 rfl) ?_
    refine lv_iload hx hb dX7_holdsSeen_67 (lv_at hl 3 rfl) ?_
    refine lv_aload_n hx hb dX7_holdsSeen_69 rfl (lv_at hl 0 rfl) ?_
    refine fg_X7_26 (v := .ref (a_o 4)) hx hb hts hown hK hW 0 rfl rfl dX7_holdsSeen_70 ?_
    refine lv_iload_n hx hb dX7_holdsSeen_73 rfl (lv_at hl 1 rfl) ?_
    obtain ⟨g9, h⟩ := grd_s h
    refine g_iald hx hb hK hW 4 rfl g9 dX7_holdsSeen_74 ?_
    have hW := hW.perm pf1
    obtain ⟨r10, q11, h⟩ := bnd1_s h
    refine cl_X7_47 hx hb hml hown hts hK hN hW (c_X6_leftOf l D T A a_q2 (oc_X7 T a_o x_o ++ Z) x_q2 v4_66 (x_o 4 v1_66.toNatClampNeg) r10 q11) ⟨Nat.le_of_ble_eq_true rfl, Nat.le_of_ble_eq_true rfl⟩ hl.1 rfl (Nat.le_of_ble_eq_true rfl) dX7_holdsSeen_75 ⟨Nat.zero_le _, Nat.zero_le _⟩ rfl (fun H locs hW => ?_)
    have hW := hW.perm pf1
    refine lv_if_eq (tgt := 83) hx hb dX7_holdsSeen_78 (by decide) (fun c12 => ?_) (fun c12 => ?_)
    · have h := ite_t c12 h
      refine lv_iload hx hb dX7_holdsSeen_83 (lv_at hl 3 rfl) ?_
      refine lv_aload_n hx hb dX7_holdsSeen_85 rfl (lv_at hl 0 rfl) ?_
      refine fg_X7_23 (v := .ref (a_o 3)) hx hb hts hown hK hW 0 rfl rfl dX7_holdsSeen_86 ?_
      refine lv_iload_n hx hb dX7_holdsSeen_89 rfl (lv_at hl 1 rfl) ?_
      obtain ⟨g13, h⟩ := grd_s h
      refine g_iald hx hb hK hW 3 rfl g13 dX7_holdsSeen_90 ?_
      refine lv_iadd hx hb dX7_holdsSeen_91 ?_
      refine lv_topi (fun w4_14 ew4_14 => ?_)
      have h := lb_at ew4_14 h
      refine lv_istore (lv' := [(4, .int w4_14), (0, .ref (a_o 0)), (1, .int v1_66), (2, .ref (a_q2 0)), (5, .int v5_66)]) hx hb dX7_holdsSeen_92 hl (by decide) rfl (fun ls hl => ?_)
      obtain ⟨w5_15, ew5_15⟩ : ∃ y : Int32, y = v5_66 + 1 := ⟨_, rfl⟩
      have h := lb_at ew5_15 h
      refine lv_iinc (v := w5_15) (lv' := [(5, .int w5_15), (4, .int w4_14), (0, .ref (a_o 0)), (1, .int v1_66), (2, .ref (a_q2 0))]) hx hb dX7_holdsSeen_94 hl (k := 4) rfl (by rw [ew5_15]; rfl) (by decide) rfl (fun ls hl => ?_)
      refine lv_goto (tgt := 13) hx hb dX7_holdsSeen_97 (by decide) ?_
      obtain ⟨rfl, rfl, rfl⟩ := ret3 h
      exact k0 rfl H locs ls hW (lv_sub hl [2, 3, 4, 1, 0] rfl)
    · have h := ite_f c12 h
      obtain ⟨rfl, rfl, rfl⟩ := ret3 h
      exact k3 rfl H locs ls hW (lv_sub hl [] rfl)
  have L13 : ∀ (n : Nat) (v1_13 : Int32) (v4_13 : Int32) (v5_13 : Int32) (H : Heap) (locs : List Loc) (ls : Array Slot) (code : Nat) (o4_13r : Int32) (o5_13r : Int32), Wd D A s.heap (oc_X7 T a_o x_o ++ (oc_X6 T a_q2 x_q2 ++ Z)) H locs → lv_has ls 6 [(0, .ref (a_o 0)), (1, .int v1_13), (2, .ref (a_q2 0)), (4, .int v4_13), (5, .int v5_13)] → f_X7_holdsSeen_L13 n x_o x_q2 v1_13 v4_13 v5_13 = some (code, o4_13r, o5_13r) → (code = 1 → ∀ (H : Heap) (locs : List Loc) (ls : Array Slot), Wd D A s.heap (oc_X7 T a_o x_o ++ (oc_X6 T a_q2 x_q2 ++ Z)) H locs → lv_has ls 6 [] → W p l e (rmd 1) s m args below meth c H locs 0 0 Q (F0 m 100 ls [])) → (code = 2 → ∀ (H : Heap) (locs : List Loc) (ls : Array Slot), Wd D A s.heap (oc_X7 T a_o x_o ++ (oc_X6 T a_q2 x_q2 ++ Z)) H locs → lv_has ls 6 [] → W p l e (rmd 1) s m args below meth c H locs 0 0 Q (F0 m 64 ls [])) → (code = 3 → ∀ (H : Heap) (locs : List Loc) (ls : Array Slot), Wd D A s.heap (oc_X7 T a_o x_o ++ (oc_X6 T a_q2 x_q2 ++ Z)) H locs → lv_has ls 6 [] → W p l e (rmd 1) s m args below meth c H locs 0 0 Q (F0 m 81 ls [])) → W p l e (rmd 1) s m args below meth c H locs 0 0 Q (F0 m 13 ls []) := by
    intro n
    induction n with
    | zero =>
      intro v1_13 v4_13 v5_13 H locs ls code o4_13r o5_13r hW hl h k1 k2 k3
      rw [f_X7_holdsSeen_L13] at h
      cases h
    | succ n ih =>
      intro v1_13 v4_13 v5_13 H locs ls code o4_13r o5_13r hW hl h k1 k2 k3
      rw [f_X7_holdsSeen_L13] at h
      refine lv_iload hx hb dX7_holdsSeen_13 (lv_at hl 4 rfl) ?_
      refine lv_bipush (v := 6) hx hb dX7_holdsSeen_15 (by decide) ?_
      refine lv_icmp_ge (tgt := 100) hx hb dX7_holdsSeen_17 (by decide) (fun c3 => ?_) (fun c3 => ?_)
      · have h := ite_t c3 h
        obtain ⟨rfl, rfl, rfl⟩ := ret3 h
        exact k1 rfl H locs ls hW (lv_sub hl [] rfl)
      · have h := ite_f c3 h
        refine lv_iload hx hb dX7_holdsSeen_20 (lv_at hl 3 rfl) ?_
        refine lv_if_lt (tgt := 100) hx hb dX7_holdsSeen_22 (by decide) (fun c4 => ?_) (fun c4 => ?_)
        · have h := ite_t c4 h
          obtain ⟨rfl, rfl, rfl⟩ := ret3 h
          exact k1 rfl H locs ls hW (lv_sub hl [] rfl)
        · have h := ite_f c4 h
          refine lv_iload hx hb dX7_holdsSeen_25 (lv_at hl 3 rfl) ?_
          refine lv_aload_n hx hb dX7_holdsSeen_27 rfl (lv_at hl 2 rfl) ?_
          refine fg_X7_46 (v := .int (x_q2 0 0)) hx hb hts hN hown hK hW 6 rfl rfl dX7_holdsSeen_28 ?_
          refine lv_icmp_ge (tgt := 100) hx hb dX7_holdsSeen_31 (by decide) (fun c5 => ?_) (fun c5 => ?_)
          · have h := ite_t c5 h
            obtain ⟨rfl, rfl, rfl⟩ := ret3 h
            exact k1 rfl H locs ls hW (lv_sub hl [] rfl)
          · have h := ite_f c5 h
            refine lv_aload_n hx hb dX7_holdsSeen_34 rfl (lv_at hl 0 rfl) ?_
            refine fg_X7_29 (v := .ref (a_o 5)) hx hb hts hown hK hW 0 rfl rfl dX7_holdsSeen_35 ?_
            refine lv_iload_n hx hb dX7_holdsSeen_38 rfl (lv_at hl 1 rfl) ?_
            obtain ⟨g6, h⟩ := grd_s h
            refine g_iald hx hb hK hW 5 rfl g6 dX7_holdsSeen_39 ?_
            refine lv_aload_n hx hb dX7_holdsSeen_40 rfl (lv_at hl 0 rfl) ?_
            refine fg_X7_26 (v := .ref (a_o 4)) hx hb hts hown hK hW 0 rfl rfl dX7_holdsSeen_41 ?_
            refine lv_iload_n hx hb dX7_holdsSeen_44 rfl (lv_at hl 1 rfl) ?_
            obtain ⟨g7, h⟩ := grd_s h
            refine g_iald hx hb hK hW 4 rfl g7 dX7_holdsSeen_45 ?_
            refine lv_icmp_eq (tgt := 66) hx hb dX7_holdsSeen_46 (by decide) (fun c8 => ?_) (fun c8 => ?_)
            · have h := ite_t c8 h
              obtain ⟨code17, o4_t16, o5_t16, q18, h⟩ := bnd3_s h
              refine J66 _ _ _ H locs ls code17 o4_t16 o5_t16 hW (lv_sub hl [0, 1, 2, 3, 4] rfl) q18 (fun hc H locs ls hW hl => ?_) (fun hc H locs ls hW hl => ?_) (fun hc H locs ls hW hl => ?_) (fun hc H locs ls hW hl => ?_)
              · have h := ite_t hc h
                exact ih _ _ _ H locs ls _ _ _ hW (lv_sub hl [0, 1, 2, 3, 4] rfl) h k1 k2 k3
              · have h := ite_f (by rw [hc]; decide) h
                obtain ⟨rfl, rfl, rfl⟩ := ret3 h
                exact k1 hc H locs ls hW hl
              · have h := ite_f (by rw [hc]; decide) h
                obtain ⟨rfl, rfl, rfl⟩ := ret3 h
                exact k2 hc H locs ls hW hl
              · have h := ite_f (by rw [hc]; decide) h
                obtain ⟨rfl, rfl, rfl⟩ := ret3 h
                exact k3 hc H locs ls hW hl
            · have h := ite_f c8 h
              refine lv_aload_n hx hb dX7_holdsSeen_49 rfl (lv_at hl 2 rfl) ?_
              refine lv_iload hx hb dX7_holdsSeen_50 (lv_at hl 3 rfl) ?_
              refine lv_aload_n hx hb dX7_holdsSeen_52 rfl (lv_at hl 0 rfl) ?_
              refine fg_X7_29 (v := .ref (a_o 5)) hx hb hts hown hK hW 0 rfl rfl dX7_holdsSeen_53 ?_
              refine lv_iload_n hx hb dX7_holdsSeen_56 rfl (lv_at hl 1 rfl) ?_
              obtain ⟨g19, h⟩ := grd_s h
              refine g_iald hx hb hK hW 5 rfl g19 dX7_holdsSeen_57 ?_
              have hW := hW.perm pf1
              obtain ⟨r20, q21, h⟩ := bnd1_s h
              refine cl_X7_47 hx hb hml hown hts hK hN hW (c_X6_leftOf l D T A a_q2 (oc_X7 T a_o x_o ++ Z) x_q2 v4_13 (x_o 5 v1_13.toNatClampNeg) r20 q21) ⟨Nat.le_of_ble_eq_true rfl, Nat.le_of_ble_eq_true rfl⟩ hl.1 rfl (Nat.le_of_ble_eq_true rfl) dX7_holdsSeen_58 ⟨Nat.zero_le _, Nat.zero_le _⟩ rfl (fun H locs hW => ?_)
              have hW := hW.perm pf1
              refine lv_if_eq (tgt := 66) hx hb dX7_holdsSeen_61 (by decide) (fun c22 => ?_) (fun c22 => ?_)
              · have h := ite_t c22 h
                obtain ⟨code24, o4_t23, o5_t23, q25, h⟩ := bnd3_s h
                refine J66 _ _ _ H locs ls code24 o4_t23 o5_t23 hW (lv_sub hl [0, 1, 2, 3, 4] rfl) q25 (fun hc H locs ls hW hl => ?_) (fun hc H locs ls hW hl => ?_) (fun hc H locs ls hW hl => ?_) (fun hc H locs ls hW hl => ?_)
                · have h := ite_t hc h
                  exact ih _ _ _ H locs ls _ _ _ hW (lv_sub hl [0, 1, 2, 3, 4] rfl) h k1 k2 k3
                · have h := ite_f (by rw [hc]; decide) h
                  obtain ⟨rfl, rfl, rfl⟩ := ret3 h
                  exact k1 hc H locs ls hW hl
                · have h := ite_f (by rw [hc]; decide) h
                  obtain ⟨rfl, rfl, rfl⟩ := ret3 h
                  exact k2 hc H locs ls hW hl
                · have h := ite_f (by rw [hc]; decide) h
                  obtain ⟨rfl, rfl, rfl⟩ := ret3 h
                  exact k3 hc H locs ls hW hl
              · have h := ite_f c22 h
                obtain ⟨rfl, rfl, rfl⟩ := ret3 h
                exact k2 rfl H locs ls hW (lv_sub hl [] rfl)
  rw [f_X7_holdsSeen] at h
  suffices hm : ∀ (H : Heap) (locs : List Loc), Wd D A s.heap (oc_X7 T a_o x_o ++ (oc_X6 T a_q2 x_q2 ++ Z)) H locs → W p l e (rmd 1) s m args below meth c H locs 0 0 Q (F0 m 0 ls []) from hm _ _ hW
  intro H locs hW
  refine lv_iload_n hx hb dX7_holdsSeen_0 rfl (lv_at hl 3 rfl) ?_
  refine lv_aload_n hx hb dX7_holdsSeen_1 rfl (lv_at hl 0 rfl) ?_
  refine fg_X7_23 (v := .ref (a_o 3)) hx hb hts hown hK hW 0 rfl rfl dX7_holdsSeen_2 ?_
  refine lv_iload_n hx hb dX7_holdsSeen_5 rfl (lv_at hl 1 rfl) ?_
  obtain ⟨g1, h⟩ := grd_s h
  refine g_iald hx hb hK hW 3 rfl g1 dX7_holdsSeen_6 ?_
  refine lv_iadd hx hb dX7_holdsSeen_7 ?_
  refine lv_topi (fun w4_2 ew4_2 => ?_)
  have h := lb_at ew4_2 h
  refine lv_istore (lv' := [(4, .int w4_2), (0, .ref (a_o 0)), (1, .int p1), (2, .ref (a_q2 0)), (3, .int p3)]) hx hb dX7_holdsSeen_8 hl (by decide) rfl (fun ls hl => ?_)
  refine lv_iconst (v := 0) hx hb dX7_holdsSeen_10 (by decide) ?_
  refine lv_istore (lv' := [(5, .int 0), (4, .int w4_2), (0, .ref (a_o 0)), (1, .int p1), (2, .ref (a_q2 0)), (3, .int p3)]) hx hb dX7_holdsSeen_11 hl (by decide) rfl (fun ls hl => ?_)
  obtain ⟨code27, o4_u26, o5_u26, q28, h⟩ := bnd3_s h
  refine L13 200 _ _ _ H locs ls code27 o4_u26 o5_u26 hW (lv_sub hl [2, 3, 4, 1, 0] rfl) q28 (fun hc H locs ls hW hl => ?_) (fun hc H locs ls hW hl => ?_) (fun hc H locs ls hW hl => ?_)
  · have h := ite_t hc h
    refine lv_iconst (v := 0) hx hb dX7_holdsSeen_100 (by decide) ?_
    obtain rfl := ret1 h
    rw [hQ]
    exact g_retz hx hb hr hlk hW (by decide) dX7_holdsSeen_101
  · have h := ite_f (by rw [hc]; decide) h
    have h := ite_t hc h
    refine lv_iconst (v := 0) hx hb dX7_holdsSeen_64 (by decide) ?_
    obtain rfl := ret1 h
    rw [hQ]
    exact g_retz hx hb hr hlk hW (by decide) dX7_holdsSeen_65
  · have h := ite_f (by rw [hc]; decide) h
    have h := ite_f (by rw [hc]; decide) h
    refine lv_iconst (v := 1) hx hb dX7_holdsSeen_81 (by decide) ?_
    obtain rfl := ret1 h
    rw [hQ]
    exact g_retz hx hb hr hlk hW (by decide) dX7_holdsSeen_82
set_option maxHeartbeats 4000000 in
set_option maxRecDepth 100000 in
theorem c_X7_strike (l : Launch) (D : va_G) (T : Nat → ClassId) (A : Nat → Prop) (a_o : Nat → Nat) (a_q1 : Nat → Nat) (a_q2 : Nat → Nat) (Z : va_W)  (x_o : Ob) (x_q1 : Ob) (x_q2 : Ob) (x_q29 : Ob) (h : f_X7_strike x_o x_q1 x_q2 = some x_q29) : Met l yX7_strike (Cond.code yX7_strike cX7_strike 9 none :: wsL_law) (rmd 2) (Pg D T A (oc_X7 T a_o x_o ++ (oc_X3 T a_q1 x_q1 ++ (oc_X6 T a_q2 x_q2 ++ Z))) [.ref (a_o 0), .ref (a_q1 0), .ref (a_q2 0)]) (Qgv D A (oc_X7 T a_o x_o ++ (oc_X3 T a_q1 x_q1 ++ (oc_X6 T a_q2 x_q29 ++ Z)))) 0 0 A := by
  refine Met.ofW (cc := cX7_strike) (maxL := 9) (ret := none) (by decide +kernel) rfl ?_
  intro p e s m args below meth c s₁ B hml hv
  obtain ⟨ha, hP, hK, hD, hN⟩ := hv
  have hx := B.exec
  have hb := B.bytes
  have hr := B.returns
  have hlk := B.notSynchronized
  have hts : ∀ w ∈ wsL_law, w.before args s = true := fun w hw => atoms_spec B.pre w (List.mem_cons_of_mem _ hw)
  have hown : s.vm.findClass RX7 = some m.cls := findClass_of_methodNamed B.named
  have hW : Wd D A s.heap (oc_X7 T a_o x_o ++ (oc_X3 T a_q1 x_q1 ++ (oc_X6 T a_q2 x_q2 ++ Z))) s.heap [] := ⟨hP, hD, va_S.rf⟩
  have hl := lv_entry [.ref (a_o 0), .ref (a_q1 0), .ref (a_q2 0)] (n := 9) (Nat.le_of_ble_eq_true rfl)
  refine W.eq (en_eq ha) ?_
  generalize (lg_sl [.ref (a_o 0), .ref (a_q1 0), .ref (a_q2 0)] ++ List.replicate (9 - (lg_sl [.ref (a_o 0), .ref (a_q1 0), .ref (a_q2 0)]).length) Slot.unset).toArray = ls at hl ⊢
  have hl : lv_has ls 9 [(0, .ref (a_o 0)), (1, .ref (a_q1 0)), (2, .ref (a_q2 0))] := hl
  clear hP hD B ha
  obtain ⟨Q, hQ⟩ : ∃ Q, Q = MQ below (Qgv D A (oc_X7 T a_o x_o ++ (oc_X3 T a_q1 x_q1 ++ (oc_X6 T a_q2 x_q29 ++ Z)))) args s 0 0 A := ⟨_, rfl⟩
  rw [← hQ]
  change W p l e (rmd 2) s m args below meth c s.heap [] 0 0 Q (F0 m 0 ls [])
  have J78 : ∀ (x_q2_78 : Ob) (v3_78 : Int32) (v4_78 : Int32) (v5_78 : Int32) (v6_78 : Int32) (v7_78 : Int32) (s0_78 : Int32) (H : Heap) (locs : List Loc) (ls : Array Slot) (code : Nat) (o3j : Int32) (o6j : Int32) (y_q2j : Ob), Wd D A s.heap (oc_X7 T a_o x_o ++ (oc_X3 T a_q1 x_q1 ++ (oc_X6 T a_q2 x_q2_78 ++ Z))) H locs → lv_has ls 9 [(0, .ref (a_o 0)), (2, .ref (a_q2 0)), (3, .int v3_78), (4, .int v4_78), (5, .int v5_78), (6, .int v6_78), (7, .int v7_78)] → f_X7_strike_J78 x_o x_q1 x_q2_78 v3_78 v4_78 v5_78 v6_78 v7_78 s0_78 = some (code, o3j, o6j, y_q2j) → (code = 0 → ∀ (H : Heap) (locs : List Loc) (ls : Array Slot), Wd D A s.heap (oc_X7 T a_o x_o ++ (oc_X3 T a_q1 x_q1 ++ (oc_X6 T a_q2 y_q2j ++ Z))) H locs → lv_has ls 9 [(0, .ref (a_o 0)), (2, .ref (a_q2 0)), (3, .int o3j), (4, .int v4_78), (5, .int v5_78), (6, .int o6j)] → W p l e (rmd 2) s m args below meth c H locs 0 0 Q (F0 m 38 ls [])) → (code = 1 → ∀ (H : Heap) (locs : List Loc) (ls : Array Slot), Wd D A s.heap (oc_X7 T a_o x_o ++ (oc_X3 T a_q1 x_q1 ++ (oc_X6 T a_q2 y_q2j ++ Z))) H locs → lv_has ls 9 [(0, .ref (a_o 0)), (2, .ref (a_q2 0)), (3, .int o3j), (4, .int v4_78), (5, .int v5_78)] → W p l e (rmd 2) s m args below meth c H locs 0 0 Q (F0 m 143 ls [])) → W p l e (rmd 2) s m args below meth c H locs 0 0 Q (F0 m 78 ls [.int s0_78]) := by
    intro x_q2_78 v3_78 v4_78 v5_78 v6_78 v7_78 s0_78 H locs ls code o3j o6j y_q2j hW hl h k0 k1
    rw [f_X7_strike_J78] at h
    refine lv_istore (lv' := [(8, .int s0_78), (0, .ref (a_o 0)), (2, .ref (a_q2 0)), (3, .int v3_78), (4, .int v4_78), (5, .int v5_78), (6, .int v6_78), (7, .int v7_78)]) hx hb dX7_strike_78 hl (by decide) rfl (fun ls hl => ?_)
    refine lv_iload hx hb dX7_strike_80 (lv_at hl 7 rfl) ?_
    refine lv_if_eq (tgt := 137) hx hb dX7_strike_82 (by decide) (fun c13 => ?_) (fun c13 => ?_)
    · have h := ite_t c13 h
      obtain ⟨w6_14, ew6_14⟩ : ∃ y : Int32, y = v6_78 + 1 := ⟨_, rfl⟩
      have h := lb_at ew6_14 h
      refine lv_iinc (v := w6_14) (lv' := [(6, .int w6_14), (8, .int s0_78), (0, .ref (a_o 0)), (2, .ref (a_q2 0)), (3, .int v3_78), (4, .int v4_78), (5, .int v5_78), (7, .int v7_78)]) hx hb dX7_strike_137 hl (k := 6) rfl (by rw [ew6_14]; rfl) (by decide) rfl (fun ls hl => ?_)
      refine lv_goto (tgt := 38) hx hb dX7_strike_140 (by decide) ?_
      obtain ⟨rfl, rfl, rfl, rfl⟩ := ret4 h
      exact k0 rfl H locs ls hW (lv_sub hl [2, 3, 4, 5, 6, 0] rfl)
    · have h := ite_f c13 h
      refine lv_iload hx hb dX7_strike_85 (lv_at hl 0 rfl) ?_
      refine lv_if_eq (tgt := 137) hx hb dX7_strike_87 (by decide) (fun c15 => ?_) (fun c15 => ?_)
      · have h := ite_t c15 h
        obtain ⟨w6_16, ew6_16⟩ : ∃ y : Int32, y = v6_78 + 1 := ⟨_, rfl⟩
        have h := lb_at ew6_16 h
        refine lv_iinc (v := w6_16) (lv' := [(6, .int w6_16), (8, .int s0_78), (0, .ref (a_o 0)), (2, .ref (a_q2 0)), (3, .int v3_78), (4, .int v4_78), (5, .int v5_78), (7, .int v7_78)]) hx hb dX7_strike_137 hl (k := 6) rfl (by rw [ew6_16]; rfl) (by decide) rfl (fun ls hl => ?_)
        refine lv_goto (tgt := 38) hx hb dX7_strike_140 (by decide) ?_
        obtain ⟨rfl, rfl, rfl, rfl⟩ := ret4 h
        exact k0 rfl H locs ls hW (lv_sub hl [2, 3, 4, 5, 6, 0] rfl)
      · have h := ite_f c15 h
        refine lv_aload_n hx hb dX7_strike_90 rfl (lv_at hl 1 rfl) ?_
        refine fg_X7_15 (v := .ref (a_o 1)) hx hb hts hown hK hW 0 rfl rfl dX7_strike_91 ?_
        refine lv_iload hx hb dX7_strike_94 (lv_at hl 5 rfl) ?_
        obtain ⟨g17, h⟩ := grd_s h
        refine g_zald hx hb hK hW 1 rfl g17 dX7_strike_96 ?_
        refine lv_if_eq (tgt := 115) hx hb dX7_strike_97 (by decide) (fun c18 => ?_) (fun c18 => ?_)
        · have h := ite_t c18 h
          refine lv_aload_n hx hb dX7_strike_115 rfl (lv_at hl 1 rfl) ?_
          refine lv_iload hx hb dX7_strike_116 (lv_at hl 5 rfl) ?_
          refine lv_aload_n hx hb dX7_strike_118 rfl (lv_at hl 2 rfl) ?_
          refine lv_iload hx hb dX7_strike_119 (lv_at hl 6 rfl) ?_
          have hW := hW.perm pf2
          have hW := hW.perm pf1
          obtain ⟨r19, q20, h⟩ := bnd1_s h
          refine cl_X7_59 hx hb hml hown hts hK hN hW (c_X7_holdsSeen l D T A a_o a_q2 (oc_X3 T a_q1 x_q1 ++ Z) x_o x_q2_78 v5_78 v6_78 r19 q20) ⟨Nat.le_of_ble_eq_true rfl, Nat.le_of_ble_eq_true rfl⟩ hl.1 rfl (Nat.le_of_ble_eq_true rfl) dX7_strike_121 ⟨Nat.zero_le _, Nat.zero_le _⟩ rfl (fun H locs hW => ?_)
          have hW := hW.perm pf1
          have hW := hW.perm pf2
          have hW := hW.perm pf2
          refine lv_if_eq (tgt := 137) hx hb dX7_strike_124 (by decide) (fun c21 => ?_) (fun c21 => ?_)
          · have h := ite_t c21 h
            obtain ⟨w6_22, ew6_22⟩ : ∃ y : Int32, y = v6_78 + 1 := ⟨_, rfl⟩
            have h := lb_at ew6_22 h
            refine lv_iinc (v := w6_22) (lv' := [(6, .int w6_22), (8, .int s0_78), (0, .ref (a_o 0)), (2, .ref (a_q2 0)), (3, .int v3_78), (4, .int v4_78), (5, .int v5_78), (7, .int v7_78)]) hx hb dX7_strike_137 hl (k := 6) rfl (by rw [ew6_22]; rfl) (by decide) rfl (fun ls hl => ?_)
            refine lv_goto (tgt := 38) hx hb dX7_strike_140 (by decide) ?_
            obtain ⟨rfl, rfl, rfl, rfl⟩ := ret4 h
            exact k0 rfl H locs ls hW (lv_sub hl [2, 3, 4, 5, 6, 0] rfl)
          · have h := ite_f c21 h
            refine lv_aload_n hx hb dX7_strike_127 rfl (lv_at hl 2 rfl) ?_
            refine lv_iload hx hb dX7_strike_128 (lv_at hl 6 rfl) ?_
            refine lv_iload hx hb dX7_strike_130 (lv_at hl 7 rfl) ?_
            have hW := hW.perm pf2
            obtain ⟨x_q223, q24, h⟩ := bnd1_s h
            refine cl_X7_62 hx hb hml hown hts hK hN hW (c_X6_strikeOut l D T A a_q2 (oc_X7 T a_o x_o ++ (oc_X3 T a_q1 x_q1 ++ Z)) x_q2_78 v6_78 v7_78 x_q223 q24) ⟨Nat.le_of_ble_eq_true rfl, Nat.le_of_ble_eq_true rfl⟩ hl.1 rfl (Nat.le_of_ble_eq_true rfl) dX7_strike_132 ⟨Nat.zero_le _, Nat.zero_le _⟩ rfl (fun H locs hW => ?_)
            have hW := hW.perm pf2
            have hW := hW.perm pf2
            refine lv_iconst (v := 1) hx hb dX7_strike_135 (by decide) ?_
            refine lv_istore_n (lv' := [(3, .int 1), (8, .int s0_78), (0, .ref (a_o 0)), (2, .ref (a_q2 0)), (4, .int v4_78), (5, .int v5_78), (6, .int v6_78), (7, .int v7_78)]) hx hb dX7_strike_136 rfl hl (by decide) rfl (fun ls hl => ?_)
            obtain ⟨w6_25, ew6_25⟩ : ∃ y : Int32, y = v6_78 + 1 := ⟨_, rfl⟩
            have h := lb_at ew6_25 h
            refine lv_iinc (v := w6_25) (lv' := [(6, .int w6_25), (3, .int 1), (8, .int s0_78), (0, .ref (a_o 0)), (2, .ref (a_q2 0)), (4, .int v4_78), (5, .int v5_78), (7, .int v7_78)]) hx hb dX7_strike_137 hl (k := 6) rfl (by rw [ew6_25]; rfl) (by decide) rfl (fun ls hl => ?_)
            refine lv_goto (tgt := 38) hx hb dX7_strike_140 (by decide) ?_
            obtain ⟨rfl, rfl, rfl, rfl⟩ := ret4 h
            exact k0 rfl H locs ls hW (lv_sub hl [3, 4, 1, 5, 6, 0] rfl)
        · have h := ite_f c18 h
          refine lv_aload_n hx hb dX7_strike_100 rfl (lv_at hl 1 rfl) ?_
          refine lv_iload hx hb dX7_strike_101 (lv_at hl 5 rfl) ?_
          refine lv_aload_n hx hb dX7_strike_103 rfl (lv_at hl 2 rfl) ?_
          refine lv_iload hx hb dX7_strike_104 (lv_at hl 6 rfl) ?_
          have hW := hW.perm pf2
          have hW := hW.perm pf1
          obtain ⟨r26, q27, h⟩ := bnd1_s h
          refine cl_X7_55 hx hb hml hown hts hK hN hW (c_X7_holdsSure l D T A a_o a_q2 (oc_X3 T a_q1 x_q1 ++ Z) x_o x_q2_78 v5_78 v6_78 r26 q27) ⟨Nat.le_of_ble_eq_true rfl, Nat.le_of_ble_eq_true rfl⟩ hl.1 rfl (Nat.le_of_ble_eq_true rfl) dX7_strike_106 ⟨Nat.zero_le _, Nat.zero_le _⟩ rfl (fun H locs hW => ?_)
          have hW := hW.perm pf1
          have hW := hW.perm pf2
          have hW := hW.perm pf2
          refine lv_if_eq (tgt := 137) hx hb dX7_strike_109 (by decide) (fun c28 => ?_) (fun c28 => ?_)
          · have h := ite_t c28 h
            obtain ⟨w6_29, ew6_29⟩ : ∃ y : Int32, y = v6_78 + 1 := ⟨_, rfl⟩
            have h := lb_at ew6_29 h
            refine lv_iinc (v := w6_29) (lv' := [(6, .int w6_29), (8, .int s0_78), (0, .ref (a_o 0)), (2, .ref (a_q2 0)), (3, .int v3_78), (4, .int v4_78), (5, .int v5_78), (7, .int v7_78)]) hx hb dX7_strike_137 hl (k := 6) rfl (by rw [ew6_29]; rfl) (by decide) rfl (fun ls hl => ?_)
            refine lv_goto (tgt := 38) hx hb dX7_strike_140 (by decide) ?_
            obtain ⟨rfl, rfl, rfl, rfl⟩ := ret4 h
            exact k0 rfl H locs ls hW (lv_sub hl [2, 3, 4, 5, 6, 0] rfl)
          · have h := ite_f c28 h
            refine lv_goto (tgt := 127) hx hb dX7_strike_112 (by decide) ?_
            refine lv_aload_n hx hb dX7_strike_127 rfl (lv_at hl 2 rfl) ?_
            refine lv_iload hx hb dX7_strike_128 (lv_at hl 6 rfl) ?_
            refine lv_iload hx hb dX7_strike_130 (lv_at hl 7 rfl) ?_
            have hW := hW.perm pf2
            obtain ⟨x_q230, q31, h⟩ := bnd1_s h
            refine cl_X7_62 hx hb hml hown hts hK hN hW (c_X6_strikeOut l D T A a_q2 (oc_X7 T a_o x_o ++ (oc_X3 T a_q1 x_q1 ++ Z)) x_q2_78 v6_78 v7_78 x_q230 q31) ⟨Nat.le_of_ble_eq_true rfl, Nat.le_of_ble_eq_true rfl⟩ hl.1 rfl (Nat.le_of_ble_eq_true rfl) dX7_strike_132 ⟨Nat.zero_le _, Nat.zero_le _⟩ rfl (fun H locs hW => ?_)
            have hW := hW.perm pf2
            have hW := hW.perm pf2
            refine lv_iconst (v := 1) hx hb dX7_strike_135 (by decide) ?_
            refine lv_istore_n (lv' := [(3, .int 1), (8, .int s0_78), (0, .ref (a_o 0)), (2, .ref (a_q2 0)), (4, .int v4_78), (5, .int v5_78), (6, .int v6_78), (7, .int v7_78)]) hx hb dX7_strike_136 rfl hl (by decide) rfl (fun ls hl => ?_)
            obtain ⟨w6_32, ew6_32⟩ : ∃ y : Int32, y = v6_78 + 1 := ⟨_, rfl⟩
            have h := lb_at ew6_32 h
            refine lv_iinc (v := w6_32) (lv' := [(6, .int w6_32), (3, .int 1), (8, .int s0_78), (0, .ref (a_o 0)), (2, .ref (a_q2 0)), (4, .int v4_78), (5, .int v5_78), (7, .int v7_78)]) hx hb dX7_strike_137 hl (k := 6) rfl (by rw [ew6_32]; rfl) (by decide) rfl (fun ls hl => ?_)
            refine lv_goto (tgt := 38) hx hb dX7_strike_140 (by decide) ?_
            obtain ⟨rfl, rfl, rfl, rfl⟩ := ret4 h
            exact k0 rfl H locs ls hW (lv_sub hl [3, 4, 1, 5, 6, 0] rfl)
  have L38 : ∀ (n : Nat) (x_q2_38 : Ob) (v3_38 : Int32) (v4_38 : Int32) (v5_38 : Int32) (v6_38 : Int32) (H : Heap) (locs : List Loc) (ls : Array Slot) (o3_38r : Int32) (o6_38r : Int32) (y_q2_38r : Ob), Wd D A s.heap (oc_X7 T a_o x_o ++ (oc_X3 T a_q1 x_q1 ++ (oc_X6 T a_q2 x_q2_38 ++ Z))) H locs → lv_has ls 9 [(0, .ref (a_o 0)), (2, .ref (a_q2 0)), (3, .int v3_38), (4, .int v4_38), (5, .int v5_38), (6, .int v6_38)] → f_X7_strike_L38 n x_o x_q1 x_q2_38 v3_38 v4_38 v5_38 v6_38 = some (o3_38r, o6_38r, y_q2_38r) → (∀ (H : Heap) (locs : List Loc) (ls : Array Slot), Wd D A s.heap (oc_X7 T a_o x_o ++ (oc_X3 T a_q1 x_q1 ++ (oc_X6 T a_q2 y_q2_38r ++ Z))) H locs → lv_has ls 9 [(0, .ref (a_o 0)), (2, .ref (a_q2 0)), (3, .int o3_38r), (4, .int v4_38), (5, .int v5_38)] → W p l e (rmd 2) s m args below meth c H locs 0 0 Q (F0 m 143 ls [])) → W p l e (rmd 2) s m args below meth c H locs 0 0 Q (F0 m 38 ls []) := by
    intro n
    induction n with
    | zero =>
      intro x_q2_38 v3_38 v4_38 v5_38 v6_38 H locs ls o3_38r o6_38r y_q2_38r hW hl h k1
      rw [f_X7_strike_L38] at h
      cases h
    | succ n ih =>
      intro x_q2_38 v3_38 v4_38 v5_38 v6_38 H locs ls o3_38r o6_38r y_q2_38r hW hl h k1
      rw [f_X7_strike_L38] at h
      refine lv_iload hx hb dX7_strike_38 (lv_at hl 5 rfl) ?_
      refine lv_aload_n hx hb dX7_strike_40 rfl (lv_at hl 1 rfl) ?_
      refine fg_X7_46 (v := .int (x_q2_38 0 0)) hx hb hts hN hown hK hW 12 rfl rfl dX7_strike_41 ?_
      refine lv_icmp_ge (tgt := 143) hx hb dX7_strike_44 (by decide) (fun c6 => ?_) (fun c6 => ?_)
      · have h := ite_t c6 h
        obtain ⟨rfl, rfl, rfl⟩ := ret3 h
        exact k1 H locs ls hW (lv_sub hl [0, 1, 2, 3, 4] rfl)
      · have h := ite_f c6 h
        refine lv_aload_n hx hb dX7_strike_47 rfl (lv_at hl 1 rfl) ?_
        refine lv_iload hx hb dX7_strike_48 (lv_at hl 5 rfl) ?_
        refine lv_aload_n hx hb dX7_strike_50 rfl (lv_at hl 0 rfl) ?_
        refine fg_X7_19 (v := .ref (a_o 2)) hx hb hts hown hK hW 0 rfl rfl dX7_strike_51 ?_
        refine lv_iload hx hb dX7_strike_54 (lv_at hl 4 rfl) ?_
        obtain ⟨g7, h⟩ := grd_s h
        refine g_iald hx hb hK hW 2 rfl g7 dX7_strike_56 ?_
        have hW := hW.perm pf2
        obtain ⟨r8, q9, h⟩ := bnd1_s h
        refine cl_X7_47 hx hb hml hown hts hK hN hW (c_X6_leftOf l D T A a_q2 (oc_X7 T a_o x_o ++ (oc_X3 T a_q1 x_q1 ++ Z)) x_q2_38 v6_38 (x_o 2 v5_38.toNatClampNeg) r8 q9) ⟨Nat.le_of_ble_eq_true rfl, Nat.le_of_ble_eq_true rfl⟩ hl.1 rfl (Nat.le_of_ble_eq_true rfl) dX7_strike_57 ⟨Nat.zero_le _, Nat.zero_le _⟩ rfl (fun H locs hW => ?_)
        have hW := hW.perm pf2
        have hW := hW.perm pf2
        refine lv_istore (lv' := [(7, .int r8), (0, .ref (a_o 0)), (2, .ref (a_q2 0)), (3, .int v3_38), (4, .int v4_38), (5, .int v5_38), (6, .int v6_38)]) hx hb dX7_strike_60 hl (by decide) rfl (fun ls hl => ?_)
        refine lv_iload hx hb dX7_strike_62 (lv_at hl 0 rfl) ?_
        refine lv_aload_n hx hb dX7_strike_64 rfl (lv_at hl 2 rfl) ?_
        refine lv_iload hx hb dX7_strike_65 (lv_at hl 6 rfl) ?_
        have hW := hW.perm pf2
        obtain ⟨r10, q11, h⟩ := bnd1_s h
        refine cl_X7_51 hx hb hml hown hts hK hN hW (c_X6_leftIn l D T A a_q2 (oc_X7 T a_o x_o ++ (oc_X3 T a_q1 x_q1 ++ Z)) x_q2_38 v6_38 r10 q11) ⟨Nat.le_of_ble_eq_true rfl, Nat.le_of_ble_eq_true rfl⟩ hl.1 rfl (Nat.le_of_ble_eq_true rfl) dX7_strike_67 ⟨Nat.zero_le _, Nat.zero_le _⟩ rfl (fun H locs hW => ?_)
        have hW := hW.perm pf2
        have hW := hW.perm pf2
        refine lv_icmp_eq (tgt := 77) hx hb dX7_strike_70 (by decide) (fun c12 => ?_) (fun c12 => ?_)
        · have h := ite_t c12 h
          refine lv_iconst (v := 0) hx hb dX7_strike_77 (by decide) ?_
          obtain ⟨code34, o3_t33, o6_t33, y_q2_t33, q35, h⟩ := bnd4_s h
          refine J78 _ _ _ _ _ _ _ H locs ls code34 o3_t33 o6_t33 y_q2_t33 hW (lv_sub hl [1, 2, 3, 4, 5, 6, 0] rfl) q35 (fun hc H locs ls hW hl => ?_) (fun hc H locs ls hW hl => ?_)
          · have h := ite_t hc h
            exact ih _ _ _ _ _ H locs ls _ _ _ hW (lv_sub hl [0, 1, 2, 3, 4, 5] rfl) h k1
          · have h := ite_f (by rw [hc]; decide) h
            obtain ⟨rfl, rfl, rfl⟩ := ret3 h
            exact k1 H locs ls hW hl
        · have h := ite_f c12 h
          refine lv_iconst (v := 1) hx hb dX7_strike_73 (by decide) ?_
          refine lv_goto (tgt := 78) hx hb dX7_strike_74 (by decide) ?_
          obtain ⟨code37, o3_t36, o6_t36, y_q2_t36, q38, h⟩ := bnd4_s h
          refine J78 _ _ _ _ _ _ _ H locs ls code37 o3_t36 o6_t36 y_q2_t36 hW (lv_sub hl [1, 2, 3, 4, 5, 6, 0] rfl) q38 (fun hc H locs ls hW hl => ?_) (fun hc H locs ls hW hl => ?_)
          · have h := ite_t hc h
            exact ih _ _ _ _ _ H locs ls _ _ _ hW (lv_sub hl [0, 1, 2, 3, 4, 5] rfl) h k1
          · have h := ite_f (by rw [hc]; decide) h
            obtain ⟨rfl, rfl, rfl⟩ := ret3 h
            exact k1 H locs ls hW hl
  have L26 : ∀ (n : Nat) (x_q2_26 : Ob) (v3_26 : Int32) (v4_26 : Int32) (v5_26 : Int32) (H : Heap) (locs : List Loc) (ls : Array Slot) (o3_26r : Int32) (o5_26r : Int32) (y_q2_26r : Ob), Wd D A s.heap (oc_X7 T a_o x_o ++ (oc_X3 T a_q1 x_q1 ++ (oc_X6 T a_q2 x_q2_26 ++ Z))) H locs → lv_has ls 9 [(0, .ref (a_o 0)), (2, .ref (a_q2 0)), (3, .int v3_26), (4, .int v4_26), (5, .int v5_26)] → f_X7_strike_L26 n x_o x_q1 x_q2_26 v3_26 v4_26 v5_26 = some (o3_26r, o5_26r, y_q2_26r) → (∀ (H : Heap) (locs : List Loc) (ls : Array Slot), Wd D A s.heap (oc_X7 T a_o x_o ++ (oc_X3 T a_q1 x_q1 ++ (oc_X6 T a_q2 y_q2_26r ++ Z))) H locs → lv_has ls 9 [(0, .ref (a_o 0)), (2, .ref (a_q2 0)), (3, .int o3_26r), (4, .int v4_26)] → W p l e (rmd 2) s m args below meth c H locs 0 0 Q (F0 m 149 ls [])) → W p l e (rmd 2) s m args below meth c H locs 0 0 Q (F0 m 26 ls []) := by
    intro n
    induction n with
    | zero =>
      intro x_q2_26 v3_26 v4_26 v5_26 H locs ls o3_26r o5_26r y_q2_26r hW hl h k1
      rw [f_X7_strike_L26] at h
      cases h
    | succ n ih =>
      intro x_q2_26 v3_26 v4_26 v5_26 H locs ls o3_26r o5_26r y_q2_26r hW hl h k1
      rw [f_X7_strike_L26] at h
      refine lv_iload hx hb dX7_strike_26 (lv_at hl 4 rfl) ?_
      refine lv_aload_n hx hb dX7_strike_28 rfl (lv_at hl 0 rfl) ?_
      refine fg_X7_9 (v := .int (x_o 0 0)) hx hb hts hown hK hW 0 rfl rfl dX7_strike_29 ?_
      refine lv_icmp_ge (tgt := 149) hx hb dX7_strike_32 (by decide) (fun c5 => ?_) (fun c5 => ?_)
      · have h := ite_t c5 h
        obtain ⟨rfl, rfl, rfl⟩ := ret3 h
        exact k1 H locs ls hW (lv_sub hl [0, 1, 2, 3] rfl)
      · have h := ite_f c5 h
        refine lv_iconst (v := 0) hx hb dX7_strike_35 (by decide) ?_
        refine lv_istore (lv' := [(6, .int 0), (0, .ref (a_o 0)), (2, .ref (a_q2 0)), (3, .int v3_26), (4, .int v4_26), (5, .int v5_26)]) hx hb dX7_strike_36 hl (by decide) rfl (fun ls hl => ?_)
        obtain ⟨o3_u39, o6_u39, y_q2_u39, q40, h⟩ := bnd3_s h
        refine L38 200 _ _ _ _ _ H locs ls o3_u39 o6_u39 y_q2_u39 hW (lv_sub hl [1, 2, 3, 4, 5, 0] rfl) q40 (fun H locs ls hW hl => ?_)
        obtain ⟨w5_41, ew5_41⟩ : ∃ y : Int32, y = v5_26 + 1 := ⟨_, rfl⟩
        have h := lb_at ew5_41 h
        refine lv_iinc (v := w5_41) (lv' := [(5, .int w5_41), (0, .ref (a_o 0)), (2, .ref (a_q2 0)), (3, .int o3_u39), (4, .int v4_26)]) hx hb dX7_strike_143 hl (k := 4) rfl (by rw [ew5_41]; rfl) (by decide) rfl (fun ls hl => ?_)
        refine lv_goto (tgt := 26) hx hb dX7_strike_146 (by decide) ?_
        exact ih _ _ _ _ H locs ls _ _ _ hW (lv_sub hl [1, 2, 3, 4, 0] rfl) h k1
  have L10 : ∀ (n : Nat) (x_q2_10 : Ob) (v3_10 : Int32) (v4_10 : Int32) (H : Heap) (locs : List Loc) (ls : Array Slot) (o3_10r : Int32) (o4_10r : Int32) (y_q2_10r : Ob), Wd D A s.heap (oc_X7 T a_o x_o ++ (oc_X3 T a_q1 x_q1 ++ (oc_X6 T a_q2 x_q2_10 ++ Z))) H locs → lv_has ls 9 [(0, .ref (a_o 0)), (2, .ref (a_q2 0)), (3, .int v3_10), (4, .int v4_10)] → f_X7_strike_L10 n x_o x_q1 x_q2_10 v3_10 v4_10 = some (o3_10r, o4_10r, y_q2_10r) → (∀ (H : Heap) (locs : List Loc) (ls : Array Slot), Wd D A s.heap (oc_X7 T a_o x_o ++ (oc_X3 T a_q1 x_q1 ++ (oc_X6 T a_q2 y_q2_10r ++ Z))) H locs → lv_has ls 9 [(2, .ref (a_q2 0))] → W p l e (rmd 2) s m args below meth c H locs 0 0 Q (F0 m 155 ls [])) → W p l e (rmd 2) s m args below meth c H locs 0 0 Q (F0 m 10 ls []) := by
    intro n
    induction n with
    | zero =>
      intro x_q2_10 v3_10 v4_10 H locs ls o3_10r o4_10r y_q2_10r hW hl h k1
      rw [f_X7_strike_L10] at h
      cases h
    | succ n ih =>
      intro x_q2_10 v3_10 v4_10 H locs ls o3_10r o4_10r y_q2_10r hW hl h k1
      rw [f_X7_strike_L10] at h
      refine lv_iload_n hx hb dX7_strike_10 rfl (lv_at hl 2 rfl) ?_
      refine lv_if_eq (tgt := 155) hx hb dX7_strike_11 (by decide) (fun c3 => ?_) (fun c3 => ?_)
      · have h := ite_t c3 h
        obtain ⟨rfl, rfl, rfl⟩ := ret3 h
        exact k1 H locs ls hW (lv_sub hl [1] rfl)
      · have h := ite_f c3 h
        refine lv_iload hx hb dX7_strike_14 (lv_at hl 3 rfl) ?_
        refine lv_bipush (v := 25) hx hb dX7_strike_16 (by decide) ?_
        refine lv_icmp_ge (tgt := 155) hx hb dX7_strike_18 (by decide) (fun c4 => ?_) (fun c4 => ?_)
        · have h := ite_t c4 h
          obtain ⟨rfl, rfl, rfl⟩ := ret3 h
          exact k1 H locs ls hW (lv_sub hl [1] rfl)
        · have h := ite_f c4 h
          refine lv_iconst (v := 0) hx hb dX7_strike_21 (by decide) ?_
          refine lv_istore_n (lv' := [(3, .int 0), (0, .ref (a_o 0)), (2, .ref (a_q2 0)), (4, .int v4_10)]) hx hb dX7_strike_22 rfl hl (by decide) rfl (fun ls hl => ?_)
          refine lv_iconst (v := 0) hx hb dX7_strike_23 (by decide) ?_
          refine lv_istore (lv' := [(5, .int 0), (3, .int 0), (0, .ref (a_o 0)), (2, .ref (a_q2 0)), (4, .int v4_10)]) hx hb dX7_strike_24 hl (by decide) rfl (fun ls hl => ?_)
          obtain ⟨o3_u42, o5_u42, y_q2_u42, q43, h⟩ := bnd3_s h
          refine L26 200 _ _ _ _ H locs ls o3_u42 o5_u42 y_q2_u42 hW (lv_sub hl [2, 3, 1, 4, 0] rfl) q43 (fun H locs ls hW hl => ?_)
          obtain ⟨w4_44, ew4_44⟩ : ∃ y : Int32, y = v4_10 + 1 := ⟨_, rfl⟩
          have h := lb_at ew4_44 h
          refine lv_iinc (v := w4_44) (lv' := [(4, .int w4_44), (0, .ref (a_o 0)), (2, .ref (a_q2 0)), (3, .int o3_u42)]) hx hb dX7_strike_149 hl (k := 3) rfl (by rw [ew4_44]; rfl) (by decide) rfl (fun ls hl => ?_)
          refine lv_goto (tgt := 10) hx hb dX7_strike_152 (by decide) ?_
          exact ih _ _ _ H locs ls _ _ _ hW (lv_sub hl [1, 2, 3, 0] rfl) h k1
  rw [f_X7_strike] at h
  suffices hm : ∀ (H : Heap) (locs : List Loc), Wd D A s.heap (oc_X7 T a_o x_o ++ (oc_X3 T a_q1 x_q1 ++ (oc_X6 T a_q2 x_q2 ++ Z))) H locs → W p l e (rmd 2) s m args below meth c H locs 0 0 Q (F0 m 0 ls []) from hm _ _ hW
  intro H locs hW
  refine lv_aload_n hx hb dX7_strike_0 rfl (lv_at hl 2 rfl) ?_
  refine lv_aload_n hx hb dX7_strike_1 rfl (lv_at hl 1 rfl) ?_
  have hW := hW.perm pf1
  have hW := hW.perm pf2
  obtain ⟨x_q21, q2, h⟩ := bnd1_s h
  refine cl_X7_40 hx hb hml hown hts hK hN hW (c_X6_leaveAll l D T A a_q2 a_q1 (oc_X7 T a_o x_o ++ Z) x_q2 x_q1 x_q21 q2) ⟨Nat.le_of_ble_eq_true rfl, Nat.le_of_ble_eq_true rfl⟩ hl.1 rfl (Nat.le_of_ble_eq_true rfl) dX7_strike_2 ⟨Nat.zero_le _, Nat.zero_le _⟩ rfl (fun H locs hW => ?_)
  have hW := hW.perm pf1
  have hW := hW.perm pf2
  refine lv_iconst (v := 1) hx hb dX7_strike_5 (by decide) ?_
  refine lv_istore_n (lv' := [(3, .int 1), (0, .ref (a_o 0)), (1, .ref (a_q1 0)), (2, .ref (a_q2 0))]) hx hb dX7_strike_6 rfl hl (by decide) rfl (fun ls hl => ?_)
  refine lv_iconst (v := 0) hx hb dX7_strike_7 (by decide) ?_
  refine lv_istore (lv' := [(4, .int 0), (3, .int 1), (0, .ref (a_o 0)), (1, .ref (a_q1 0)), (2, .ref (a_q2 0))]) hx hb dX7_strike_8 hl (by decide) rfl (fun ls hl => ?_)
  obtain ⟨o3_u45, o4_u45, y_q2_u45, q46, h⟩ := bnd3_s h
  refine L10 200 _ _ _ H locs ls o3_u45 o4_u45 y_q2_u45 hW (lv_sub hl [2, 4, 1, 0] rfl) q46 (fun H locs ls hW hl => ?_)
  refine lv_aload_n hx hb dX7_strike_155 rfl (lv_at hl 0 rfl) ?_
  refine lv_iconst (v := 1) hx hb dX7_strike_156 (by decide) ?_
  refine fp_X7_66 (ws9 := oc_X7 T a_o x_o ++ (oc_X3 T a_q1 x_q1 ++ (oc_X6 T a_q2 (upo y_q2_u45 7 0 1) ++ Z))) hx hb hts hN hown hK hW 12 rfl (Nat.le_of_ble_eq_true rfl) (by decide) rfl dX7_strike_157 (fun H locs hW => ?_)
  obtain ⟨x_q247, ex_q247⟩ : ∃ y : Ob, y = upo y_q2_u45 7 0 1 := ⟨_, rfl⟩
  rw [← ex_q247] at hW
  have h := lb_at ex_q247 h
  obtain rfl := ret1 h
  rw [hQ]
  exact g_retv hx hb hr hlk hW dX7_strike_160
set_option maxHeartbeats 4000000 in
set_option maxRecDepth 100000 in
theorem c_X8_isFull (l : Launch) (D : va_G) (T : Nat → ClassId) (A : Nat → Prop) (a_o : Nat → Nat) (Z : va_W)  (x_o : Ob) (r : Int32) (h : f_X8_isFull x_o = some r) : Met l yX8_isFull (Cond.code yX8_isFull cX8_isFull 1 (some .boolean) :: wsL_law) (rmd 0) (Pg D T A (oc_X8 T a_o x_o ++ Z) [.ref (a_o 0)]) (Qgi D A (oc_X8 T a_o x_o ++ Z) r) 0 0 A := by
  refine Met.ofW (cc := cX8_isFull) (maxL := 1) (ret := (some .boolean)) (by decide +kernel) rfl ?_
  intro p e s m args below meth c s₁ B hml hv
  obtain ⟨ha, hP, hK, hD, hN⟩ := hv
  have hx := B.exec
  have hb := B.bytes
  have hr := B.returns
  have hlk := B.notSynchronized
  have hts : ∀ w ∈ wsL_law, w.before args s = true := fun w hw => atoms_spec B.pre w (List.mem_cons_of_mem _ hw)
  have hown : s.vm.findClass RX8 = some m.cls := findClass_of_methodNamed B.named
  have hW : Wd D A s.heap (oc_X8 T a_o x_o ++ Z) s.heap [] := ⟨hP, hD, va_S.rf⟩
  have hl := lv_entry [.ref (a_o 0)] (n := 1) (Nat.le_of_ble_eq_true rfl)
  refine W.eq (en_eq ha) ?_
  generalize (lg_sl [.ref (a_o 0)] ++ List.replicate (1 - (lg_sl [.ref (a_o 0)]).length) Slot.unset).toArray = ls at hl ⊢
  have hl : lv_has ls 1 [(0, .ref (a_o 0))] := hl
  clear hP hD B ha
  obtain ⟨Q, hQ⟩ : ∃ Q, Q = MQ below (Qgi D A (oc_X8 T a_o x_o ++ Z) r) args s 0 0 A := ⟨_, rfl⟩
  rw [← hQ]
  change W p l e (rmd 0) s m args below meth c s.heap [] 0 0 Q (F0 m 0 ls [])
  rw [f_X8_isFull] at h
  suffices hm : ∀ (H : Heap) (locs : List Loc), Wd D A s.heap (oc_X8 T a_o x_o ++ Z) H locs → W p l e (rmd 0) s m args below meth c H locs 0 0 Q (F0 m 0 ls []) from hm _ _ hW
  intro H locs hW
  refine lv_aload_n hx hb dX8_isFull_0 rfl (lv_at hl 0 rfl) ?_
  refine fg_X8_9 (v := .int (x_o 0 0)) hx hb hts hown hK hW 0 rfl rfl dX8_isFull_1 ?_
  refine lv_bipush (v := 12) hx hb dX8_isFull_4 (by decide) ?_
  refine lv_icmp_lt (tgt := 13) hx hb dX8_isFull_6 (by decide) (fun c1 => ?_) (fun c1 => ?_)
  · have h := ite_t c1 h
    refine lv_iconst (v := 0) hx hb dX8_isFull_13 (by decide) ?_
    obtain rfl := ret1 h
    rw [hQ]
    exact g_retz hx hb hr hlk hW (by decide) dX8_isFull_14
  · have h := ite_f c1 h
    refine lv_iconst (v := 1) hx hb dX8_isFull_9 (by decide) ?_
    refine lv_goto (tgt := 14) hx hb dX8_isFull_10 (by decide) ?_
    obtain rfl := ret1 h
    rw [hQ]
    exact g_retz hx hb hr hlk hW (by decide) dX8_isFull_14
set_option maxHeartbeats 4000000 in
set_option maxRecDepth 100000 in
theorem c_X8_hasPattern (l : Launch) (D : va_G) (T : Nat → ClassId) (A : Nat → Prop) (a_o : Nat → Nat) (Z : va_W)  (x_o : Ob) (p1 : Int32) (r : Int32) (h : f_X8_hasPattern x_o p1 = some r) : Met l yX8_hasPattern (Cond.code yX8_hasPattern cX8_hasPattern 2 (some .boolean) :: wsL_law) (rmd 1) (Pg D T A (oc_X8 T a_o x_o ++ Z) [.ref (a_o 0), .int p1]) (Qgi D A (oc_X8 T a_o x_o ++ Z) r) 0 0 A := by
  refine Met.ofW (cc := cX8_hasPattern) (maxL := 2) (ret := (some .boolean)) (by decide +kernel) rfl ?_
  intro p e s m args below meth c s₁ B hml hv
  obtain ⟨ha, hP, hK, hD, hN⟩ := hv
  have hx := B.exec
  have hb := B.bytes
  have hr := B.returns
  have hlk := B.notSynchronized
  have hts : ∀ w ∈ wsL_law, w.before args s = true := fun w hw => atoms_spec B.pre w (List.mem_cons_of_mem _ hw)
  have hown : s.vm.findClass RX8 = some m.cls := findClass_of_methodNamed B.named
  have hW : Wd D A s.heap (oc_X8 T a_o x_o ++ Z) s.heap [] := ⟨hP, hD, va_S.rf⟩
  have hl := lv_entry [.ref (a_o 0), .int p1] (n := 2) (Nat.le_of_ble_eq_true rfl)
  refine W.eq (en_eq ha) ?_
  generalize (lg_sl [.ref (a_o 0), .int p1] ++ List.replicate (2 - (lg_sl [.ref (a_o 0), .int p1]).length) Slot.unset).toArray = ls at hl ⊢
  have hl : lv_has ls 2 [(0, .ref (a_o 0)), (1, .int p1)] := hl
  clear hP hD B ha
  obtain ⟨Q, hQ⟩ : ∃ Q, Q = MQ below (Qgi D A (oc_X8 T a_o x_o ++ Z) r) args s 0 0 A := ⟨_, rfl⟩
  rw [← hQ]
  change W p l e (rmd 1) s m args below meth c s.heap [] 0 0 Q (F0 m 0 ls [])
  rw [f_X8_hasPattern] at h
  suffices hm : ∀ (H : Heap) (locs : List Loc), Wd D A s.heap (oc_X8 T a_o x_o ++ Z) H locs → W p l e (rmd 1) s m args below meth c H locs 0 0 Q (F0 m 0 ls []) from hm _ _ hW
  intro H locs hW
  refine lv_iload_n hx hb dX8_hasPattern_0 rfl (lv_at hl 1 rfl) ?_
  refine lv_aload_n hx hb dX8_hasPattern_1 rfl (lv_at hl 0 rfl) ?_
  refine fg_X8_9 (v := .int (x_o 0 0)) hx hb hts hown hK hW 0 rfl rfl dX8_hasPattern_2 ?_
  obtain ⟨r1, q2, h⟩ := bnd1_s h
  refine cl_X8_29 hx hb hml hown hts hK hN hW (c_X10_isBelow l D T A (oc_X8 T a_o x_o ++ Z) p1 (x_o 0 0) r1 q2) ⟨Nat.le_of_ble_eq_true rfl, Nat.le_of_ble_eq_true rfl⟩ hl.1 rfl (Nat.le_of_ble_eq_true rfl) dX8_hasPattern_5 ⟨Nat.zero_le _, Nat.zero_le _⟩ rfl (fun H locs hW => ?_)
  obtain ⟨g3, h⟩ := grd_s h
  obtain rfl := ret1 h
  rw [hQ]
  exact g_retz hx hb hr hlk hW g3 dX8_hasPattern_8
set_option maxHeartbeats 4000000 in
set_option maxRecDepth 100000 in
theorem c_X8_addPattern (l : Launch) (D : va_G) (T : Nat → ClassId) (A : Nat → Prop) (a_o : Nat → Nat) (Z : va_W)  (x_o : Ob) (p1 : Int32) (p2 : Int32) (p3 : Int32) (p4 : Int32) (r : Int32) (x_o9 : Ob) (h : f_X8_addPattern x_o p1 p2 p3 p4 = some (r, x_o9)) : Met l yX8_addPattern (Cond.code yX8_addPattern cX8_addPattern 5 (some .int) :: wsL_law) (rmd 1) (Pg D T A (oc_X8 T a_o x_o ++ Z) [.ref (a_o 0), .int p1, .int p2, .int p3, .int p4]) (Qgi D A (oc_X8 T a_o x_o9 ++ Z) r) 0 0 A := by
  refine Met.ofW (cc := cX8_addPattern) (maxL := 5) (ret := (some .int)) (by decide +kernel) rfl ?_
  intro p e s m args below meth c s₁ B hml hv
  obtain ⟨ha, hP, hK, hD, hN⟩ := hv
  have hx := B.exec
  have hb := B.bytes
  have hr := B.returns
  have hlk := B.notSynchronized
  have hts : ∀ w ∈ wsL_law, w.before args s = true := fun w hw => atoms_spec B.pre w (List.mem_cons_of_mem _ hw)
  have hown : s.vm.findClass RX8 = some m.cls := findClass_of_methodNamed B.named
  have hW : Wd D A s.heap (oc_X8 T a_o x_o ++ Z) s.heap [] := ⟨hP, hD, va_S.rf⟩
  have hl := lv_entry [.ref (a_o 0), .int p1, .int p2, .int p3, .int p4] (n := 5) (Nat.le_of_ble_eq_true rfl)
  refine W.eq (en_eq ha) ?_
  generalize (lg_sl [.ref (a_o 0), .int p1, .int p2, .int p3, .int p4] ++ List.replicate (5 - (lg_sl [.ref (a_o 0), .int p1, .int p2, .int p3, .int p4]).length) Slot.unset).toArray = ls at hl ⊢
  have hl : lv_has ls 5 [(0, .ref (a_o 0)), (1, .int p1), (2, .int p2), (3, .int p3), (4, .int p4)] := hl
  clear hP hD B ha
  obtain ⟨Q, hQ⟩ : ∃ Q, Q = MQ below (Qgi D A (oc_X8 T a_o x_o9 ++ Z) r) args s 0 0 A := ⟨_, rfl⟩
  rw [← hQ]
  change W p l e (rmd 1) s m args below meth c s.heap [] 0 0 Q (F0 m 0 ls [])
  rw [f_X8_addPattern] at h
  suffices hm : ∀ (H : Heap) (locs : List Loc), Wd D A s.heap (oc_X8 T a_o x_o ++ Z) H locs → W p l e (rmd 1) s m args below meth c H locs 0 0 Q (F0 m 0 ls []) from hm _ _ hW
  intro H locs hW
  refine lv_aload_n hx hb dX8_addPattern_0 rfl (lv_at hl 0 rfl) ?_
  refine fg_X8_9 (v := .int (x_o 0 0)) hx hb hts hown hK hW 0 rfl rfl dX8_addPattern_1 ?_
  refine lv_bipush (v := 12) hx hb dX8_addPattern_4 (by decide) ?_
  obtain ⟨r1, q2, h⟩ := bnd1_s h
  refine cl_X8_29 hx hb hml hown hts hK hN hW (c_X10_isBelow l D T A (oc_X8 T a_o x_o ++ Z) (x_o 0 0) 12 r1 q2) ⟨Nat.le_of_ble_eq_true rfl, Nat.le_of_ble_eq_true rfl⟩ hl.1 rfl (Nat.le_of_ble_eq_true rfl) dX8_addPattern_6 ⟨Nat.zero_le _, Nat.zero_le _⟩ rfl (fun H locs hW => ?_)
  refine lv_if_ne (tgt := 14) hx hb dX8_addPattern_9 (by decide) (fun c3 => ?_) (fun c3 => ?_)
  · have h := ite_f c3 h
    refine lv_aload_n hx hb dX8_addPattern_14 rfl (lv_at hl 0 rfl) ?_
    refine fg_X8_15 (v := .ref (a_o 1)) hx hb hts hown hK hW 0 rfl rfl dX8_addPattern_15 ?_
    refine lv_aload_n hx hb dX8_addPattern_18 rfl (lv_at hl 0 rfl) ?_
    refine fg_X8_9 (v := .int (x_o 0 0)) hx hb hts hown hK hW 0 rfl rfl dX8_addPattern_19 ?_
    refine lv_iconst (v := 3) hx hb dX8_addPattern_22 (by decide) ?_
    refine lv_imul hx hb dX8_addPattern_23 ?_
    refine lv_iload_n hx hb dX8_addPattern_24 rfl (lv_at hl 1 rfl) ?_
    obtain ⟨g4, h⟩ := grd_s h
    refine g_iast (ws9 := oc_X8 T a_o (upo x_o 1 ((x_o 0 0) * 3).toNatClampNeg p1) ++ Z) hx hb hK hW 1 rfl g4 sa_X8_1 dX8_addPattern_25 (fun H locs hW => ?_)
    obtain ⟨x_o5, ex_o5⟩ : ∃ y : Ob, y = upo x_o 1 ((x_o 0 0) * 3).toNatClampNeg p1 := ⟨_, rfl⟩
    rw [← ex_o5] at hW
    have h := lb_at ex_o5 h
    refine lv_aload_n hx hb dX8_addPattern_26 rfl (lv_at hl 0 rfl) ?_
    refine fg_X8_15 (v := .ref (a_o 1)) hx hb hts hown hK hW 0 rfl rfl dX8_addPattern_27 ?_
    refine lv_aload_n hx hb dX8_addPattern_30 rfl (lv_at hl 0 rfl) ?_
    refine fg_X8_9 (v := .int (x_o5 0 0)) hx hb hts hown hK hW 0 rfl rfl dX8_addPattern_31 ?_
    refine lv_iconst (v := 3) hx hb dX8_addPattern_34 (by decide) ?_
    refine lv_imul hx hb dX8_addPattern_35 ?_
    refine lv_iconst (v := 1) hx hb dX8_addPattern_36 (by decide) ?_
    refine lv_iadd hx hb dX8_addPattern_37 ?_
    refine lv_iload_n hx hb dX8_addPattern_38 rfl (lv_at hl 2 rfl) ?_
    obtain ⟨g6, h⟩ := grd_s h
    refine g_iast (ws9 := oc_X8 T a_o (upo x_o5 1 (((x_o5 0 0) * 3) + 1).toNatClampNeg p2) ++ Z) hx hb hK hW 1 rfl g6 sa_X8_1 dX8_addPattern_39 (fun H locs hW => ?_)
    obtain ⟨x_o7, ex_o7⟩ : ∃ y : Ob, y = upo x_o5 1 (((x_o5 0 0) * 3) + 1).toNatClampNeg p2 := ⟨_, rfl⟩
    rw [← ex_o7] at hW
    have h := lb_at ex_o7 h
    refine lv_aload_n hx hb dX8_addPattern_40 rfl (lv_at hl 0 rfl) ?_
    refine fg_X8_15 (v := .ref (a_o 1)) hx hb hts hown hK hW 0 rfl rfl dX8_addPattern_41 ?_
    refine lv_aload_n hx hb dX8_addPattern_44 rfl (lv_at hl 0 rfl) ?_
    refine fg_X8_9 (v := .int (x_o7 0 0)) hx hb hts hown hK hW 0 rfl rfl dX8_addPattern_45 ?_
    refine lv_iconst (v := 3) hx hb dX8_addPattern_48 (by decide) ?_
    refine lv_imul hx hb dX8_addPattern_49 ?_
    refine lv_iconst (v := 2) hx hb dX8_addPattern_50 (by decide) ?_
    refine lv_iadd hx hb dX8_addPattern_51 ?_
    refine lv_iload_n hx hb dX8_addPattern_52 rfl (lv_at hl 3 rfl) ?_
    obtain ⟨g8, h⟩ := grd_s h
    refine g_iast (ws9 := oc_X8 T a_o (upo x_o7 1 (((x_o7 0 0) * 3) + 2).toNatClampNeg p3) ++ Z) hx hb hK hW 1 rfl g8 sa_X8_1 dX8_addPattern_53 (fun H locs hW => ?_)
    obtain ⟨x_o9, ex_o9⟩ : ∃ y : Ob, y = upo x_o7 1 (((x_o7 0 0) * 3) + 2).toNatClampNeg p3 := ⟨_, rfl⟩
    rw [← ex_o9] at hW
    have h := lb_at ex_o9 h
    refine lv_aload_n hx hb dX8_addPattern_54 rfl (lv_at hl 0 rfl) ?_
    refine fg_X8_19 (v := .ref (a_o 2)) hx hb hts hown hK hW 0 rfl rfl dX8_addPattern_55 ?_
    refine lv_aload_n hx hb dX8_addPattern_58 rfl (lv_at hl 0 rfl) ?_
    refine fg_X8_9 (v := .int (x_o9 0 0)) hx hb hts hown hK hW 0 rfl rfl dX8_addPattern_59 ?_
    refine lv_iload hx hb dX8_addPattern_62 (lv_at hl 4 rfl) ?_
    obtain ⟨g10, h⟩ := grd_s h
    refine g_iast (ws9 := oc_X8 T a_o (upo x_o9 2 (x_o9 0 0).toNatClampNeg p4) ++ Z) hx hb hK hW 2 rfl g10 sa_X8_2 dX8_addPattern_64 (fun H locs hW => ?_)
    obtain ⟨x_o11, ex_o11⟩ : ∃ y : Ob, y = upo x_o9 2 (x_o9 0 0).toNatClampNeg p4 := ⟨_, rfl⟩
    rw [← ex_o11] at hW
    have h := lb_at ex_o11 h
    refine lv_aload_n hx hb dX8_addPattern_65 rfl (lv_at hl 0 rfl) ?_
    refine lv_dup hx hb dX8_addPattern_66 rfl ?_
    refine fg_X8_9 (v := .int (x_o11 0 0)) hx hb hts hown hK hW 0 rfl rfl dX8_addPattern_67 ?_
    refine lv_iconst (v := 1) hx hb dX8_addPattern_70 (by decide) ?_
    refine lv_iadd hx hb dX8_addPattern_71 ?_
    refine fp_X8_9 (ws9 := oc_X8 T a_o (upo x_o11 0 0 ((x_o11 0 0) + 1)) ++ Z) hx hb hts hown hK hW 0 rfl (Nat.le_of_ble_eq_true rfl) sf_X8_0 dX8_addPattern_72 (fun H locs hW => ?_)
    obtain ⟨x_o12, ex_o12⟩ : ∃ y : Ob, y = upo x_o11 0 0 ((x_o11 0 0) + 1) := ⟨_, rfl⟩
    rw [← ex_o12] at hW
    have h := lb_at ex_o12 h
    refine lv_aload_n hx hb dX8_addPattern_75 rfl (lv_at hl 0 rfl) ?_
    refine fg_X8_9 (v := .int (x_o12 0 0)) hx hb hts hown hK hW 0 rfl rfl dX8_addPattern_76 ?_
    refine lv_iconst (v := 1) hx hb dX8_addPattern_79 (by decide) ?_
    refine lv_isub hx hb dX8_addPattern_80 ?_
    obtain ⟨rfl, rfl⟩ := ret2 h
    rw [hQ]
    exact g_reti hx hb hr hlk hW dX8_addPattern_81
  · have h := ite_t c3 h
    refine lv_iconst (v := (-1)) hx hb dX8_addPattern_12 (by decide) ?_
    obtain ⟨rfl, rfl⟩ := ret2 h
    rw [hQ]
    exact g_reti hx hb hr hlk hW dX8_addPattern_13
set_option maxHeartbeats 4000000 in
set_option maxRecDepth 100000 in
theorem c_X8_switchAltogether (l : Launch) (D : va_G) (T : Nat → ClassId) (A : Nat → Prop) (a_o : Nat → Nat) (Z : va_W)  (x_o : Ob) (p1 : Int32) (r : Int32) (x_o9 : Ob) (h : f_X8_switchAltogether x_o p1 = some (r, x_o9)) : Met l yX8_switchAltogether (Cond.code yX8_switchAltogether cX8_switchAltogether 2 (some .boolean) :: wsL_law) (rmd 2) (Pg D T A (oc_X8 T a_o x_o ++ Z) [.ref (a_o 0), .int p1]) (Qgi D A (oc_X8 T a_o x_o9 ++ Z) r) 0 0 A := by
  refine Met.ofW (cc := cX8_switchAltogether) (maxL := 2) (ret := (some .boolean)) (by decide +kernel) rfl ?_
  intro p e s m args below meth c s₁ B hml hv
  obtain ⟨ha, hP, hK, hD, hN⟩ := hv
  have hx := B.exec
  have hb := B.bytes
  have hr := B.returns
  have hlk := B.notSynchronized
  have hts : ∀ w ∈ wsL_law, w.before args s = true := fun w hw => atoms_spec B.pre w (List.mem_cons_of_mem _ hw)
  have hown : s.vm.findClass RX8 = some m.cls := findClass_of_methodNamed B.named
  have hW : Wd D A s.heap (oc_X8 T a_o x_o ++ Z) s.heap [] := ⟨hP, hD, va_S.rf⟩
  have hl := lv_entry [.ref (a_o 0), .int p1] (n := 2) (Nat.le_of_ble_eq_true rfl)
  refine W.eq (en_eq ha) ?_
  generalize (lg_sl [.ref (a_o 0), .int p1] ++ List.replicate (2 - (lg_sl [.ref (a_o 0), .int p1]).length) Slot.unset).toArray = ls at hl ⊢
  have hl : lv_has ls 2 [(0, .ref (a_o 0)), (1, .int p1)] := hl
  clear hP hD B ha
  obtain ⟨Q, hQ⟩ : ∃ Q, Q = MQ below (Qgi D A (oc_X8 T a_o x_o9 ++ Z) r) args s 0 0 A := ⟨_, rfl⟩
  rw [← hQ]
  change W p l e (rmd 2) s m args below meth c s.heap [] 0 0 Q (F0 m 0 ls [])
  rw [f_X8_switchAltogether] at h
  suffices hm : ∀ (H : Heap) (locs : List Loc), Wd D A s.heap (oc_X8 T a_o x_o ++ Z) H locs → W p l e (rmd 2) s m args below meth c H locs 0 0 Q (F0 m 0 ls []) from hm _ _ hW
  intro H locs hW
  refine lv_aload_n hx hb dX8_switchAltogether_0 rfl (lv_at hl 0 rfl) ?_
  refine lv_iload_n hx hb dX8_switchAltogether_1 rfl (lv_at hl 1 rfl) ?_
  obtain ⟨r1, q2, h⟩ := bnd1_s h
  refine cl_X8_33 hx hb hml hown hts hK hN hW (c_X8_hasPattern l D T A a_o (Z) x_o p1 r1 q2) ⟨Nat.le_of_ble_eq_true rfl, Nat.le_of_ble_eq_true rfl⟩ hl.1 rfl (Nat.le_of_ble_eq_true rfl) dX8_switchAltogether_2 ⟨Nat.zero_le _, Nat.zero_le _⟩ rfl (fun H locs hW => ?_)
  refine lv_if_ne (tgt := 10) hx hb dX8_switchAltogether_5 (by decide) (fun c3 => ?_) (fun c3 => ?_)
  · have h := ite_f c3 h
    refine lv_aload_n hx hb dX8_switchAltogether_10 rfl (lv_at hl 0 rfl) ?_
    refine fg_X8_22 (v := .ref (a_o 3)) hx hb hts hown hK hW 0 rfl rfl dX8_switchAltogether_11 ?_
    refine lv_iload_n hx hb dX8_switchAltogether_14 rfl (lv_at hl 1 rfl) ?_
    refine lv_aload_n hx hb dX8_switchAltogether_15 rfl (lv_at hl 0 rfl) ?_
    refine fg_X8_22 (v := .ref (a_o 3)) hx hb hts hown hK hW 0 rfl rfl dX8_switchAltogether_16 ?_
    refine lv_iload_n hx hb dX8_switchAltogether_19 rfl (lv_at hl 1 rfl) ?_
    obtain ⟨g4, h⟩ := grd_s h
    refine g_zald hx hb hK hW 3 rfl g4 dX8_switchAltogether_20 ?_
    refine lv_if_ne (tgt := 28) hx hb dX8_switchAltogether_21 (by decide) (fun c5 => ?_) (fun c5 => ?_)
    · have h := ite_f c5 h
      refine lv_iconst (v := 0) hx hb dX8_switchAltogether_28 (by decide) ?_
      obtain ⟨g6, h⟩ := grd_s h
      refine g_zast (ws9 := oc_X8 T a_o (upo x_o 3 p1.toNatClampNeg 0) ++ Z) hx hb hK hW 3 rfl g6 (by decide) sa_X8_3 dX8_switchAltogether_29 (fun H locs hW => ?_)
      obtain ⟨x_o7, ex_o7⟩ : ∃ y : Ob, y = upo x_o 3 p1.toNatClampNeg 0 := ⟨_, rfl⟩
      rw [← ex_o7] at hW
      have h := lb_at ex_o7 h
      refine lv_aload_n hx hb dX8_switchAltogether_30 rfl (lv_at hl 0 rfl) ?_
      refine fg_X8_22 (v := .ref (a_o 3)) hx hb hts hown hK hW 0 rfl rfl dX8_switchAltogether_31 ?_
      refine lv_iload_n hx hb dX8_switchAltogether_34 rfl (lv_at hl 1 rfl) ?_
      obtain ⟨g8, h⟩ := grd_s h
      refine g_zald hx hb hK hW 3 rfl g8 dX8_switchAltogether_35 ?_
      obtain ⟨g9, h⟩ := grd_s h
      obtain ⟨rfl, rfl⟩ := ret2 h
      rw [hQ]
      exact g_retz hx hb hr hlk hW g9 dX8_switchAltogether_36
    · have h := ite_t c5 h
      refine lv_iconst (v := 1) hx hb dX8_switchAltogether_24 (by decide) ?_
      refine lv_goto (tgt := 29) hx hb dX8_switchAltogether_25 (by decide) ?_
      obtain ⟨g10, h⟩ := grd_s h
      refine g_zast (ws9 := oc_X8 T a_o (upo x_o 3 p1.toNatClampNeg 1) ++ Z) hx hb hK hW 3 rfl g10 (by decide) sa_X8_3 dX8_switchAltogether_29 (fun H locs hW => ?_)
      obtain ⟨x_o11, ex_o11⟩ : ∃ y : Ob, y = upo x_o 3 p1.toNatClampNeg 1 := ⟨_, rfl⟩
      rw [← ex_o11] at hW
      have h := lb_at ex_o11 h
      refine lv_aload_n hx hb dX8_switchAltogether_30 rfl (lv_at hl 0 rfl) ?_
      refine fg_X8_22 (v := .ref (a_o 3)) hx hb hts hown hK hW 0 rfl rfl dX8_switchAltogether_31 ?_
      refine lv_iload_n hx hb dX8_switchAltogether_34 rfl (lv_at hl 1 rfl) ?_
      obtain ⟨g12, h⟩ := grd_s h
      refine g_zald hx hb hK hW 3 rfl g12 dX8_switchAltogether_35 ?_
      obtain ⟨g13, h⟩ := grd_s h
      obtain ⟨rfl, rfl⟩ := ret2 h
      rw [hQ]
      exact g_retz hx hb hr hlk hW g13 dX8_switchAltogether_36
  · have h := ite_t c3 h
    refine lv_iconst (v := 0) hx hb dX8_switchAltogether_8 (by decide) ?_
    obtain ⟨rfl, rfl⟩ := ret2 h
    rw [hQ]
    exact g_retz hx hb hr hlk hW (by decide) dX8_switchAltogether_9
set_option maxHeartbeats 4000000 in
set_option maxRecDepth 100000 in
theorem c_X8_switchFor (l : Launch) (D : va_G) (T : Nat → ClassId) (A : Nat → Prop) (a_o : Nat → Nat) (Z : va_W)  (x_o : Ob) (p1 : Int32) (p2 : Int32) (r : Int32) (x_o9 : Ob) (h : f_X8_switchFor x_o p1 p2 = some (r, x_o9)) : Met l yX8_switchFor (Cond.code yX8_switchFor cX8_switchFor 4 (some .boolean) :: wsL_law) (rmd 2) (Pg D T A (oc_X8 T a_o x_o ++ Z) [.ref (a_o 0), .int p1, .int p2]) (Qgi D A (oc_X8 T a_o x_o9 ++ Z) r) 0 0 A := by
  refine Met.ofW (cc := cX8_switchFor) (maxL := 4) (ret := (some .boolean)) (by decide +kernel) rfl ?_
  intro p e s m args below meth c s₁ B hml hv
  obtain ⟨ha, hP, hK, hD, hN⟩ := hv
  have hx := B.exec
  have hb := B.bytes
  have hr := B.returns
  have hlk := B.notSynchronized
  have hts : ∀ w ∈ wsL_law, w.before args s = true := fun w hw => atoms_spec B.pre w (List.mem_cons_of_mem _ hw)
  have hown : s.vm.findClass RX8 = some m.cls := findClass_of_methodNamed B.named
  have hW : Wd D A s.heap (oc_X8 T a_o x_o ++ Z) s.heap [] := ⟨hP, hD, va_S.rf⟩
  have hl := lv_entry [.ref (a_o 0), .int p1, .int p2] (n := 4) (Nat.le_of_ble_eq_true rfl)
  refine W.eq (en_eq ha) ?_
  generalize (lg_sl [.ref (a_o 0), .int p1, .int p2] ++ List.replicate (4 - (lg_sl [.ref (a_o 0), .int p1, .int p2]).length) Slot.unset).toArray = ls at hl ⊢
  have hl : lv_has ls 4 [(0, .ref (a_o 0)), (1, .int p1), (2, .int p2)] := hl
  clear hP hD B ha
  obtain ⟨Q, hQ⟩ : ∃ Q, Q = MQ below (Qgi D A (oc_X8 T a_o x_o9 ++ Z) r) args s 0 0 A := ⟨_, rfl⟩
  rw [← hQ]
  change W p l e (rmd 2) s m args below meth c s.heap [] 0 0 Q (F0 m 0 ls [])
  rw [f_X8_switchFor] at h
  suffices hm : ∀ (H : Heap) (locs : List Loc), Wd D A s.heap (oc_X8 T a_o x_o ++ Z) H locs → W p l e (rmd 2) s m args below meth c H locs 0 0 Q (F0 m 0 ls []) from hm _ _ hW
  intro H locs hW
  refine lv_aload_n hx hb dX8_switchFor_0 rfl (lv_at hl 0 rfl) ?_
  refine lv_iload_n hx hb dX8_switchFor_1 rfl (lv_at hl 1 rfl) ?_
  obtain ⟨r1, q2, h⟩ := bnd1_s h
  refine cl_X8_33 hx hb hml hown hts hK hN hW (c_X8_hasPattern l D T A a_o (Z) x_o p1 r1 q2) ⟨Nat.le_of_ble_eq_true rfl, Nat.le_of_ble_eq_true rfl⟩ hl.1 rfl (Nat.le_of_ble_eq_true rfl) dX8_switchFor_2 ⟨Nat.zero_le _, Nat.zero_le _⟩ rfl (fun H locs hW => ?_)
  refine lv_if_eq (tgt := 17) hx hb dX8_switchFor_5 (by decide) (fun c3 => ?_) (fun c3 => ?_)
  · have h := ite_t c3 h
    refine lv_iconst (v := 0) hx hb dX8_switchFor_17 (by decide) ?_
    obtain ⟨rfl, rfl⟩ := ret2 h
    rw [hQ]
    exact g_retz hx hb hr hlk hW (by decide) dX8_switchFor_18
  · have h := ite_f c3 h
    refine lv_iload_n hx hb dX8_switchFor_8 rfl (lv_at hl 2 rfl) ?_
    refine lv_bipush (v := 40) hx hb dX8_switchFor_9 (by decide) ?_
    obtain ⟨r4, q5, h⟩ := bnd1_s h
    refine cl_X8_29 hx hb hml hown hts hK hN hW (c_X10_isBelow l D T A (oc_X8 T a_o x_o ++ Z) p2 40 r4 q5) ⟨Nat.le_of_ble_eq_true rfl, Nat.le_of_ble_eq_true rfl⟩ hl.1 rfl (Nat.le_of_ble_eq_true rfl) dX8_switchFor_11 ⟨Nat.zero_le _, Nat.zero_le _⟩ rfl (fun H locs hW => ?_)
    refine lv_if_ne (tgt := 19) hx hb dX8_switchFor_14 (by decide) (fun c6 => ?_) (fun c6 => ?_)
    · have h := ite_f c6 h
      refine lv_iload_n hx hb dX8_switchFor_19 rfl (lv_at hl 1 rfl) ?_
      refine lv_bipush (v := 40) hx hb dX8_switchFor_20 (by decide) ?_
      refine lv_imul hx hb dX8_switchFor_22 ?_
      refine lv_iload_n hx hb dX8_switchFor_23 rfl (lv_at hl 2 rfl) ?_
      refine lv_iadd hx hb dX8_switchFor_24 ?_
      refine lv_topi (fun w3_7 ew3_7 => ?_)
      have h := lb_at ew3_7 h
      refine lv_istore_n (lv' := [(3, .int w3_7), (0, .ref (a_o 0)), (1, .int p1), (2, .int p2)]) hx hb dX8_switchFor_25 rfl hl (by decide) rfl (fun ls hl => ?_)
      refine lv_aload_n hx hb dX8_switchFor_26 rfl (lv_at hl 1 rfl) ?_
      refine fg_X8_26 (v := .ref (a_o 4)) hx hb hts hown hK hW 0 rfl rfl dX8_switchFor_27 ?_
      refine lv_iload_n hx hb dX8_switchFor_30 rfl (lv_at hl 0 rfl) ?_
      refine lv_aload_n hx hb dX8_switchFor_31 rfl (lv_at hl 1 rfl) ?_
      refine fg_X8_26 (v := .ref (a_o 4)) hx hb hts hown hK hW 0 rfl rfl dX8_switchFor_32 ?_
      refine lv_iload_n hx hb dX8_switchFor_35 rfl (lv_at hl 0 rfl) ?_
      obtain ⟨g8, h⟩ := grd_s h
      refine g_zald hx hb hK hW 4 rfl g8 dX8_switchFor_36 ?_
      refine lv_if_ne (tgt := 44) hx hb dX8_switchFor_37 (by decide) (fun c9 => ?_) (fun c9 => ?_)
      · have h := ite_f c9 h
        refine lv_iconst (v := 0) hx hb dX8_switchFor_44 (by decide) ?_
        obtain ⟨g10, h⟩ := grd_s h
        refine g_zast (ws9 := oc_X8 T a_o (upo x_o 4 w3_7.toNatClampNeg 0) ++ Z) hx hb hK hW 4 rfl g10 (by decide) sa_X8_4 dX8_switchFor_45 (fun H locs hW => ?_)
        obtain ⟨x_o11, ex_o11⟩ : ∃ y : Ob, y = upo x_o 4 w3_7.toNatClampNeg 0 := ⟨_, rfl⟩
        rw [← ex_o11] at hW
        have h := lb_at ex_o11 h
        refine lv_aload_n hx hb dX8_switchFor_46 rfl (lv_at hl 1 rfl) ?_
        refine fg_X8_26 (v := .ref (a_o 4)) hx hb hts hown hK hW 0 rfl rfl dX8_switchFor_47 ?_
        refine lv_iload_n hx hb dX8_switchFor_50 rfl (lv_at hl 0 rfl) ?_
        obtain ⟨g12, h⟩ := grd_s h
        refine g_zald hx hb hK hW 4 rfl g12 dX8_switchFor_51 ?_
        obtain ⟨g13, h⟩ := grd_s h
        obtain ⟨rfl, rfl⟩ := ret2 h
        rw [hQ]
        exact g_retz hx hb hr hlk hW g13 dX8_switchFor_52
      · have h := ite_t c9 h
        refine lv_iconst (v := 1) hx hb dX8_switchFor_40 (by decide) ?_
        refine lv_goto (tgt := 45) hx hb dX8_switchFor_41 (by decide) ?_
        obtain ⟨g14, h⟩ := grd_s h
        refine g_zast (ws9 := oc_X8 T a_o (upo x_o 4 w3_7.toNatClampNeg 1) ++ Z) hx hb hK hW 4 rfl g14 (by decide) sa_X8_4 dX8_switchFor_45 (fun H locs hW => ?_)
        obtain ⟨x_o15, ex_o15⟩ : ∃ y : Ob, y = upo x_o 4 w3_7.toNatClampNeg 1 := ⟨_, rfl⟩
        rw [← ex_o15] at hW
        have h := lb_at ex_o15 h
        refine lv_aload_n hx hb dX8_switchFor_46 rfl (lv_at hl 1 rfl) ?_
        refine fg_X8_26 (v := .ref (a_o 4)) hx hb hts hown hK hW 0 rfl rfl dX8_switchFor_47 ?_
        refine lv_iload_n hx hb dX8_switchFor_50 rfl (lv_at hl 0 rfl) ?_
        obtain ⟨g16, h⟩ := grd_s h
        refine g_zald hx hb hK hW 4 rfl g16 dX8_switchFor_51 ?_
        obtain ⟨g17, h⟩ := grd_s h
        obtain ⟨rfl, rfl⟩ := ret2 h
        rw [hQ]
        exact g_retz hx hb hr hlk hW g17 dX8_switchFor_52
    · have h := ite_t c6 h
      refine lv_iconst (v := 0) hx hb dX8_switchFor_17 (by decide) ?_
      obtain ⟨rfl, rfl⟩ := ret2 h
      rw [hQ]
      exact g_retz hx hb hr hlk hW (by decide) dX8_switchFor_18
set_option maxHeartbeats 4000000 in
set_option maxRecDepth 100000 in
theorem c_X8_isOff (l : Launch) (D : va_G) (T : Nat → ClassId) (A : Nat → Prop) (a_o : Nat → Nat) (Z : va_W)  (x_o : Ob) (p1 : Int32) (p2 : Int32) (r : Int32) (h : f_X8_isOff x_o p1 p2 = some r) : Met l yX8_isOff (Cond.code yX8_isOff cX8_isOff 3 (some .boolean) :: wsL_law) (rmd 2) (Pg D T A (oc_X8 T a_o x_o ++ Z) [.ref (a_o 0), .int p1, .int p2]) (Qgi D A (oc_X8 T a_o x_o ++ Z) r) 0 0 A := by
  refine Met.ofW (cc := cX8_isOff) (maxL := 3) (ret := (some .boolean)) (by decide +kernel) rfl ?_
  intro p e s m args below meth c s₁ B hml hv
  obtain ⟨ha, hP, hK, hD, hN⟩ := hv
  have hx := B.exec
  have hb := B.bytes
  have hr := B.returns
  have hlk := B.notSynchronized
  have hts : ∀ w ∈ wsL_law, w.before args s = true := fun w hw => atoms_spec B.pre w (List.mem_cons_of_mem _ hw)
  have hown : s.vm.findClass RX8 = some m.cls := findClass_of_methodNamed B.named
  have hW : Wd D A s.heap (oc_X8 T a_o x_o ++ Z) s.heap [] := ⟨hP, hD, va_S.rf⟩
  have hl := lv_entry [.ref (a_o 0), .int p1, .int p2] (n := 3) (Nat.le_of_ble_eq_true rfl)
  refine W.eq (en_eq ha) ?_
  generalize (lg_sl [.ref (a_o 0), .int p1, .int p2] ++ List.replicate (3 - (lg_sl [.ref (a_o 0), .int p1, .int p2]).length) Slot.unset).toArray = ls at hl ⊢
  have hl : lv_has ls 3 [(0, .ref (a_o 0)), (1, .int p1), (2, .int p2)] := hl
  clear hP hD B ha
  obtain ⟨Q, hQ⟩ : ∃ Q, Q = MQ below (Qgi D A (oc_X8 T a_o x_o ++ Z) r) args s 0 0 A := ⟨_, rfl⟩
  rw [← hQ]
  change W p l e (rmd 2) s m args below meth c s.heap [] 0 0 Q (F0 m 0 ls [])
  rw [f_X8_isOff] at h
  suffices hm : ∀ (H : Heap) (locs : List Loc), Wd D A s.heap (oc_X8 T a_o x_o ++ Z) H locs → W p l e (rmd 2) s m args below meth c H locs 0 0 Q (F0 m 0 ls []) from hm _ _ hW
  intro H locs hW
  refine lv_aload_n hx hb dX8_isOff_0 rfl (lv_at hl 0 rfl) ?_
  refine lv_iload_n hx hb dX8_isOff_1 rfl (lv_at hl 1 rfl) ?_
  obtain ⟨r1, q2, h⟩ := bnd1_s h
  refine cl_X8_33 hx hb hml hown hts hK hN hW (c_X8_hasPattern l D T A a_o (Z) x_o p1 r1 q2) ⟨Nat.le_of_ble_eq_true rfl, Nat.le_of_ble_eq_true rfl⟩ hl.1 rfl (Nat.le_of_ble_eq_true rfl) dX8_isOff_2 ⟨Nat.zero_le _, Nat.zero_le _⟩ rfl (fun H locs hW => ?_)
  refine lv_if_eq (tgt := 17) hx hb dX8_isOff_5 (by decide) (fun c3 => ?_) (fun c3 => ?_)
  · have h := ite_t c3 h
    refine lv_iconst (v := 1) hx hb dX8_isOff_17 (by decide) ?_
    obtain rfl := ret1 h
    rw [hQ]
    exact g_retz hx hb hr hlk hW (by decide) dX8_isOff_18
  · have h := ite_f c3 h
    refine lv_iload_n hx hb dX8_isOff_8 rfl (lv_at hl 2 rfl) ?_
    refine lv_bipush (v := 40) hx hb dX8_isOff_9 (by decide) ?_
    obtain ⟨r4, q5, h⟩ := bnd1_s h
    refine cl_X8_29 hx hb hml hown hts hK hN hW (c_X10_isBelow l D T A (oc_X8 T a_o x_o ++ Z) p2 40 r4 q5) ⟨Nat.le_of_ble_eq_true rfl, Nat.le_of_ble_eq_true rfl⟩ hl.1 rfl (Nat.le_of_ble_eq_true rfl) dX8_isOff_11 ⟨Nat.zero_le _, Nat.zero_le _⟩ rfl (fun H locs hW => ?_)
    refine lv_if_ne (tgt := 19) hx hb dX8_isOff_14 (by decide) (fun c6 => ?_) (fun c6 => ?_)
    · have h := ite_f c6 h
      refine lv_aload_n hx hb dX8_isOff_19 rfl (lv_at hl 0 rfl) ?_
      refine fg_X8_22 (v := .ref (a_o 3)) hx hb hts hown hK hW 0 rfl rfl dX8_isOff_20 ?_
      refine lv_iload_n hx hb dX8_isOff_23 rfl (lv_at hl 1 rfl) ?_
      obtain ⟨g7, h⟩ := grd_s h
      refine g_zald hx hb hK hW 3 rfl g7 dX8_isOff_24 ?_
      refine lv_if_ne (tgt := 42) hx hb dX8_isOff_25 (by decide) (fun c8 => ?_) (fun c8 => ?_)
      · have h := ite_f c8 h
        refine lv_iconst (v := 1) hx hb dX8_isOff_42 (by decide) ?_
        refine lv_goto (tgt := 47) hx hb dX8_isOff_43 (by decide) ?_
        obtain rfl := ret1 h
        rw [hQ]
        exact g_retz hx hb hr hlk hW (by decide) dX8_isOff_47
      · have h := ite_t c8 h
        refine lv_aload_n hx hb dX8_isOff_28 rfl (lv_at hl 0 rfl) ?_
        refine fg_X8_26 (v := .ref (a_o 4)) hx hb hts hown hK hW 0 rfl rfl dX8_isOff_29 ?_
        refine lv_iload_n hx hb dX8_isOff_32 rfl (lv_at hl 1 rfl) ?_
        refine lv_bipush (v := 40) hx hb dX8_isOff_33 (by decide) ?_
        refine lv_imul hx hb dX8_isOff_35 ?_
        refine lv_iload_n hx hb dX8_isOff_36 rfl (lv_at hl 2 rfl) ?_
        refine lv_iadd hx hb dX8_isOff_37 ?_
        obtain ⟨g9, h⟩ := grd_s h
        refine g_zald hx hb hK hW 4 rfl g9 dX8_isOff_38 ?_
        refine lv_if_eq (tgt := 46) hx hb dX8_isOff_39 (by decide) (fun c10 => ?_) (fun c10 => ?_)
        · have h := ite_t c10 h
          refine lv_iconst (v := 0) hx hb dX8_isOff_46 (by decide) ?_
          obtain rfl := ret1 h
          rw [hQ]
          exact g_retz hx hb hr hlk hW (by decide) dX8_isOff_47
        · have h := ite_f c10 h
          refine lv_iconst (v := 1) hx hb dX8_isOff_42 (by decide) ?_
          refine lv_goto (tgt := 47) hx hb dX8_isOff_43 (by decide) ?_
          obtain rfl := ret1 h
          rw [hQ]
          exact g_retz hx hb hr hlk hW (by decide) dX8_isOff_47
    · have h := ite_t c6 h
      refine lv_iconst (v := 1) hx hb dX8_isOff_17 (by decide) ?_
      obtain rfl := ret1 h
      rw [hQ]
      exact g_retz hx hb hr hlk hW (by decide) dX8_isOff_18
set_option maxHeartbeats 4000000 in
set_option maxRecDepth 100000 in
theorem c_X8_fits (l : Launch) (D : va_G) (T : Nat → ClassId) (A : Nat → Prop) (a_o : Nat → Nat) (a_q1 : Nat → Nat) (Z : va_W)  (x_o : Ob) (x_q1 : Ob) (p2 : Int32) (p3 : Int32) (r : Int32) (h : f_X8_fits x_o x_q1 p2 p3 = some r) : Met l yX8_fits (Cond.code yX8_fits cX8_fits 6 (some .boolean) :: wsL_law) (rmd 3) (Pg D T A (oc_X8 T a_o x_o ++ (oc_X6 T a_q1 x_q1 ++ Z)) [.ref (a_o 0), .ref (a_q1 0), .int p2, .int p3]) (Qgi D A (oc_X8 T a_o x_o ++ (oc_X6 T a_q1 x_q1 ++ Z)) r) 0 0 A := by
  refine Met.ofW (cc := cX8_fits) (maxL := 6) (ret := (some .boolean)) (by decide +kernel) rfl ?_
  intro p e s m args below meth c s₁ B hml hv
  obtain ⟨ha, hP, hK, hD, hN⟩ := hv
  have hx := B.exec
  have hb := B.bytes
  have hr := B.returns
  have hlk := B.notSynchronized
  have hts : ∀ w ∈ wsL_law, w.before args s = true := fun w hw => atoms_spec B.pre w (List.mem_cons_of_mem _ hw)
  have hown : s.vm.findClass RX8 = some m.cls := findClass_of_methodNamed B.named
  have hW : Wd D A s.heap (oc_X8 T a_o x_o ++ (oc_X6 T a_q1 x_q1 ++ Z)) s.heap [] := ⟨hP, hD, va_S.rf⟩
  have hl := lv_entry [.ref (a_o 0), .ref (a_q1 0), .int p2, .int p3] (n := 6) (Nat.le_of_ble_eq_true rfl)
  refine W.eq (en_eq ha) ?_
  generalize (lg_sl [.ref (a_o 0), .ref (a_q1 0), .int p2, .int p3] ++ List.replicate (6 - (lg_sl [.ref (a_o 0), .ref (a_q1 0), .int p2, .int p3]).length) Slot.unset).toArray = ls at hl ⊢
  have hl : lv_has ls 6 [(0, .ref (a_o 0)), (1, .ref (a_q1 0)), (2, .int p2), (3, .int p3)] := hl
  clear hP hD B ha
  obtain ⟨Q, hQ⟩ : ∃ Q, Q = MQ below (Qgi D A (oc_X8 T a_o x_o ++ (oc_X6 T a_q1 x_q1 ++ Z)) r) args s 0 0 A := ⟨_, rfl⟩
  rw [← hQ]
  change W p l e (rmd 3) s m args below meth c s.heap [] 0 0 Q (F0 m 0 ls [])
  have L18 : ∀ (n : Nat) (v2_18 : Int32) (v3_18 : Int32) (v4_18 : Int32) (H : Heap) (locs : List Loc) (ls : Array Slot) (code : Nat) (o4_18r : Int32), Wd D A s.heap (oc_X8 T a_o x_o ++ (oc_X6 T a_q1 x_q1 ++ Z)) H locs → lv_has ls 6 [(0, .ref (a_o 0)), (1, .ref (a_q1 0)), (2, .int v2_18), (3, .int v3_18), (4, .int v4_18)] → f_X8_fits_L18 n x_o x_q1 v2_18 v3_18 v4_18 = some (code, o4_18r) → (code = 1 → ∀ (H : Heap) (locs : List Loc) (ls : Array Slot), Wd D A s.heap (oc_X8 T a_o x_o ++ (oc_X6 T a_q1 x_q1 ++ Z)) H locs → lv_has ls 6 [] → W p l e (rmd 3) s m args below meth c H locs 0 0 Q (F0 m 64 ls [])) → (code = 2 → ∀ (H : Heap) (locs : List Loc) (ls : Array Slot), Wd D A s.heap (oc_X8 T a_o x_o ++ (oc_X6 T a_q1 x_q1 ++ Z)) H locs → lv_has ls 6 [] → W p l e (rmd 3) s m args below meth c H locs 0 0 Q (F0 m 56 ls [])) → W p l e (rmd 3) s m args below meth c H locs 0 0 Q (F0 m 18 ls []) := by
    intro n
    induction n with
    | zero =>
      intro v2_18 v3_18 v4_18 H locs ls code o4_18r hW hl h k1 k2
      rw [f_X8_fits_L18] at h
      cases h
    | succ n ih =>
      intro v2_18 v3_18 v4_18 H locs ls code o4_18r hW hl h k1 k2
      rw [f_X8_fits_L18] at h
      refine lv_iload hx hb dX8_fits_18 (lv_at hl 4 rfl) ?_
      refine lv_iconst (v := 3) hx hb dX8_fits_20 (by decide) ?_
      refine lv_icmp_ge (tgt := 64) hx hb dX8_fits_21 (by decide) (fun c6 => ?_) (fun c6 => ?_)
      · have h := ite_t c6 h
        obtain ⟨rfl, rfl⟩ := ret2 h
        exact k1 rfl H locs ls hW (lv_sub hl [] rfl)
      · have h := ite_f c6 h
        refine lv_aload_n hx hb dX8_fits_24 rfl (lv_at hl 0 rfl) ?_
        refine fg_X8_15 (v := .ref (a_o 1)) hx hb hts hown hK hW 0 rfl rfl dX8_fits_25 ?_
        refine lv_iload_n hx hb dX8_fits_28 rfl (lv_at hl 2 rfl) ?_
        refine lv_iconst (v := 3) hx hb dX8_fits_29 (by decide) ?_
        refine lv_imul hx hb dX8_fits_30 ?_
        refine lv_iload hx hb dX8_fits_31 (lv_at hl 4 rfl) ?_
        refine lv_iadd hx hb dX8_fits_33 ?_
        obtain ⟨g7, h⟩ := grd_s h
        refine g_iald hx hb hK hW 1 rfl g7 dX8_fits_34 ?_
        refine lv_topi (fun w5_8 ew5_8 => ?_)
        have h := lb_at ew5_8 h
        refine lv_istore (lv' := [(5, .int w5_8), (0, .ref (a_o 0)), (1, .ref (a_q1 0)), (2, .int v2_18), (3, .int v3_18), (4, .int v4_18)]) hx hb dX8_fits_35 hl (by decide) rfl (fun ls hl => ?_)
        refine lv_iload hx hb dX8_fits_37 (lv_at hl 0 rfl) ?_
        refine lv_iconst (v := (-1)) hx hb dX8_fits_39 (by decide) ?_
        refine lv_icmp_eq (tgt := 58) hx hb dX8_fits_40 (by decide) (fun c9 => ?_) (fun c9 => ?_)
        · have h := ite_t c9 h
          obtain ⟨w4_10, ew4_10⟩ : ∃ y : Int32, y = v4_18 + 1 := ⟨_, rfl⟩
          have h := lb_at ew4_10 h
          refine lv_iinc (v := w4_10) (lv' := [(4, .int w4_10), (5, .int w5_8), (0, .ref (a_o 0)), (1, .ref (a_q1 0)), (2, .int v2_18), (3, .int v3_18)]) hx hb dX8_fits_58 hl (k := 5) rfl (by rw [ew4_10]; rfl) (by decide) rfl (fun ls hl => ?_)
          refine lv_goto (tgt := 18) hx hb dX8_fits_61 (by decide) ?_
          exact ih _ _ _ H locs ls _ _ hW (lv_sub hl [2, 3, 4, 5, 0] rfl) h k1 k2
        · have h := ite_f c9 h
          refine lv_aload_n hx hb dX8_fits_43 rfl (lv_at hl 2 rfl) ?_
          refine lv_iload_n hx hb dX8_fits_44 rfl (lv_at hl 4 rfl) ?_
          refine lv_iload hx hb dX8_fits_45 (lv_at hl 5 rfl) ?_
          refine lv_iadd hx hb dX8_fits_47 ?_
          refine lv_iload hx hb dX8_fits_48 (lv_at hl 0 rfl) ?_
          have hW := hW.perm pf1
          obtain ⟨r11, q12, h⟩ := bnd1_s h
          refine cl_X8_46 hx hb hml hown hts hK hN hW (c_X6_leftOf l D T A a_q1 (oc_X8 T a_o x_o ++ Z) x_q1 (v3_18 + v4_18) w5_8 r11 q12) ⟨Nat.le_of_ble_eq_true rfl, Nat.le_of_ble_eq_true rfl⟩ hl.1 rfl (Nat.le_of_ble_eq_true rfl) dX8_fits_50 ⟨Nat.zero_le _, Nat.zero_le _⟩ rfl (fun H locs hW => ?_)
          have hW := hW.perm pf1
          refine lv_if_ne (tgt := 58) hx hb dX8_fits_53 (by decide) (fun c13 => ?_) (fun c13 => ?_)
          · have h := ite_f c13 h
            obtain ⟨w4_14, ew4_14⟩ : ∃ y : Int32, y = v4_18 + 1 := ⟨_, rfl⟩
            have h := lb_at ew4_14 h
            refine lv_iinc (v := w4_14) (lv' := [(4, .int w4_14), (5, .int w5_8), (0, .ref (a_o 0)), (1, .ref (a_q1 0)), (2, .int v2_18), (3, .int v3_18)]) hx hb dX8_fits_58 hl (k := 5) rfl (by rw [ew4_14]; rfl) (by decide) rfl (fun ls hl => ?_)
            refine lv_goto (tgt := 18) hx hb dX8_fits_61 (by decide) ?_
            exact ih _ _ _ H locs ls _ _ hW (lv_sub hl [2, 3, 4, 5, 0] rfl) h k1 k2
          · have h := ite_t c13 h
            obtain ⟨rfl, rfl⟩ := ret2 h
            exact k2 rfl H locs ls hW (lv_sub hl [] rfl)
  rw [f_X8_fits] at h
  suffices hm : ∀ (H : Heap) (locs : List Loc), Wd D A s.heap (oc_X8 T a_o x_o ++ (oc_X6 T a_q1 x_q1 ++ Z)) H locs → W p l e (rmd 3) s m args below meth c H locs 0 0 Q (F0 m 0 ls []) from hm _ _ hW
  intro H locs hW
  refine lv_aload_n hx hb dX8_fits_0 rfl (lv_at hl 0 rfl) ?_
  refine lv_iload_n hx hb dX8_fits_1 rfl (lv_at hl 2 rfl) ?_
  refine lv_aload_n hx hb dX8_fits_2 rfl (lv_at hl 1 rfl) ?_
  refine lv_iload_n hx hb dX8_fits_3 rfl (lv_at hl 3 rfl) ?_
  have hW := hW.perm pf1
  obtain ⟨r1, q2, h⟩ := bnd1_s h
  refine cl_X8_37 hx hb hml hown hts hK hN hW (c_X6_wordIn l D T A a_q1 (oc_X8 T a_o x_o ++ Z) x_q1 p3 r1 q2) ⟨Nat.le_of_ble_eq_true rfl, Nat.le_of_ble_eq_true rfl⟩ hl.1 rfl (Nat.le_of_ble_eq_true rfl) dX8_fits_4 ⟨Nat.zero_le _, Nat.zero_le _⟩ rfl (fun H locs hW => ?_)
  have hW := hW.perm pf1
  obtain ⟨r3, q4, h⟩ := bnd1_s h
  refine cl_X8_43 hx hb hml hown hts hK hN hW (c_X8_isOff l D T A a_o (oc_X6 T a_q1 x_q1 ++ Z) x_o p2 r1 r3 q4) ⟨Nat.le_of_ble_eq_true rfl, Nat.le_of_ble_eq_true rfl⟩ hl.1 rfl (Nat.le_of_ble_eq_true rfl) dX8_fits_7 ⟨Nat.zero_le _, Nat.zero_le _⟩ rfl (fun H locs hW => ?_)
  refine lv_if_eq (tgt := 15) hx hb dX8_fits_10 (by decide) (fun c5 => ?_) (fun c5 => ?_)
  · have h := ite_t c5 h
    refine lv_iconst (v := 0) hx hb dX8_fits_15 (by decide) ?_
    refine lv_istore (lv' := [(4, .int 0), (0, .ref (a_o 0)), (1, .ref (a_q1 0)), (2, .int p2), (3, .int p3)]) hx hb dX8_fits_16 hl (by decide) rfl (fun ls hl => ?_)
    obtain ⟨code16, o4_u15, q17, h⟩ := bnd2_s h
    refine L18 200 _ _ _ H locs ls code16 o4_u15 hW (lv_sub hl [1, 2, 3, 4, 0] rfl) q17 (fun hc H locs ls hW hl => ?_) (fun hc H locs ls hW hl => ?_)
    · have h := ite_t hc h
      refine lv_iconst (v := 1) hx hb dX8_fits_64 (by decide) ?_
      obtain rfl := ret1 h
      rw [hQ]
      exact g_retz hx hb hr hlk hW (by decide) dX8_fits_65
    · have h := ite_f (by rw [hc]; decide) h
      refine lv_iconst (v := 0) hx hb dX8_fits_56 (by decide) ?_
      obtain rfl := ret1 h
      rw [hQ]
      exact g_retz hx hb hr hlk hW (by decide) dX8_fits_57
  · have h := ite_f c5 h
    refine lv_iconst (v := 0) hx hb dX8_fits_13 (by decide) ?_
    obtain rfl := ret1 h
    rw [hQ]
    exact g_retz hx hb hr hlk hW (by decide) dX8_fits_14
set_option maxHeartbeats 4000000 in
set_option maxRecDepth 100000 in
theorem c_X8_standing (l : Launch) (D : va_G) (T : Nat → ClassId) (A : Nat → Prop) (a_o : Nat → Nat) (a_q1 : Nat → Nat) (Z : va_W)  (x_o : Ob) (x_q1 : Ob) (p2 : Int32) (r : Int32) (h : f_X8_standing x_o x_q1 p2 = some r) : Met l yX8_standing (Cond.code yX8_standing cX8_standing 6 (some .int) :: wsL_law) (rmd 4) (Pg D T A (oc_X8 T a_o x_o ++ (oc_X6 T a_q1 x_q1 ++ Z)) [.ref (a_o 0), .ref (a_q1 0), .int p2]) (Qgi D A (oc_X8 T a_o x_o ++ (oc_X6 T a_q1 x_q1 ++ Z)) r) 0 0 A := by
  refine Met.ofW (cc := cX8_standing) (maxL := 6) (ret := (some .int)) (by decide +kernel) rfl ?_
  intro p e s m args below meth c s₁ B hml hv
  obtain ⟨ha, hP, hK, hD, hN⟩ := hv
  have hx := B.exec
  have hb := B.bytes
  have hr := B.returns
  have hlk := B.notSynchronized
  have hts : ∀ w ∈ wsL_law, w.before args s = true := fun w hw => atoms_spec B.pre w (List.mem_cons_of_mem _ hw)
  have hown : s.vm.findClass RX8 = some m.cls := findClass_of_methodNamed B.named
  have hW : Wd D A s.heap (oc_X8 T a_o x_o ++ (oc_X6 T a_q1 x_q1 ++ Z)) s.heap [] := ⟨hP, hD, va_S.rf⟩
  have hl := lv_entry [.ref (a_o 0), .ref (a_q1 0), .int p2] (n := 6) (Nat.le_of_ble_eq_true rfl)
  refine W.eq (en_eq ha) ?_
  generalize (lg_sl [.ref (a_o 0), .ref (a_q1 0), .int p2] ++ List.replicate (6 - (lg_sl [.ref (a_o 0), .ref (a_q1 0), .int p2]).length) Slot.unset).toArray = ls at hl ⊢
  have hl : lv_has ls 6 [(0, .ref (a_o 0)), (1, .ref (a_q1 0)), (2, .int p2)] := hl
  clear hP hD B ha
  obtain ⟨Q, hQ⟩ : ∃ Q, Q = MQ below (Qgi D A (oc_X8 T a_o x_o ++ (oc_X6 T a_q1 x_q1 ++ Z)) r) args s 0 0 A := ⟨_, rfl⟩
  rw [← hQ]
  change W p l e (rmd 4) s m args below meth c s.heap [] 0 0 Q (F0 m 0 ls [])
  have L13 : ∀ (n : Nat) (v2_13 : Int32) (v3_13 : Int32) (v4_13 : Int32) (v5_13 : Int32) (H : Heap) (locs : List Loc) (ls : Array Slot) (o3_13r : Int32) (o4_13r : Int32) (o5_13r : Int32), Wd D A s.heap (oc_X8 T a_o x_o ++ (oc_X6 T a_q1 x_q1 ++ Z)) H locs → lv_has ls 6 [(0, .ref (a_o 0)), (1, .ref (a_q1 0)), (2, .int v2_13), (3, .int v3_13), (4, .int v4_13), (5, .int v5_13)] → f_X8_standing_L13 n x_o x_q1 v2_13 v3_13 v4_13 v5_13 = some (o3_13r, o4_13r, o5_13r) → (∀ (H : Heap) (locs : List Loc) (ls : Array Slot), Wd D A s.heap (oc_X8 T a_o x_o ++ (oc_X6 T a_q1 x_q1 ++ Z)) H locs → lv_has ls 6 [(4, .int o4_13r)] → W p l e (rmd 4) s m args below meth c H locs 0 0 Q (F0 m 79 ls [])) → W p l e (rmd 4) s m args below meth c H locs 0 0 Q (F0 m 13 ls []) := by
    intro n
    induction n with
    | zero =>
      intro v2_13 v3_13 v4_13 v5_13 H locs ls o3_13r o4_13r o5_13r hW hl h k1
      rw [f_X8_standing_L13] at h
      cases h
    | succ n ih =>
      intro v2_13 v3_13 v4_13 v5_13 H locs ls o3_13r o4_13r o5_13r hW hl h k1
      rw [f_X8_standing_L13] at h
      refine lv_iload hx hb dX8_standing_13 (lv_at hl 5 rfl) ?_
      refine lv_if_lt (tgt := 79) hx hb dX8_standing_15 (by decide) (fun c2 => ?_) (fun c2 => ?_)
      · have h := ite_t c2 h
        obtain ⟨rfl, rfl, rfl⟩ := ret3 h
        exact k1 H locs ls hW (lv_sub hl [4] rfl)
      · have h := ite_f c2 h
        refine lv_iload_n hx hb dX8_standing_18 rfl (lv_at hl 3 rfl) ?_
        refine lv_iload hx hb dX8_standing_19 (lv_at hl 5 rfl) ?_
        refine lv_ishr hx hb dX8_standing_21 ?_
        refine lv_iconst (v := 1) hx hb dX8_standing_22 (by decide) ?_
        refine lv_iand hx hb dX8_standing_23 ?_
        refine lv_if_ne (tgt := 73) hx hb dX8_standing_24 (by decide) (fun c3 => ?_) (fun c3 => ?_)
        · have h := ite_f c3 h
          obtain ⟨w5_4, ew5_4⟩ : ∃ y : Int32, y = v5_13 + (-1) := ⟨_, rfl⟩
          have h := lb_at ew5_4 h
          refine lv_iinc (v := w5_4) (lv' := [(5, .int w5_4), (0, .ref (a_o 0)), (1, .ref (a_q1 0)), (2, .int v2_13), (3, .int v3_13), (4, .int v4_13)]) hx hb dX8_standing_73 hl (k := 5) rfl (by rw [ew5_4]; rfl) (by decide) rfl (fun ls hl => ?_)
          refine lv_goto (tgt := 13) hx hb dX8_standing_76 (by decide) ?_
          exact ih _ _ _ _ H locs ls _ _ _ hW (lv_sub hl [1, 2, 3, 4, 5, 0] rfl) h k1
        · have h := ite_t c3 h
          refine lv_aload_n hx hb dX8_standing_27 rfl (lv_at hl 0 rfl) ?_
          refine lv_aload_n hx hb dX8_standing_28 rfl (lv_at hl 1 rfl) ?_
          refine lv_iload hx hb dX8_standing_29 (lv_at hl 5 rfl) ?_
          refine lv_iload_n hx hb dX8_standing_31 rfl (lv_at hl 2 rfl) ?_
          obtain ⟨r5, q6, h⟩ := bnd1_s h
          refine cl_X8_50 hx hb hml hown hts hK hN hW (c_X8_fits l D T A a_o a_q1 (Z) x_o x_q1 v5_13 v2_13 r5 q6) ⟨Nat.le_of_ble_eq_true rfl, Nat.le_of_ble_eq_true rfl⟩ hl.1 rfl (Nat.le_of_ble_eq_true rfl) dX8_standing_32 ⟨Nat.zero_le _, Nat.zero_le _⟩ rfl (fun H locs hW => ?_)
          refine lv_if_eq (tgt := 73) hx hb dX8_standing_35 (by decide) (fun c7 => ?_) (fun c7 => ?_)
          · have h := ite_t c7 h
            obtain ⟨w5_8, ew5_8⟩ : ∃ y : Int32, y = v5_13 + (-1) := ⟨_, rfl⟩
            have h := lb_at ew5_8 h
            refine lv_iinc (v := w5_8) (lv' := [(5, .int w5_8), (0, .ref (a_o 0)), (1, .ref (a_q1 0)), (2, .int v2_13), (3, .int v3_13), (4, .int v4_13)]) hx hb dX8_standing_73 hl (k := 5) rfl (by rw [ew5_8]; rfl) (by decide) rfl (fun ls hl => ?_)
            refine lv_goto (tgt := 13) hx hb dX8_standing_76 (by decide) ?_
            exact ih _ _ _ _ H locs ls _ _ _ hW (lv_sub hl [1, 2, 3, 4, 5, 0] rfl) h k1
          · have h := ite_f c7 h
            refine lv_aload_n hx hb dX8_standing_38 rfl (lv_at hl 0 rfl) ?_
            refine fg_X8_19 (v := .ref (a_o 2)) hx hb hts hown hK hW 0 rfl rfl dX8_standing_39 ?_
            refine lv_iload hx hb dX8_standing_42 (lv_at hl 5 rfl) ?_
            obtain ⟨g9, h⟩ := grd_s h
            refine g_iald hx hb hK hW 2 rfl g9 dX8_standing_44 ?_
            refine lv_iconst (v := (-1)) hx hb dX8_standing_45 (by decide) ?_
            refine lv_icmp_ne (tgt := 61) hx hb dX8_standing_46 (by decide) (fun c10 => ?_) (fun c10 => ?_)
            · have h := ite_f c10 h
              refine lv_iload_n hx hb dX8_standing_61 rfl (lv_at hl 3 rfl) ?_
              refine lv_iconst (v := 1) hx hb dX8_standing_62 (by decide) ?_
              refine lv_aload_n hx hb dX8_standing_63 rfl (lv_at hl 0 rfl) ?_
              refine fg_X8_19 (v := .ref (a_o 2)) hx hb hts hown hK hW 0 rfl rfl dX8_standing_64 ?_
              refine lv_iload hx hb dX8_standing_67 (lv_at hl 5 rfl) ?_
              obtain ⟨g11, h⟩ := grd_s h
              refine g_iald hx hb hK hW 2 rfl g11 dX8_standing_69 ?_
              refine lv_ishl hx hb dX8_standing_70 ?_
              refine lv_ior hx hb dX8_standing_71 ?_
              refine lv_topi (fun w3_12 ew3_12 => ?_)
              have h := lb_at ew3_12 h
              refine lv_istore_n (lv' := [(3, .int w3_12), (0, .ref (a_o 0)), (1, .ref (a_q1 0)), (2, .int v2_13), (4, .int v4_13), (5, .int v5_13)]) hx hb dX8_standing_72 rfl hl (by decide) rfl (fun ls hl => ?_)
              obtain ⟨w5_13, ew5_13⟩ : ∃ y : Int32, y = v5_13 + (-1) := ⟨_, rfl⟩
              have h := lb_at ew5_13 h
              refine lv_iinc (v := w5_13) (lv' := [(5, .int w5_13), (3, .int w3_12), (0, .ref (a_o 0)), (1, .ref (a_q1 0)), (2, .int v2_13), (4, .int v4_13)]) hx hb dX8_standing_73 hl (k := 5) rfl (by rw [ew5_13]; rfl) (by decide) rfl (fun ls hl => ?_)
              refine lv_goto (tgt := 13) hx hb dX8_standing_76 (by decide) ?_
              exact ih _ _ _ _ H locs ls _ _ _ hW (lv_sub hl [2, 3, 4, 1, 5, 0] rfl) h k1
            · have h := ite_t c10 h
              refine lv_iload hx hb dX8_standing_49 (lv_at hl 4 rfl) ?_
              refine lv_iconst (v := 1) hx hb dX8_standing_51 (by decide) ?_
              refine lv_iload hx hb dX8_standing_52 (lv_at hl 5 rfl) ?_
              refine lv_ishl hx hb dX8_standing_54 ?_
              refine lv_ior hx hb dX8_standing_55 ?_
              refine lv_topi (fun w4_14 ew4_14 => ?_)
              have h := lb_at ew4_14 h
              refine lv_istore (lv' := [(4, .int w4_14), (0, .ref (a_o 0)), (1, .ref (a_q1 0)), (2, .int v2_13), (3, .int v3_13), (5, .int v5_13)]) hx hb dX8_standing_56 hl (by decide) rfl (fun ls hl => ?_)
              refine lv_goto (tgt := 73) hx hb dX8_standing_58 (by decide) ?_
              obtain ⟨w5_15, ew5_15⟩ : ∃ y : Int32, y = v5_13 + (-1) := ⟨_, rfl⟩
              have h := lb_at ew5_15 h
              refine lv_iinc (v := w5_15) (lv' := [(5, .int w5_15), (4, .int w4_14), (0, .ref (a_o 0)), (1, .ref (a_q1 0)), (2, .int v2_13), (3, .int v3_13)]) hx hb dX8_standing_73 hl (k := 5) rfl (by rw [ew5_15]; rfl) (by decide) rfl (fun ls hl => ?_)
              refine lv_goto (tgt := 13) hx hb dX8_standing_76 (by decide) ?_
              exact ih _ _ _ _ H locs ls _ _ _ hW (lv_sub hl [2, 3, 4, 5, 1, 0] rfl) h k1
  rw [f_X8_standing] at h
  suffices hm : ∀ (H : Heap) (locs : List Loc), Wd D A s.heap (oc_X8 T a_o x_o ++ (oc_X6 T a_q1 x_q1 ++ Z)) H locs → W p l e (rmd 4) s m args below meth c H locs 0 0 Q (F0 m 0 ls []) from hm _ _ hW
  intro H locs hW
  refine lv_iconst (v := 0) hx hb dX8_standing_0 (by decide) ?_
  refine lv_istore_n (lv' := [(3, .int 0), (0, .ref (a_o 0)), (1, .ref (a_q1 0)), (2, .int p2)]) hx hb dX8_standing_1 rfl hl (by decide) rfl (fun ls hl => ?_)
  refine lv_iconst (v := 0) hx hb dX8_standing_2 (by decide) ?_
  refine lv_istore (lv' := [(4, .int 0), (3, .int 0), (0, .ref (a_o 0)), (1, .ref (a_q1 0)), (2, .int p2)]) hx hb dX8_standing_3 hl (by decide) rfl (fun ls hl => ?_)
  refine lv_aload_n hx hb dX8_standing_5 rfl (lv_at hl 2 rfl) ?_
  refine fg_X8_9 (v := .int (x_o 0 0)) hx hb hts hown hK hW 0 rfl rfl dX8_standing_6 ?_
  refine lv_iconst (v := 1) hx hb dX8_standing_9 (by decide) ?_
  refine lv_isub hx hb dX8_standing_10 ?_
  refine lv_topi (fun w5_1 ew5_1 => ?_)
  have h := lb_at ew5_1 h
  refine lv_istore (lv' := [(5, .int w5_1), (4, .int 0), (3, .int 0), (0, .ref (a_o 0)), (1, .ref (a_q1 0)), (2, .int p2)]) hx hb dX8_standing_11 hl (by decide) rfl (fun ls hl => ?_)
  obtain ⟨o3_u16, o4_u16, o5_u16, q17, h⟩ := bnd3_s h
  refine L13 200 _ _ _ _ H locs ls o3_u16 o4_u16 o5_u16 hW (lv_sub hl [3, 4, 5, 2, 1, 0] rfl) q17 (fun H locs ls hW hl => ?_)
  refine lv_iload hx hb dX8_standing_79 (lv_at hl 0 rfl) ?_
  obtain rfl := ret1 h
  rw [hQ]
  exact g_reti hx hb hr hlk hW dX8_standing_81
set_option maxHeartbeats 4000000 in
set_option maxRecDepth 100000 in
theorem c_J6_bitCount_0f7a4 (l : Launch) (D : va_G) (T : Nat → ClassId) (A : Nat → Prop)  (Z : va_W)  (p1 : Int32) (r : Int32) (h : f_J6_bitCount_0f7a4 p1 = some r) : Met l yJ6_bitCount_0f7a4 (Cond.code yJ6_bitCount_0f7a4 cJ6_bitCount_0f7a4 1 (some .int) :: wsL_law) (rmd 0) (Pg D T A (Z) [.int p1]) (Qgi D A (Z) r) 0 0 A := by
  refine Met.ofW (cc := cJ6_bitCount_0f7a4) (maxL := 1) (ret := (some .int)) (by decide +kernel) rfl ?_
  intro p e s m args below meth c s₁ B hml hv
  obtain ⟨ha, hP, hK, hD, hN⟩ := hv
  have hx := B.exec
  have hb := B.bytes
  have hr := B.returns
  have hlk := B.notSynchronized
  have hts : ∀ w ∈ wsL_law, w.before args s = true := fun w hw => atoms_spec B.pre w (List.mem_cons_of_mem _ hw)
  have hown : s.vm.findClass RJ6 = some m.cls := findClass_of_methodNamed B.named
  have hW : Wd D A s.heap (Z) s.heap [] := ⟨hP, hD, va_S.rf⟩
  have hl := lv_entry [.int p1] (n := 1) (Nat.le_of_ble_eq_true rfl)
  refine W.eq (en_eq ha) ?_
  generalize (lg_sl [.int p1] ++ List.replicate (1 - (lg_sl [.int p1]).length) Slot.unset).toArray = ls at hl ⊢
  have hl : lv_has ls 1 [(0, .int p1)] := hl
  clear hP hD B ha
  obtain ⟨Q, hQ⟩ : ∃ Q, Q = MQ below (Qgi D A (Z) r) args s 0 0 A := ⟨_, rfl⟩
  rw [← hQ]
  change W p l e (rmd 0) s m args below meth c s.heap [] 0 0 Q (F0 m 0 ls [])
  rw [f_J6_bitCount_0f7a4] at h
  suffices hm : ∀ (H : Heap) (locs : List Loc), Wd D A s.heap (Z) H locs → W p l e (rmd 0) s m args below meth c H locs 0 0 Q (F0 m 0 ls []) from hm _ _ hW
  intro H locs hW
  refine lv_iload_n hx hb dJ6_bitCount_0f7a4_0 rfl (lv_at hl 0 rfl) ?_
  refine lv_iload_n hx hb dJ6_bitCount_0f7a4_1 rfl (lv_at hl 0 rfl) ?_
  refine lv_iconst (v := 1) hx hb dJ6_bitCount_0f7a4_2 (by decide) ?_
  refine lv_iushr hx hb dJ6_bitCount_0f7a4_3 rfl ?_
  refine lv_ldcw (v := 1431655765) hx hb hown (hts _ wm38_4) dJ6_bitCount_0f7a4_4 ?_
  refine lv_iand hx hb dJ6_bitCount_0f7a4_7 ?_
  refine lv_isub hx hb dJ6_bitCount_0f7a4_8 ?_
  refine lv_topi (fun w0_1 ew0_1 => ?_)
  have h := lb_at ew0_1 h
  refine lv_istore_n (lv' := [(0, .int w0_1)]) hx hb dJ6_bitCount_0f7a4_9 rfl hl (by decide) rfl (fun ls hl => ?_)
  refine lv_iload_n hx hb dJ6_bitCount_0f7a4_10 rfl (lv_at hl 0 rfl) ?_
  refine lv_ldcw (v := 858993459) hx hb hown (hts _ wm38_5) dJ6_bitCount_0f7a4_11 ?_
  refine lv_iand hx hb dJ6_bitCount_0f7a4_14 ?_
  refine lv_iload_n hx hb dJ6_bitCount_0f7a4_15 rfl (lv_at hl 0 rfl) ?_
  refine lv_iconst (v := 2) hx hb dJ6_bitCount_0f7a4_16 (by decide) ?_
  refine lv_iushr hx hb dJ6_bitCount_0f7a4_17 rfl ?_
  refine lv_ldcw (v := 858993459) hx hb hown (hts _ wm38_5) dJ6_bitCount_0f7a4_18 ?_
  refine lv_iand hx hb dJ6_bitCount_0f7a4_21 ?_
  refine lv_iadd hx hb dJ6_bitCount_0f7a4_22 ?_
  refine lv_topi (fun w0_2 ew0_2 => ?_)
  have h := lb_at ew0_2 h
  refine lv_istore_n (lv' := [(0, .int w0_2)]) hx hb dJ6_bitCount_0f7a4_23 rfl hl (by decide) rfl (fun ls hl => ?_)
  refine lv_iload_n hx hb dJ6_bitCount_0f7a4_24 rfl (lv_at hl 0 rfl) ?_
  refine lv_iload_n hx hb dJ6_bitCount_0f7a4_25 rfl (lv_at hl 0 rfl) ?_
  refine lv_iconst (v := 4) hx hb dJ6_bitCount_0f7a4_26 (by decide) ?_
  refine lv_iushr hx hb dJ6_bitCount_0f7a4_27 rfl ?_
  refine lv_iadd hx hb dJ6_bitCount_0f7a4_28 ?_
  refine lv_ldcw (v := 252645135) hx hb hown (hts _ wm38_6) dJ6_bitCount_0f7a4_29 ?_
  refine lv_iand hx hb dJ6_bitCount_0f7a4_32 ?_
  refine lv_topi (fun w0_3 ew0_3 => ?_)
  have h := lb_at ew0_3 h
  refine lv_istore_n (lv' := [(0, .int w0_3)]) hx hb dJ6_bitCount_0f7a4_33 rfl hl (by decide) rfl (fun ls hl => ?_)
  refine lv_iload_n hx hb dJ6_bitCount_0f7a4_34 rfl (lv_at hl 0 rfl) ?_
  refine lv_iload_n hx hb dJ6_bitCount_0f7a4_35 rfl (lv_at hl 0 rfl) ?_
  refine lv_bipush (v := 8) hx hb dJ6_bitCount_0f7a4_36 (by decide) ?_
  refine lv_iushr hx hb dJ6_bitCount_0f7a4_38 rfl ?_
  refine lv_iadd hx hb dJ6_bitCount_0f7a4_39 ?_
  refine lv_topi (fun w0_4 ew0_4 => ?_)
  have h := lb_at ew0_4 h
  refine lv_istore_n (lv' := [(0, .int w0_4)]) hx hb dJ6_bitCount_0f7a4_40 rfl hl (by decide) rfl (fun ls hl => ?_)
  refine lv_iload_n hx hb dJ6_bitCount_0f7a4_41 rfl (lv_at hl 0 rfl) ?_
  refine lv_iload_n hx hb dJ6_bitCount_0f7a4_42 rfl (lv_at hl 0 rfl) ?_
  refine lv_bipush (v := 16) hx hb dJ6_bitCount_0f7a4_43 (by decide) ?_
  refine lv_iushr hx hb dJ6_bitCount_0f7a4_45 rfl ?_
  refine lv_iadd hx hb dJ6_bitCount_0f7a4_46 ?_
  refine lv_topi (fun w0_5 ew0_5 => ?_)
  have h := lb_at ew0_5 h
  refine lv_istore_n (lv' := [(0, .int w0_5)]) hx hb dJ6_bitCount_0f7a4_47 rfl hl (by decide) rfl (fun ls hl => ?_)
  refine lv_iload_n hx hb dJ6_bitCount_0f7a4_48 rfl (lv_at hl 0 rfl) ?_
  refine lv_bipush (v := 63) hx hb dJ6_bitCount_0f7a4_49 (by decide) ?_
  refine lv_iand hx hb dJ6_bitCount_0f7a4_51 ?_
  obtain rfl := ret1 h
  rw [hQ]
  exact g_reti hx hb hr hlk hW dJ6_bitCount_0f7a4_52
set_option maxHeartbeats 4000000 in
set_option maxRecDepth 100000 in
theorem c_X8_countFaults (l : Launch) (D : va_G) (T : Nat → ClassId) (A : Nat → Prop) (a_o : Nat → Nat) (a_q1 : Nat → Nat) (Z : va_W)  (x_o : Ob) (x_q1 : Ob) (r : Int32) (h : f_X8_countFaults x_o x_q1 = some r) : Met l yX8_countFaults (Cond.code yX8_countFaults cX8_countFaults 4 (some .int) :: wsL_law) (rmd 5) (Pg D T A (oc_X8 T a_o x_o ++ (oc_X6 T a_q1 x_q1 ++ Z)) [.ref (a_o 0), .ref (a_q1 0)]) (Qgi D A (oc_X8 T a_o x_o ++ (oc_X6 T a_q1 x_q1 ++ Z)) r) 0 0 A := by
  refine Met.ofW (cc := cX8_countFaults) (maxL := 4) (ret := (some .int)) (by decide +kernel) rfl ?_
  intro p e s m args below meth c s₁ B hml hv
  obtain ⟨ha, hP, hK, hD, hN⟩ := hv
  have hx := B.exec
  have hb := B.bytes
  have hr := B.returns
  have hlk := B.notSynchronized
  have hts : ∀ w ∈ wsL_law, w.before args s = true := fun w hw => atoms_spec B.pre w (List.mem_cons_of_mem _ hw)
  have hown : s.vm.findClass RX8 = some m.cls := findClass_of_methodNamed B.named
  have hW : Wd D A s.heap (oc_X8 T a_o x_o ++ (oc_X6 T a_q1 x_q1 ++ Z)) s.heap [] := ⟨hP, hD, va_S.rf⟩
  have hl := lv_entry [.ref (a_o 0), .ref (a_q1 0)] (n := 4) (Nat.le_of_ble_eq_true rfl)
  refine W.eq (en_eq ha) ?_
  generalize (lg_sl [.ref (a_o 0), .ref (a_q1 0)] ++ List.replicate (4 - (lg_sl [.ref (a_o 0), .ref (a_q1 0)]).length) Slot.unset).toArray = ls at hl ⊢
  have hl : lv_has ls 4 [(0, .ref (a_o 0)), (1, .ref (a_q1 0))] := hl
  clear hP hD B ha
  obtain ⟨Q, hQ⟩ : ∃ Q, Q = MQ below (Qgi D A (oc_X8 T a_o x_o ++ (oc_X6 T a_q1 x_q1 ++ Z)) r) args s 0 0 A := ⟨_, rfl⟩
  rw [← hQ]
  change W p l e (rmd 5) s m args below meth c s.heap [] 0 0 Q (F0 m 0 ls [])
  have L4 : ∀ (n : Nat) (v2_4 : Int32) (v3_4 : Int32) (H : Heap) (locs : List Loc) (ls : Array Slot) (o2_4r : Int32) (o3_4r : Int32), Wd D A s.heap (oc_X8 T a_o x_o ++ (oc_X6 T a_q1 x_q1 ++ Z)) H locs → lv_has ls 4 [(0, .ref (a_o 0)), (1, .ref (a_q1 0)), (2, .int v2_4), (3, .int v3_4)] → f_X8_countFaults_L4 n x_o x_q1 v2_4 v3_4 = some (o2_4r, o3_4r) → (∀ (H : Heap) (locs : List Loc) (ls : Array Slot), Wd D A s.heap (oc_X8 T a_o x_o ++ (oc_X6 T a_q1 x_q1 ++ Z)) H locs → lv_has ls 4 [(2, .int o2_4r)] → W p l e (rmd 5) s m args below meth c H locs 0 0 Q (F0 m 30 ls [])) → W p l e (rmd 5) s m args below meth c H locs 0 0 Q (F0 m 4 ls []) := by
    intro n
    induction n with
    | zero =>
      intro v2_4 v3_4 H locs ls o2_4r o3_4r hW hl h k1
      rw [f_X8_countFaults_L4] at h
      cases h
    | succ n ih =>
      intro v2_4 v3_4 H locs ls o2_4r o3_4r hW hl h k1
      rw [f_X8_countFaults_L4] at h
      refine lv_iload_n hx hb dX8_countFaults_4 rfl (lv_at hl 3 rfl) ?_
      refine lv_aload_n hx hb dX8_countFaults_5 rfl (lv_at hl 1 rfl) ?_
      refine fg_X8_54 (v := .int (x_q1 0 0)) hx hb hts hN hown hK hW 5 rfl rfl dX8_countFaults_6 ?_
      refine lv_icmp_ge (tgt := 30) hx hb dX8_countFaults_9 (by decide) (fun c1 => ?_) (fun c1 => ?_)
      · have h := ite_t c1 h
        obtain ⟨rfl, rfl⟩ := ret2 h
        exact k1 H locs ls hW (lv_sub hl [2] rfl)
      · have h := ite_f c1 h
        refine lv_iload_n hx hb dX8_countFaults_12 rfl (lv_at hl 2 rfl) ?_
        refine lv_aload_n hx hb dX8_countFaults_13 rfl (lv_at hl 0 rfl) ?_
        refine lv_aload_n hx hb dX8_countFaults_14 rfl (lv_at hl 1 rfl) ?_
        refine lv_iload_n hx hb dX8_countFaults_15 rfl (lv_at hl 3 rfl) ?_
        obtain ⟨r2, q3, h⟩ := bnd1_s h
        refine cl_X8_55 hx hb hml hown hts hK hN hW (c_X8_standing l D T A a_o a_q1 (Z) x_o x_q1 v3_4 r2 q3) ⟨Nat.le_of_ble_eq_true rfl, Nat.le_of_ble_eq_true rfl⟩ hl.1 rfl (Nat.le_of_ble_eq_true rfl) dX8_countFaults_16 ⟨Nat.zero_le _, Nat.zero_le _⟩ rfl (fun H locs hW => ?_)
        obtain ⟨r4, q5, h⟩ := bnd1_s h
        refine cl_X8_59 hx hb hml hown hts hK hN hW (c_J6_bitCount_0f7a4 l D T A (oc_X8 T a_o x_o ++ (oc_X6 T a_q1 x_q1 ++ Z)) r2 r4 q5) ⟨Nat.le_of_ble_eq_true rfl, Nat.le_of_ble_eq_true rfl⟩ hl.1 rfl (Nat.le_of_ble_eq_true rfl) dX8_countFaults_19 ⟨Nat.zero_le _, Nat.zero_le _⟩ rfl (fun H locs hW => ?_)
        refine lv_iadd hx hb dX8_countFaults_22 ?_
        refine lv_topi (fun w2_6 ew2_6 => ?_)
        have h := lb_at ew2_6 h
        refine lv_istore_n (lv' := [(2, .int w2_6), (0, .ref (a_o 0)), (1, .ref (a_q1 0)), (3, .int v3_4)]) hx hb dX8_countFaults_23 rfl hl (by decide) rfl (fun ls hl => ?_)
        obtain ⟨w3_7, ew3_7⟩ : ∃ y : Int32, y = v3_4 + 1 := ⟨_, rfl⟩
        have h := lb_at ew3_7 h
        refine lv_iinc (v := w3_7) (lv' := [(3, .int w3_7), (2, .int w2_6), (0, .ref (a_o 0)), (1, .ref (a_q1 0))]) hx hb dX8_countFaults_24 hl (k := 3) rfl (by rw [ew3_7]; rfl) (by decide) rfl (fun ls hl => ?_)
        refine lv_goto (tgt := 4) hx hb dX8_countFaults_27 (by decide) ?_
        exact ih _ _ H locs ls _ _ hW (lv_sub hl [2, 3, 1, 0] rfl) h k1
  rw [f_X8_countFaults] at h
  suffices hm : ∀ (H : Heap) (locs : List Loc), Wd D A s.heap (oc_X8 T a_o x_o ++ (oc_X6 T a_q1 x_q1 ++ Z)) H locs → W p l e (rmd 5) s m args below meth c H locs 0 0 Q (F0 m 0 ls []) from hm _ _ hW
  intro H locs hW
  refine lv_iconst (v := 0) hx hb dX8_countFaults_0 (by decide) ?_
  refine lv_istore_n (lv' := [(2, .int 0), (0, .ref (a_o 0)), (1, .ref (a_q1 0))]) hx hb dX8_countFaults_1 rfl hl (by decide) rfl (fun ls hl => ?_)
  refine lv_iconst (v := 0) hx hb dX8_countFaults_2 (by decide) ?_
  refine lv_istore_n (lv' := [(3, .int 0), (2, .int 0), (0, .ref (a_o 0)), (1, .ref (a_q1 0))]) hx hb dX8_countFaults_3 rfl hl (by decide) rfl (fun ls hl => ?_)
  obtain ⟨o2_u8, o3_u8, q9, h⟩ := bnd2_s h
  refine L4 200 _ _ H locs ls o2_u8 o3_u8 hW (lv_sub hl [2, 3, 1, 0] rfl) q9 (fun H locs ls hW hl => ?_)
  refine lv_iload_n hx hb dX8_countFaults_30 rfl (lv_at hl 0 rfl) ?_
  obtain rfl := ret1 h
  rw [hQ]
  exact g_reti hx hb hr hlk hW dX8_countFaults_31
set_option maxHeartbeats 4000000 in
set_option maxRecDepth 100000 in
theorem c_X8_faultNumber (l : Launch) (D : va_G) (T : Nat → ClassId) (A : Nat → Prop) (a_o : Nat → Nat) (a_q1 : Nat → Nat) (Z : va_W)  (x_o : Ob) (x_q1 : Ob) (p2 : Int32) (r : Int32) (h : f_X8_faultNumber x_o x_q1 p2 = some r) : Met l yX8_faultNumber (Cond.code yX8_faultNumber cX8_faultNumber 7 (some .int) :: wsL_law) (rmd 5) (Pg D T A (oc_X8 T a_o x_o ++ (oc_X6 T a_q1 x_q1 ++ Z)) [.ref (a_o 0), .ref (a_q1 0), .int p2]) (Qgi D A (oc_X8 T a_o x_o ++ (oc_X6 T a_q1 x_q1 ++ Z)) r) 0 0 A := by
  refine Met.ofW (cc := cX8_faultNumber) (maxL := 7) (ret := (some .int)) (by decide +kernel) rfl ?_
  intro p e s m args below meth c s₁ B hml hv
  obtain ⟨ha, hP, hK, hD, hN⟩ := hv
  have hx := B.exec
  have hb := B.bytes
  have hr := B.returns
  have hlk := B.notSynchronized
  have hts : ∀ w ∈ wsL_law, w.before args s = true := fun w hw => atoms_spec B.pre w (List.mem_cons_of_mem _ hw)
  have hown : s.vm.findClass RX8 = some m.cls := findClass_of_methodNamed B.named
  have hW : Wd D A s.heap (oc_X8 T a_o x_o ++ (oc_X6 T a_q1 x_q1 ++ Z)) s.heap [] := ⟨hP, hD, va_S.rf⟩
  have hl := lv_entry [.ref (a_o 0), .ref (a_q1 0), .int p2] (n := 7) (Nat.le_of_ble_eq_true rfl)
  refine W.eq (en_eq ha) ?_
  generalize (lg_sl [.ref (a_o 0), .ref (a_q1 0), .int p2] ++ List.replicate (7 - (lg_sl [.ref (a_o 0), .ref (a_q1 0), .int p2]).length) Slot.unset).toArray = ls at hl ⊢
  have hl : lv_has ls 7 [(0, .ref (a_o 0)), (1, .ref (a_q1 0)), (2, .int p2)] := hl
  clear hP hD B ha
  obtain ⟨Q, hQ⟩ : ∃ Q, Q = MQ below (Qgi D A (oc_X8 T a_o x_o ++ (oc_X6 T a_q1 x_q1 ++ Z)) r) args s 0 0 A := ⟨_, rfl⟩
  rw [← hQ]
  change W p l e (rmd 5) s m args below meth c s.heap [] 0 0 Q (F0 m 0 ls [])
  have L26 : ∀ (n : Nat) (v2_26 : Int32) (v3_26 : Int32) (v4_26 : Int32) (v5_26 : Int32) (v6_26 : Int32) (H : Heap) (locs : List Loc) (ls : Array Slot) (code : Nat) (o3_26r : Int32) (o6_26r : Int32), Wd D A s.heap (oc_X8 T a_o x_o ++ (oc_X6 T a_q1 x_q1 ++ Z)) H locs → lv_has ls 7 [(0, .ref (a_o 0)), (1, .ref (a_q1 0)), (2, .int v2_26), (3, .int v3_26), (4, .int v4_26), (5, .int v5_26), (6, .int v6_26)] → f_X8_faultNumber_L26 n x_o x_q1 v2_26 v3_26 v4_26 v5_26 v6_26 = some (code, o3_26r, o6_26r) → (code = 1 → ∀ (H : Heap) (locs : List Loc) (ls : Array Slot), Wd D A s.heap (oc_X8 T a_o x_o ++ (oc_X6 T a_q1 x_q1 ++ Z)) H locs → lv_has ls 7 [(0, .ref (a_o 0)), (1, .ref (a_q1 0)), (2, .int v2_26), (3, .int o3_26r), (4, .int v4_26)] → W p l e (rmd 5) s m args below meth c H locs 0 0 Q (F0 m 68 ls [])) → (code = 2 → ∀ (H : Heap) (locs : List Loc) (ls : Array Slot), Wd D A s.heap (oc_X8 T a_o x_o ++ (oc_X6 T a_q1 x_q1 ++ Z)) H locs → lv_has ls 7 [(4, .int v4_26), (6, .int o6_26r)] → W p l e (rmd 5) s m args below meth c H locs 0 0 Q (F0 m 50 ls [])) → W p l e (rmd 5) s m args below meth c H locs 0 0 Q (F0 m 26 ls []) := by
    intro n
    induction n with
    | zero =>
      intro v2_26 v3_26 v4_26 v5_26 v6_26 H locs ls code o3_26r o6_26r hW hl h k1 k2
      rw [f_X8_faultNumber_L26] at h
      cases h
    | succ n ih =>
      intro v2_26 v3_26 v4_26 v5_26 v6_26 H locs ls code o3_26r o6_26r hW hl h k1 k2
      rw [f_X8_faultNumber_L26] at h
      refine lv_iload hx hb dX8_faultNumber_26 (lv_at hl 6 rfl) ?_
      refine lv_aload_n hx hb dX8_faultNumber_28 rfl (lv_at hl 0 rfl) ?_
      refine fg_X8_9 (v := .int (x_o 0 0)) hx hb hts hown hK hW 0 rfl rfl dX8_faultNumber_29 ?_
      refine lv_icmp_ge (tgt := 68) hx hb dX8_faultNumber_32 (by decide) (fun c4 => ?_) (fun c4 => ?_)
      · have h := ite_t c4 h
        obtain ⟨rfl, rfl, rfl⟩ := ret3 h
        exact k1 rfl H locs ls hW (lv_sub hl [0, 1, 2, 3, 4] rfl)
      · have h := ite_f c4 h
        refine lv_iload hx hb dX8_faultNumber_35 (lv_at hl 5 rfl) ?_
        refine lv_iload hx hb dX8_faultNumber_37 (lv_at hl 6 rfl) ?_
        refine lv_ishr hx hb dX8_faultNumber_39 ?_
        refine lv_iconst (v := 1) hx hb dX8_faultNumber_40 (by decide) ?_
        refine lv_iand hx hb dX8_faultNumber_41 ?_
        refine lv_if_eq (tgt := 62) hx hb dX8_faultNumber_42 (by decide) (fun c5 => ?_) (fun c5 => ?_)
        · have h := ite_t c5 h
          obtain ⟨w6_6, ew6_6⟩ : ∃ y : Int32, y = v6_26 + 1 := ⟨_, rfl⟩
          have h := lb_at ew6_6 h
          refine lv_iinc (v := w6_6) (lv' := [(6, .int w6_6), (0, .ref (a_o 0)), (1, .ref (a_q1 0)), (2, .int v2_26), (3, .int v3_26), (4, .int v4_26), (5, .int v5_26)]) hx hb dX8_faultNumber_62 hl (k := 6) rfl (by rw [ew6_6]; rfl) (by decide) rfl (fun ls hl => ?_)
          refine lv_goto (tgt := 26) hx hb dX8_faultNumber_65 (by decide) ?_
          exact ih _ _ _ _ _ H locs ls _ _ _ hW (lv_sub hl [1, 2, 3, 4, 5, 6, 0] rfl) h k1 k2
        · have h := ite_f c5 h
          refine lv_iload_n hx hb dX8_faultNumber_45 rfl (lv_at hl 3 rfl) ?_
          refine lv_iload_n hx hb dX8_faultNumber_46 rfl (lv_at hl 2 rfl) ?_
          refine lv_icmp_ne (tgt := 59) hx hb dX8_faultNumber_47 (by decide) (fun c7 => ?_) (fun c7 => ?_)
          · have h := ite_f c7 h
            obtain ⟨w3_8, ew3_8⟩ : ∃ y : Int32, y = v3_26 + 1 := ⟨_, rfl⟩
            have h := lb_at ew3_8 h
            refine lv_iinc (v := w3_8) (lv' := [(3, .int w3_8), (0, .ref (a_o 0)), (1, .ref (a_q1 0)), (2, .int v2_26), (4, .int v4_26), (5, .int v5_26), (6, .int v6_26)]) hx hb dX8_faultNumber_59 hl (k := 3) rfl (by rw [ew3_8]; rfl) (by decide) rfl (fun ls hl => ?_)
            obtain ⟨w6_9, ew6_9⟩ : ∃ y : Int32, y = v6_26 + 1 := ⟨_, rfl⟩
            have h := lb_at ew6_9 h
            refine lv_iinc (v := w6_9) (lv' := [(6, .int w6_9), (3, .int w3_8), (0, .ref (a_o 0)), (1, .ref (a_q1 0)), (2, .int v2_26), (4, .int v4_26), (5, .int v5_26)]) hx hb dX8_faultNumber_62 hl (k := 6) rfl (by rw [ew6_9]; rfl) (by decide) rfl (fun ls hl => ?_)
            refine lv_goto (tgt := 26) hx hb dX8_faultNumber_65 (by decide) ?_
            exact ih _ _ _ _ _ H locs ls _ _ _ hW (lv_sub hl [2, 3, 4, 1, 5, 6, 0] rfl) h k1 k2
          · have h := ite_t c7 h
            obtain ⟨rfl, rfl, rfl⟩ := ret3 h
            exact k2 rfl H locs ls hW (lv_sub hl [4, 6] rfl)
  have L5 : ∀ (n : Nat) (v2_5 : Int32) (v3_5 : Int32) (v4_5 : Int32) (H : Heap) (locs : List Loc) (ls : Array Slot) (code : Nat) (o3_5r : Int32) (o4_5r : Int32) (o6_5r : Int32), Wd D A s.heap (oc_X8 T a_o x_o ++ (oc_X6 T a_q1 x_q1 ++ Z)) H locs → lv_has ls 7 [(0, .ref (a_o 0)), (1, .ref (a_q1 0)), (2, .int v2_5), (3, .int v3_5), (4, .int v4_5)] → f_X8_faultNumber_L5 n x_o x_q1 v2_5 v3_5 v4_5 = some (code, o3_5r, o4_5r, o6_5r) → (code = 1 → ∀ (H : Heap) (locs : List Loc) (ls : Array Slot), Wd D A s.heap (oc_X8 T a_o x_o ++ (oc_X6 T a_q1 x_q1 ++ Z)) H locs → lv_has ls 7 [] → W p l e (rmd 5) s m args below meth c H locs 0 0 Q (F0 m 74 ls [])) → (code = 2 → ∀ (H : Heap) (locs : List Loc) (ls : Array Slot), Wd D A s.heap (oc_X8 T a_o x_o ++ (oc_X6 T a_q1 x_q1 ++ Z)) H locs → lv_has ls 7 [(4, .int o4_5r), (6, .int o6_5r)] → W p l e (rmd 5) s m args below meth c H locs 0 0 Q (F0 m 50 ls [])) → W p l e (rmd 5) s m args below meth c H locs 0 0 Q (F0 m 5 ls []) := by
    intro n
    induction n with
    | zero =>
      intro v2_5 v3_5 v4_5 H locs ls code o3_5r o4_5r o6_5r hW hl h k1 k2
      rw [f_X8_faultNumber_L5] at h
      cases h
    | succ n ih =>
      intro v2_5 v3_5 v4_5 H locs ls code o3_5r o4_5r o6_5r hW hl h k1 k2
      rw [f_X8_faultNumber_L5] at h
      refine lv_iload hx hb dX8_faultNumber_5 (lv_at hl 4 rfl) ?_
      refine lv_aload_n hx hb dX8_faultNumber_7 rfl (lv_at hl 1 rfl) ?_
      refine fg_X8_54 (v := .int (x_q1 0 0)) hx hb hts hN hown hK hW 5 rfl rfl dX8_faultNumber_8 ?_
      refine lv_icmp_ge (tgt := 74) hx hb dX8_faultNumber_11 (by decide) (fun c1 => ?_) (fun c1 => ?_)
      · have h := ite_t c1 h
        obtain ⟨rfl, rfl, rfl, rfl⟩ := ret4 h
        exact k1 rfl H locs ls hW (lv_sub hl [] rfl)
      · have h := ite_f c1 h
        refine lv_aload_n hx hb dX8_faultNumber_14 rfl (lv_at hl 0 rfl) ?_
        refine lv_aload_n hx hb dX8_faultNumber_15 rfl (lv_at hl 1 rfl) ?_
        refine lv_iload hx hb dX8_faultNumber_16 (lv_at hl 4 rfl) ?_
        obtain ⟨r2, q3, h⟩ := bnd1_s h
        refine cl_X8_55 hx hb hml hown hts hK hN hW (c_X8_standing l D T A a_o a_q1 (Z) x_o x_q1 v4_5 r2 q3) ⟨Nat.le_of_ble_eq_true rfl, Nat.le_of_ble_eq_true rfl⟩ hl.1 rfl (Nat.le_of_ble_eq_true rfl) dX8_faultNumber_18 ⟨Nat.zero_le _, Nat.zero_le _⟩ rfl (fun H locs hW => ?_)
        refine lv_istore (lv' := [(5, .int r2), (0, .ref (a_o 0)), (1, .ref (a_q1 0)), (2, .int v2_5), (3, .int v3_5), (4, .int v4_5)]) hx hb dX8_faultNumber_21 hl (by decide) rfl (fun ls hl => ?_)
        refine lv_iconst (v := 0) hx hb dX8_faultNumber_23 (by decide) ?_
        refine lv_istore (lv' := [(6, .int 0), (5, .int r2), (0, .ref (a_o 0)), (1, .ref (a_q1 0)), (2, .int v2_5), (3, .int v3_5), (4, .int v4_5)]) hx hb dX8_faultNumber_24 hl (by decide) rfl (fun ls hl => ?_)
        obtain ⟨code11, o3_u10, o6_u10, q12, h⟩ := bnd3_s h
        refine L26 200 _ _ _ _ _ H locs ls code11 o3_u10 o6_u10 hW (lv_sub hl [2, 3, 4, 5, 6, 1, 0] rfl) q12 (fun hc H locs ls hW hl => ?_) (fun hc H locs ls hW hl => ?_)
        · have h := ite_t hc h
          obtain ⟨w4_13, ew4_13⟩ : ∃ y : Int32, y = v4_5 + 1 := ⟨_, rfl⟩
          have h := lb_at ew4_13 h
          refine lv_iinc (v := w4_13) (lv' := [(4, .int w4_13), (0, .ref (a_o 0)), (1, .ref (a_q1 0)), (2, .int v2_5), (3, .int o3_u10)]) hx hb dX8_faultNumber_68 hl (k := 4) rfl (by rw [ew4_13]; rfl) (by decide) rfl (fun ls hl => ?_)
          refine lv_goto (tgt := 5) hx hb dX8_faultNumber_71 (by decide) ?_
          exact ih _ _ _ H locs ls _ _ _ _ hW (lv_sub hl [1, 2, 3, 4, 0] rfl) h k1 k2
        · have h := ite_f (by rw [hc]; decide) h
          obtain ⟨rfl, rfl, rfl, rfl⟩ := ret4 h
          exact k2 rfl H locs ls hW (lv_sub hl [0, 1] rfl)
  rw [f_X8_faultNumber] at h
  suffices hm : ∀ (H : Heap) (locs : List Loc), Wd D A s.heap (oc_X8 T a_o x_o ++ (oc_X6 T a_q1 x_q1 ++ Z)) H locs → W p l e (rmd 5) s m args below meth c H locs 0 0 Q (F0 m 0 ls []) from hm _ _ hW
  intro H locs hW
  refine lv_iconst (v := 0) hx hb dX8_faultNumber_0 (by decide) ?_
  refine lv_istore_n (lv' := [(3, .int 0), (0, .ref (a_o 0)), (1, .ref (a_q1 0)), (2, .int p2)]) hx hb dX8_faultNumber_1 rfl hl (by decide) rfl (fun ls hl => ?_)
  refine lv_iconst (v := 0) hx hb dX8_faultNumber_2 (by decide) ?_
  refine lv_istore (lv' := [(4, .int 0), (3, .int 0), (0, .ref (a_o 0)), (1, .ref (a_q1 0)), (2, .int p2)]) hx hb dX8_faultNumber_3 hl (by decide) rfl (fun ls hl => ?_)
  obtain ⟨code15, o3_u14, o4_u14, o6_u14, q16, h⟩ := bnd4_s h
  refine L5 200 _ _ _ H locs ls code15 o3_u14 o4_u14 o6_u14 hW (lv_sub hl [2, 3, 4, 1, 0] rfl) q16 (fun hc H locs ls hW hl => ?_) (fun hc H locs ls hW hl => ?_)
  · have h := ite_t hc h
    refine lv_iconst (v := (-1)) hx hb dX8_faultNumber_74 (by decide) ?_
    obtain rfl := ret1 h
    rw [hQ]
    exact g_reti hx hb hr hlk hW dX8_faultNumber_75
  · have h := ite_f (by rw [hc]; decide) h
    refine lv_bipush (v := 10) hx hb dX8_faultNumber_50 (by decide) ?_
    refine lv_iload hx hb dX8_faultNumber_52 (lv_at hl 1 rfl) ?_
    refine lv_imul hx hb dX8_faultNumber_54 ?_
    refine lv_iload hx hb dX8_faultNumber_55 (lv_at hl 0 rfl) ?_
    refine lv_iadd hx hb dX8_faultNumber_57 ?_
    obtain rfl := ret1 h
    rw [hQ]
    exact g_reti hx hb hr hlk hW dX8_faultNumber_58
set_option maxHeartbeats 4000000 in
set_option maxRecDepth 100000 in
theorem c_X9_grow (l : Launch) (D : va_G) (T : Nat → ClassId) (A : Nat → Prop) (a_o : Nat → Nat) (a_q1 : Nat → Nat) (Z : va_W)  (x_o : Ob) (x_q1 : Ob) (x_o9 : Ob) (h : f_X9_grow x_o x_q1 = some x_o9) : Met l yX9_grow (Cond.code yX9_grow cX9_grow 7 none :: wsL_law) (rmd 2) (Pg D T A (oc_X9 T a_o x_o ++ (oc_X0 T a_q1 x_q1 ++ Z)) [.ref (a_o 0), .ref (a_q1 0)]) (Qgv D A (oc_X9 T a_o x_o9 ++ (oc_X0 T a_q1 x_q1 ++ Z))) 0 0 A := by
  refine Met.ofW (cc := cX9_grow) (maxL := 7) (ret := none) (by decide +kernel) rfl ?_
  intro p e s m args below meth c s₁ B hml hv
  obtain ⟨ha, hP, hK, hD, hN⟩ := hv
  have hx := B.exec
  have hb := B.bytes
  have hr := B.returns
  have hlk := B.notSynchronized
  have hts : ∀ w ∈ wsL_law, w.before args s = true := fun w hw => atoms_spec B.pre w (List.mem_cons_of_mem _ hw)
  have hown : s.vm.findClass RX9 = some m.cls := findClass_of_methodNamed B.named
  have hW : Wd D A s.heap (oc_X9 T a_o x_o ++ (oc_X0 T a_q1 x_q1 ++ Z)) s.heap [] := ⟨hP, hD, va_S.rf⟩
  have hl := lv_entry [.ref (a_o 0), .ref (a_q1 0)] (n := 7) (Nat.le_of_ble_eq_true rfl)
  refine W.eq (en_eq ha) ?_
  generalize (lg_sl [.ref (a_o 0), .ref (a_q1 0)] ++ List.replicate (7 - (lg_sl [.ref (a_o 0), .ref (a_q1 0)]).length) Slot.unset).toArray = ls at hl ⊢
  have hl : lv_has ls 7 [(0, .ref (a_o 0)), (1, .ref (a_q1 0))] := hl
  clear hP hD B ha
  obtain ⟨Q, hQ⟩ : ∃ Q, Q = MQ below (Qgv D A (oc_X9 T a_o x_o9 ++ (oc_X0 T a_q1 x_q1 ++ Z))) args s 0 0 A := ⟨_, rfl⟩
  rw [← hQ]
  change W p l e (rmd 2) s m args below meth c s.heap [] 0 0 Q (F0 m 0 ls [])
  have J107 : ∀ (x_o_107 : Ob) (v2_107 : Int32) (v4_107 : Int32) (H : Heap) (locs : List Loc) (ls : Array Slot) (code : Nat) (o2j : Int32) (y_oj : Ob), Wd D A s.heap (oc_X9 T a_o x_o_107 ++ (oc_X0 T a_q1 x_q1 ++ Z)) H locs → lv_has ls 7 [(0, .ref (a_o 0)), (1, .ref (a_q1 0)), (2, .int v2_107), (4, .int v4_107)] → f_X9_grow_J107 x_o_107 x_q1 v2_107 v4_107 = some (code, o2j, y_oj) → (code = 0 → ∀ (H : Heap) (locs : List Loc) (ls : Array Slot), Wd D A s.heap (oc_X9 T a_o y_oj ++ (oc_X0 T a_q1 x_q1 ++ Z)) H locs → lv_has ls 7 [(0, .ref (a_o 0)), (1, .ref (a_q1 0)), (2, .int o2j)] → W p l e (rmd 2) s m args below meth c H locs 0 0 Q (F0 m 26 ls [])) → (code = 1 → ∀ (H : Heap) (locs : List Loc) (ls : Array Slot), Wd D A s.heap (oc_X9 T a_o y_oj ++ (oc_X0 T a_q1 x_q1 ++ Z)) H locs → lv_has ls 7 [] → W p l e (rmd 2) s m args below meth c H locs 0 0 Q (F0 m 136 ls [])) → W p l e (rmd 2) s m args below meth c H locs 0 0 Q (F0 m 107 ls []) := by
    intro x_o_107 v2_107 v4_107 H locs ls code o2j y_oj hW hl h k0 k1
    rw [f_X9_grow_J107] at h
    refine lv_aload_n hx hb dX9_grow_107 rfl (lv_at hl 1 rfl) ?_
    refine lv_iload hx hb dX9_grow_108 (lv_at hl 3 rfl) ?_
    refine lv_iconst (v := 1) hx hb dX9_grow_110 (by decide) ?_
    have hW := hW.perm pf1
    obtain ⟨r17, q18, h⟩ := bnd1_s h
    refine cl_X9_34 hx hb hml hown hts hK hN hW (c_X0_partOf l D T A a_q1 (oc_X9 T a_o x_o_107 ++ Z) x_q1 v4_107 1 r17 q18) ⟨Nat.le_of_ble_eq_true rfl, Nat.le_of_ble_eq_true rfl⟩ hl.1 rfl (Nat.le_of_ble_eq_true rfl) dX9_grow_111 ⟨Nat.zero_le _, Nat.zero_le _⟩ rfl (fun H locs hW => ?_)
    have hW := hW.perm pf1
    refine lv_istore (lv' := [(6, .int r17), (0, .ref (a_o 0)), (1, .ref (a_q1 0)), (2, .int v2_107), (4, .int v4_107)]) hx hb dX9_grow_114 hl (by decide) rfl (fun ls hl => ?_)
    refine lv_iload hx hb dX9_grow_116 (lv_at hl 0 rfl) ?_
    refine lv_iconst (v := (-1)) hx hb dX9_grow_118 (by decide) ?_
    refine lv_icmp_eq (tgt := 133) hx hb dX9_grow_119 (by decide) (fun c19 => ?_) (fun c19 => ?_)
    · have h := ite_t c19 h
      refine lv_goto (tgt := 26) hx hb dX9_grow_133 (by decide) ?_
      obtain ⟨rfl, rfl, rfl⟩ := ret3 h
      exact k0 rfl H locs ls hW (lv_sub hl [1, 2, 3] rfl)
    · have h := ite_f c19 h
      refine lv_aload_n hx hb dX9_grow_122 rfl (lv_at hl 1 rfl) ?_
      refine fg_X9_19 (v := .ref (a_o 2)) hx hb hts hown hK hW 0 rfl rfl dX9_grow_123 ?_
      refine lv_iload_n hx hb dX9_grow_126 rfl (lv_at hl 3 rfl) ?_
      refine lv_iload hx hb dX9_grow_127 (lv_at hl 0 rfl) ?_
      obtain ⟨g20, h⟩ := grd_s h
      refine g_iast (ws9 := oc_X9 T a_o (upo x_o_107 2 v2_107.toNatClampNeg r17) ++ (oc_X0 T a_q1 x_q1 ++ Z)) hx hb hK hW 2 rfl g20 sa_X9_2 dX9_grow_129 (fun H locs hW => ?_)
      obtain ⟨x_o21, ex_o21⟩ : ∃ y : Ob, y = upo x_o_107 2 v2_107.toNatClampNeg r17 := ⟨_, rfl⟩
      rw [← ex_o21] at hW
      have h := lb_at ex_o21 h
      obtain ⟨w2_22, ew2_22⟩ : ∃ y : Int32, y = v2_107 + 1 := ⟨_, rfl⟩
      have h := lb_at ew2_22 h
      refine lv_iinc (v := w2_22) (lv' := [(2, .int w2_22), (6, .int r17), (0, .ref (a_o 0)), (1, .ref (a_q1 0)), (4, .int v4_107)]) hx hb dX9_grow_130 hl (k := 3) rfl (by rw [ew2_22]; rfl) (by decide) rfl (fun ls hl => ?_)
      refine lv_goto (tgt := 26) hx hb dX9_grow_133 (by decide) ?_
      obtain ⟨rfl, rfl, rfl⟩ := ret3 h
      exact k0 rfl H locs ls hW (lv_sub hl [2, 3, 0] rfl)
  have L26 : ∀ (n : Nat) (x_o_26 : Ob) (v2_26 : Int32) (H : Heap) (locs : List Loc) (ls : Array Slot) (o2_26r : Int32) (y_o_26r : Ob), Wd D A s.heap (oc_X9 T a_o x_o_26 ++ (oc_X0 T a_q1 x_q1 ++ Z)) H locs → lv_has ls 7 [(0, .ref (a_o 0)), (1, .ref (a_q1 0)), (2, .int v2_26)] → f_X9_grow_L26 n x_o_26 x_q1 v2_26 = some (o2_26r, y_o_26r) → (∀ (H : Heap) (locs : List Loc) (ls : Array Slot), Wd D A s.heap (oc_X9 T a_o y_o_26r ++ (oc_X0 T a_q1 x_q1 ++ Z)) H locs → lv_has ls 7 [] → W p l e (rmd 2) s m args below meth c H locs 0 0 Q (F0 m 136 ls [])) → W p l e (rmd 2) s m args below meth c H locs 0 0 Q (F0 m 26 ls []) := by
    intro n
    induction n with
    | zero =>
      intro x_o_26 v2_26 H locs ls o2_26r y_o_26r hW hl h k1
      rw [f_X9_grow_L26] at h
      cases h
    | succ n ih =>
      intro x_o_26 v2_26 H locs ls o2_26r y_o_26r hW hl h k1
      rw [f_X9_grow_L26] at h
      refine lv_iload_n hx hb dX9_grow_26 rfl (lv_at hl 2 rfl) ?_
      refine lv_if_le (tgt := 136) hx hb dX9_grow_27 (by decide) (fun c5 => ?_) (fun c5 => ?_)
      · have h := ite_t c5 h
        obtain ⟨rfl, rfl⟩ := ret2 h
        exact k1 H locs ls hW (lv_sub hl [] rfl)
      · have h := ite_f c5 h
        refine lv_iload_n hx hb dX9_grow_30 rfl (lv_at hl 2 rfl) ?_
        refine lv_iconst (v := 1) hx hb dX9_grow_31 (by decide) ?_
        refine lv_iadd hx hb dX9_grow_32 ?_
        refine lv_sipush (v := 128) hx hb dX9_grow_33 (by decide) ?_
        refine lv_icmp_ge (tgt := 136) hx hb dX9_grow_36 (by decide) (fun c6 => ?_) (fun c6 => ?_)
        · have h := ite_t c6 h
          obtain ⟨rfl, rfl⟩ := ret2 h
          exact k1 H locs ls hW (lv_sub hl [] rfl)
        · have h := ite_f c6 h
          refine lv_aload_n hx hb dX9_grow_39 rfl (lv_at hl 0 rfl) ?_
          refine fg_X9_9 (v := .int (x_o_26 0 0)) hx hb hts hown hK hW 0 rfl rfl dX9_grow_40 ?_
          refine lv_sipush (v := 128) hx hb dX9_grow_43 (by decide) ?_
          refine lv_icmp_ge (tgt := 136) hx hb dX9_grow_46 (by decide) (fun c7 => ?_) (fun c7 => ?_)
          · have h := ite_t c7 h
            obtain ⟨rfl, rfl⟩ := ret2 h
            exact k1 H locs ls hW (lv_sub hl [] rfl)
          · have h := ite_f c7 h
            obtain ⟨w2_8, ew2_8⟩ : ∃ y : Int32, y = v2_26 + (-1) := ⟨_, rfl⟩
            have h := lb_at ew2_8 h
            refine lv_iinc (v := w2_8) (lv' := [(2, .int w2_8), (0, .ref (a_o 0)), (1, .ref (a_q1 0))]) hx hb dX9_grow_49 hl (k := 2) rfl (by rw [ew2_8]; rfl) (by decide) rfl (fun ls hl => ?_)
            refine lv_aload_n hx hb dX9_grow_52 rfl (lv_at hl 1 rfl) ?_
            refine fg_X9_19 (v := .ref (a_o 2)) hx hb hts hown hK hW 0 rfl rfl dX9_grow_53 ?_
            refine lv_iload_n hx hb dX9_grow_56 rfl (lv_at hl 0 rfl) ?_
            obtain ⟨g9, h⟩ := grd_s h
            refine g_iald hx hb hK hW 2 rfl g9 dX9_grow_57 ?_
            refine lv_topi (fun w4_10 ew4_10 => ?_)
            have h := lb_at ew4_10 h
            refine lv_istore (lv' := [(4, .int w4_10), (2, .int w2_8), (0, .ref (a_o 0)), (1, .ref (a_q1 0))]) hx hb dX9_grow_58 hl (by decide) rfl (fun ls hl => ?_)
            refine lv_aload_n hx hb dX9_grow_60 rfl (lv_at hl 2 rfl) ?_
            refine fg_X9_15 (v := .ref (a_o 1)) hx hb hts hown hK hW 0 rfl rfl dX9_grow_61 ?_
            refine lv_aload_n hx hb dX9_grow_64 rfl (lv_at hl 2 rfl) ?_
            refine fg_X9_9 (v := .int (x_o_26 0 0)) hx hb hts hown hK hW 0 rfl rfl dX9_grow_65 ?_
            refine lv_iload hx hb dX9_grow_68 (lv_at hl 0 rfl) ?_
            obtain ⟨g11, h⟩ := grd_s h
            refine g_iast (ws9 := oc_X9 T a_o (upo x_o_26 1 (x_o_26 0 0).toNatClampNeg w4_10) ++ (oc_X0 T a_q1 x_q1 ++ Z)) hx hb hK hW 1 rfl g11 sa_X9_1 dX9_grow_70 (fun H locs hW => ?_)
            obtain ⟨x_o12, ex_o12⟩ : ∃ y : Ob, y = upo x_o_26 1 (x_o_26 0 0).toNatClampNeg w4_10 := ⟨_, rfl⟩
            rw [← ex_o12] at hW
            have h := lb_at ex_o12 h
            refine lv_aload_n hx hb dX9_grow_71 rfl (lv_at hl 2 rfl) ?_
            refine lv_dup hx hb dX9_grow_72 rfl ?_
            refine fg_X9_9 (v := .int (x_o12 0 0)) hx hb hts hown hK hW 0 rfl rfl dX9_grow_73 ?_
            refine lv_iconst (v := 1) hx hb dX9_grow_76 (by decide) ?_
            refine lv_iadd hx hb dX9_grow_77 ?_
            refine fp_X9_9 (ws9 := oc_X9 T a_o (upo x_o12 0 0 ((x_o12 0 0) + 1)) ++ (oc_X0 T a_q1 x_q1 ++ Z)) hx hb hts hown hK hW 0 rfl (Nat.le_of_ble_eq_true rfl) sf_X9_0 dX9_grow_78 (fun H locs hW => ?_)
            obtain ⟨x_o13, ex_o13⟩ : ∃ y : Ob, y = upo x_o12 0 0 ((x_o12 0 0) + 1) := ⟨_, rfl⟩
            rw [← ex_o13] at hW
            have h := lb_at ex_o13 h
            refine lv_aload_n hx hb dX9_grow_81 rfl (lv_at hl 3 rfl) ?_
            refine lv_iload hx hb dX9_grow_82 (lv_at hl 0 rfl) ?_
            refine lv_iconst (v := 2) hx hb dX9_grow_84 (by decide) ?_
            have hW := hW.perm pf1
            obtain ⟨r14, q15, h⟩ := bnd1_s h
            refine cl_X9_34 hx hb hml hown hts hK hN hW (c_X0_partOf l D T A a_q1 (oc_X9 T a_o x_o13 ++ Z) x_q1 w4_10 2 r14 q15) ⟨Nat.le_of_ble_eq_true rfl, Nat.le_of_ble_eq_true rfl⟩ hl.1 rfl (Nat.le_of_ble_eq_true rfl) dX9_grow_85 ⟨Nat.zero_le _, Nat.zero_le _⟩ rfl (fun H locs hW => ?_)
            have hW := hW.perm pf1
            refine lv_istore (lv' := [(5, .int r14), (4, .int w4_10), (2, .int w2_8), (0, .ref (a_o 0)), (1, .ref (a_q1 0))]) hx hb dX9_grow_88 hl (by decide) rfl (fun ls hl => ?_)
            refine lv_iload hx hb dX9_grow_90 (lv_at hl 0 rfl) ?_
            refine lv_iconst (v := (-1)) hx hb dX9_grow_92 (by decide) ?_
            refine lv_icmp_eq (tgt := 107) hx hb dX9_grow_93 (by decide) (fun c16 => ?_) (fun c16 => ?_)
            · have h := ite_t c16 h
              obtain ⟨code24, o2_t23, y_o_t23, q25, h⟩ := bnd3_s h
              refine J107 _ _ _ H locs ls code24 o2_t23 y_o_t23 hW (lv_sub hl [3, 4, 2, 1] rfl) q25 (fun hc H locs ls hW hl => ?_) (fun hc H locs ls hW hl => ?_)
              · have h := ite_t hc h
                exact ih _ _ H locs ls _ _ hW (lv_sub hl [0, 1, 2] rfl) h k1
              · have h := ite_f (by rw [hc]; decide) h
                obtain ⟨rfl, rfl⟩ := ret2 h
                exact k1 H locs ls hW hl
            · have h := ite_f c16 h
              refine lv_aload_n hx hb dX9_grow_96 rfl (lv_at hl 3 rfl) ?_
              refine fg_X9_19 (v := .ref (a_o 2)) hx hb hts hown hK hW 0 rfl rfl dX9_grow_97 ?_
              refine lv_iload_n hx hb dX9_grow_100 rfl (lv_at hl 2 rfl) ?_
              refine lv_iload hx hb dX9_grow_101 (lv_at hl 0 rfl) ?_
              obtain ⟨g26, h⟩ := grd_s h
              refine g_iast (ws9 := oc_X9 T a_o (upo x_o13 2 w2_8.toNatClampNeg r14) ++ (oc_X0 T a_q1 x_q1 ++ Z)) hx hb hK hW 2 rfl g26 sa_X9_2 dX9_grow_103 (fun H locs hW => ?_)
              obtain ⟨x_o27, ex_o27⟩ : ∃ y : Ob, y = upo x_o13 2 w2_8.toNatClampNeg r14 := ⟨_, rfl⟩
              rw [← ex_o27] at hW
              have h := lb_at ex_o27 h
              obtain ⟨w2_28, ew2_28⟩ : ∃ y : Int32, y = w2_8 + 1 := ⟨_, rfl⟩
              have h := lb_at ew2_28 h
              refine lv_iinc (v := w2_28) (lv' := [(2, .int w2_28), (5, .int r14), (4, .int w4_10), (0, .ref (a_o 0)), (1, .ref (a_q1 0))]) hx hb dX9_grow_104 hl (k := 2) rfl (by rw [ew2_28]; rfl) (by decide) rfl (fun ls hl => ?_)
              obtain ⟨code30, o2_t29, y_o_t29, q31, h⟩ := bnd3_s h
              refine J107 _ _ _ H locs ls code30 o2_t29 y_o_t29 hW (lv_sub hl [3, 4, 0, 2] rfl) q31 (fun hc H locs ls hW hl => ?_) (fun hc H locs ls hW hl => ?_)
              · have h := ite_t hc h
                exact ih _ _ H locs ls _ _ hW (lv_sub hl [0, 1, 2] rfl) h k1
              · have h := ite_f (by rw [hc]; decide) h
                obtain ⟨rfl, rfl⟩ := ret2 h
                exact k1 H locs ls hW hl
  have J26 : ∀ (x_o_26 : Ob) (v2_26 : Int32) (H : Heap) (locs : List Loc) (ls : Array Slot), Wd D A s.heap (oc_X9 T a_o x_o_26 ++ (oc_X0 T a_q1 x_q1 ++ Z)) H locs → lv_has ls 7 [(0, .ref (a_o 0)), (1, .ref (a_q1 0)), (2, .int v2_26)] → f_X9_grow_J26 x_o_26 x_q1 v2_26 = some x_o9 → W p l e (rmd 2) s m args below meth c H locs 0 0 Q (F0 m 26 ls []) := by
    intro x_o_26 v2_26 H locs ls hW hl h
    rw [f_X9_grow_J26] at h
    obtain ⟨o2_u32, y_o_u32, q33, h⟩ := bnd2_s h
    refine L26 200 _ _ H locs ls o2_u32 y_o_u32 hW (lv_sub hl [0, 1, 2] rfl) q33 (fun H locs ls hW hl => ?_)
    obtain rfl := ret1 h
    rw [hQ]
    exact g_retv hx hb hr hlk hW dX9_grow_136
  rw [f_X9_grow] at h
  suffices hm : ∀ (H : Heap) (locs : List Loc), Wd D A s.heap (oc_X9 T a_o x_o ++ (oc_X0 T a_q1 x_q1 ++ Z)) H locs → W p l e (rmd 2) s m args below meth c H locs 0 0 Q (F0 m 0 ls []) from hm _ _ hW
  intro H locs hW
  refine lv_aload_n hx hb dX9_grow_0 rfl (lv_at hl 0 rfl) ?_
  refine lv_iconst (v := 0) hx hb dX9_grow_1 (by decide) ?_
  refine fp_X9_9 (ws9 := oc_X9 T a_o (upo x_o 0 0 0) ++ (oc_X0 T a_q1 x_q1 ++ Z)) hx hb hts hown hK hW 0 rfl (Nat.le_of_ble_eq_true rfl) sf_X9_0 dX9_grow_2 (fun H locs hW => ?_)
  obtain ⟨x_o1, ex_o1⟩ : ∃ y : Ob, y = upo x_o 0 0 0 := ⟨_, rfl⟩
  rw [← ex_o1] at hW
  have h := lb_at ex_o1 h
  refine lv_iconst (v := 0) hx hb dX9_grow_5 (by decide) ?_
  refine lv_istore_n (lv' := [(2, .int 0), (0, .ref (a_o 0)), (1, .ref (a_q1 0))]) hx hb dX9_grow_6 rfl hl (by decide) rfl (fun ls hl => ?_)
  refine lv_aload_n hx hb dX9_grow_7 rfl (lv_at hl 2 rfl) ?_
  have hW := hW.perm pf1
  obtain ⟨r2, q3, h⟩ := bnd1_s h
  refine cl_X9_28 hx hb hml hown hts hK hN hW (c_X0_wholeEdge l D T A a_q1 (oc_X9 T a_o x_o1 ++ Z) x_q1 r2 q3) ⟨Nat.le_of_ble_eq_true rfl, Nat.le_of_ble_eq_true rfl⟩ hl.1 rfl (Nat.le_of_ble_eq_true rfl) dX9_grow_8 ⟨Nat.zero_le _, Nat.zero_le _⟩ rfl (fun H locs hW => ?_)
  have hW := hW.perm pf1
  refine lv_istore_n (lv' := [(3, .int r2), (2, .int 0), (0, .ref (a_o 0)), (1, .ref (a_q1 0))]) hx hb dX9_grow_11 rfl hl (by decide) rfl (fun ls hl => ?_)
  refine lv_iload_n hx hb dX9_grow_12 rfl (lv_at hl 0 rfl) ?_
  refine lv_iconst (v := (-1)) hx hb dX9_grow_13 (by decide) ?_
  refine lv_icmp_eq (tgt := 26) hx hb dX9_grow_14 (by decide) (fun c4 => ?_) (fun c4 => ?_)
  · have h := ite_t c4 h
    exact J26 _ _ H locs ls hW (lv_sub hl [2, 3, 1] rfl) h
  · have h := ite_f c4 h
    refine lv_aload_n hx hb dX9_grow_17 rfl (lv_at hl 2 rfl) ?_
    refine fg_X9_19 (v := .ref (a_o 2)) hx hb hts hown hK hW 0 rfl rfl dX9_grow_18 ?_
    refine lv_iconst (v := 0) hx hb dX9_grow_21 (by decide) ?_
    refine lv_iload_n hx hb dX9_grow_22 rfl (lv_at hl 0 rfl) ?_
    refine g_iast (ws9 := oc_X9 T a_o (upo x_o1 2 (0 : Int32).toNatClampNeg r2) ++ (oc_X0 T a_q1 x_q1 ++ Z)) hx hb hK hW 2 rfl (by decide) sa_X9_2 dX9_grow_23 (fun H locs hW => ?_)
    obtain ⟨x_o34, ex_o34⟩ : ∃ y : Ob, y = upo x_o1 2 (0 : Int32).toNatClampNeg r2 := ⟨_, rfl⟩
    rw [← ex_o34] at hW
    have h := lb_at ex_o34 h
    refine lv_iconst (v := 1) hx hb dX9_grow_24 (by decide) ?_
    refine lv_istore_n (lv' := [(2, .int 1), (3, .int r2), (0, .ref (a_o 0)), (1, .ref (a_q1 0))]) hx hb dX9_grow_25 rfl hl (by decide) rfl (fun ls hl => ?_)
    exact J26 _ _ H locs ls hW (lv_sub hl [2, 3, 0] rfl) h
set_option maxHeartbeats 4000000 in
set_option maxRecDepth 100000 in
theorem c_X9_countRelaxed (l : Launch) (D : va_G) (T : Nat → ClassId) (A : Nat → Prop) (a_o : Nat → Nat) (a_q1 : Nat → Nat) (Z : va_W)  (x_o : Ob) (x_q1 : Ob) (r : Int32) (h : f_X9_countRelaxed x_o x_q1 = some r) : Met l yX9_countRelaxed (Cond.code yX9_countRelaxed cX9_countRelaxed 5 (some .int) :: wsL_law) (rmd 3) (Pg D T A (oc_X9 T a_o x_o ++ (oc_X0 T a_q1 x_q1 ++ Z)) [.ref (a_o 0), .ref (a_q1 0)]) (Qgi D A (oc_X9 T a_o x_o ++ (oc_X0 T a_q1 x_q1 ++ Z)) r) 0 0 A := by
  refine Met.ofW (cc := cX9_countRelaxed) (maxL := 5) (ret := (some .int)) (by decide +kernel) rfl ?_
  intro p e s m args below meth c s₁ B hml hv
  obtain ⟨ha, hP, hK, hD, hN⟩ := hv
  have hx := B.exec
  have hb := B.bytes
  have hr := B.returns
  have hlk := B.notSynchronized
  have hts : ∀ w ∈ wsL_law, w.before args s = true := fun w hw => atoms_spec B.pre w (List.mem_cons_of_mem _ hw)
  have hown : s.vm.findClass RX9 = some m.cls := findClass_of_methodNamed B.named
  have hW : Wd D A s.heap (oc_X9 T a_o x_o ++ (oc_X0 T a_q1 x_q1 ++ Z)) s.heap [] := ⟨hP, hD, va_S.rf⟩
  have hl := lv_entry [.ref (a_o 0), .ref (a_q1 0)] (n := 5) (Nat.le_of_ble_eq_true rfl)
  refine W.eq (en_eq ha) ?_
  generalize (lg_sl [.ref (a_o 0), .ref (a_q1 0)] ++ List.replicate (5 - (lg_sl [.ref (a_o 0), .ref (a_q1 0)]).length) Slot.unset).toArray = ls at hl ⊢
  have hl : lv_has ls 5 [(0, .ref (a_o 0)), (1, .ref (a_q1 0))] := hl
  clear hP hD B ha
  obtain ⟨Q, hQ⟩ : ∃ Q, Q = MQ below (Qgi D A (oc_X9 T a_o x_o ++ (oc_X0 T a_q1 x_q1 ++ Z)) r) args s 0 0 A := ⟨_, rfl⟩
  rw [← hQ]
  change W p l e (rmd 3) s m args below meth c s.heap [] 0 0 Q (F0 m 0 ls [])
  have L15 : ∀ (n : Nat) (v2_15 : Int32) (v3_15 : Int32) (v4_15 : Int32) (H : Heap) (locs : List Loc) (ls : Array Slot) (o2_15r : Int32) (o4_15r : Int32), Wd D A s.heap (oc_X9 T a_o x_o ++ (oc_X0 T a_q1 x_q1 ++ Z)) H locs → lv_has ls 5 [(0, .ref (a_o 0)), (1, .ref (a_q1 0)), (2, .int v2_15), (3, .int v3_15), (4, .int v4_15)] → f_X9_countRelaxed_L15 n x_o x_q1 v2_15 v3_15 v4_15 = some (o2_15r, o4_15r) → (∀ (H : Heap) (locs : List Loc) (ls : Array Slot), Wd D A s.heap (oc_X9 T a_o x_o ++ (oc_X0 T a_q1 x_q1 ++ Z)) H locs → lv_has ls 5 [(0, .ref (a_o 0)), (1, .ref (a_q1 0)), (2, .int o2_15r), (3, .int v3_15)] → W p l e (rmd 3) s m args below meth c H locs 0 0 Q (F0 m 50 ls [])) → W p l e (rmd 3) s m args below meth c H locs 0 0 Q (F0 m 15 ls []) := by
    intro n
    induction n with
    | zero =>
      intro v2_15 v3_15 v4_15 H locs ls o2_15r o4_15r hW hl h k1
      rw [f_X9_countRelaxed_L15] at h
      cases h
    | succ n ih =>
      intro v2_15 v3_15 v4_15 H locs ls o2_15r o4_15r hW hl h k1
      rw [f_X9_countRelaxed_L15] at h
      refine lv_iload hx hb dX9_countRelaxed_15 (lv_at hl 4 rfl) ?_
      refine lv_iconst (v := 3) hx hb dX9_countRelaxed_17 (by decide) ?_
      refine lv_icmp_ge (tgt := 50) hx hb dX9_countRelaxed_18 (by decide) (fun c2 => ?_) (fun c2 => ?_)
      · have h := ite_t c2 h
        obtain ⟨rfl, rfl⟩ := ret2 h
        exact k1 H locs ls hW (lv_sub hl [0, 1, 2, 3] rfl)
      · have h := ite_f c2 h
        refine lv_iload_n hx hb dX9_countRelaxed_21 rfl (lv_at hl 2 rfl) ?_
        refine lv_aload_n hx hb dX9_countRelaxed_22 rfl (lv_at hl 1 rfl) ?_
        refine lv_aload_n hx hb dX9_countRelaxed_23 rfl (lv_at hl 0 rfl) ?_
        refine fg_X9_15 (v := .ref (a_o 1)) hx hb hts hown hK hW 0 rfl rfl dX9_countRelaxed_24 ?_
        refine lv_iload_n hx hb dX9_countRelaxed_27 rfl (lv_at hl 3 rfl) ?_
        obtain ⟨g3, h⟩ := grd_s h
        refine g_iald hx hb hK hW 1 rfl g3 dX9_countRelaxed_28 ?_
        refine lv_iload hx hb dX9_countRelaxed_29 (lv_at hl 4 rfl) ?_
        have hW := hW.perm pf1
        obtain ⟨r4, q5, h⟩ := bnd1_s h
        refine cl_X9_38 hx hb hml hown hts hK hN hW (c_X0_isRelaxed l D T A a_q1 (oc_X9 T a_o x_o ++ Z) x_q1 (x_o 1 v3_15.toNatClampNeg) v4_15 r4 q5) ⟨Nat.le_of_ble_eq_true rfl, Nat.le_of_ble_eq_true rfl⟩ hl.1 rfl (Nat.le_of_ble_eq_true rfl) dX9_countRelaxed_31 ⟨Nat.zero_le _, Nat.zero_le _⟩ rfl (fun H locs hW => ?_)
        have hW := hW.perm pf1
        refine lv_if_eq (tgt := 41) hx hb dX9_countRelaxed_34 (by decide) (fun c6 => ?_) (fun c6 => ?_)
        · have h := ite_t c6 h
          refine lv_iconst (v := 0) hx hb dX9_countRelaxed_41 (by decide) ?_
          refine lv_iadd hx hb dX9_countRelaxed_42 ?_
          refine lv_topi (fun w2_7 ew2_7 => ?_)
          have h := lb_at ew2_7 h
          refine lv_istore_n (lv' := [(2, .int w2_7), (0, .ref (a_o 0)), (1, .ref (a_q1 0)), (3, .int v3_15), (4, .int v4_15)]) hx hb dX9_countRelaxed_43 rfl hl (by decide) rfl (fun ls hl => ?_)
          obtain ⟨w4_8, ew4_8⟩ : ∃ y : Int32, y = v4_15 + 1 := ⟨_, rfl⟩
          have h := lb_at ew4_8 h
          refine lv_iinc (v := w4_8) (lv' := [(4, .int w4_8), (2, .int w2_7), (0, .ref (a_o 0)), (1, .ref (a_q1 0)), (3, .int v3_15)]) hx hb dX9_countRelaxed_44 hl (k := 4) rfl (by rw [ew4_8]; rfl) (by decide) rfl (fun ls hl => ?_)
          refine lv_goto (tgt := 15) hx hb dX9_countRelaxed_47 (by decide) ?_
          exact ih _ _ _ H locs ls _ _ hW (lv_sub hl [2, 3, 1, 4, 0] rfl) h k1
        · have h := ite_f c6 h
          refine lv_iconst (v := 1) hx hb dX9_countRelaxed_37 (by decide) ?_
          refine lv_goto (tgt := 42) hx hb dX9_countRelaxed_38 (by decide) ?_
          refine lv_iadd hx hb dX9_countRelaxed_42 ?_
          refine lv_topi (fun w2_9 ew2_9 => ?_)
          have h := lb_at ew2_9 h
          refine lv_istore_n (lv' := [(2, .int w2_9), (0, .ref (a_o 0)), (1, .ref (a_q1 0)), (3, .int v3_15), (4, .int v4_15)]) hx hb dX9_countRelaxed_43 rfl hl (by decide) rfl (fun ls hl => ?_)
          obtain ⟨w4_10, ew4_10⟩ : ∃ y : Int32, y = v4_15 + 1 := ⟨_, rfl⟩
          have h := lb_at ew4_10 h
          refine lv_iinc (v := w4_10) (lv' := [(4, .int w4_10), (2, .int w2_9), (0, .ref (a_o 0)), (1, .ref (a_q1 0)), (3, .int v3_15)]) hx hb dX9_countRelaxed_44 hl (k := 4) rfl (by rw [ew4_10]; rfl) (by decide) rfl (fun ls hl => ?_)
          refine lv_goto (tgt := 15) hx hb dX9_countRelaxed_47 (by decide) ?_
          exact ih _ _ _ H locs ls _ _ hW (lv_sub hl [2, 3, 1, 4, 0] rfl) h k1
  have L4 : ∀ (n : Nat) (v2_4 : Int32) (v3_4 : Int32) (H : Heap) (locs : List Loc) (ls : Array Slot) (o2_4r : Int32) (o3_4r : Int32), Wd D A s.heap (oc_X9 T a_o x_o ++ (oc_X0 T a_q1 x_q1 ++ Z)) H locs → lv_has ls 5 [(0, .ref (a_o 0)), (1, .ref (a_q1 0)), (2, .int v2_4), (3, .int v3_4)] → f_X9_countRelaxed_L4 n x_o x_q1 v2_4 v3_4 = some (o2_4r, o3_4r) → (∀ (H : Heap) (locs : List Loc) (ls : Array Slot), Wd D A s.heap (oc_X9 T a_o x_o ++ (oc_X0 T a_q1 x_q1 ++ Z)) H locs → lv_has ls 5 [(2, .int o2_4r)] → W p l e (rmd 3) s m args below meth c H locs 0 0 Q (F0 m 56 ls [])) → W p l e (rmd 3) s m args below meth c H locs 0 0 Q (F0 m 4 ls []) := by
    intro n
    induction n with
    | zero =>
      intro v2_4 v3_4 H locs ls o2_4r o3_4r hW hl h k1
      rw [f_X9_countRelaxed_L4] at h
      cases h
    | succ n ih =>
      intro v2_4 v3_4 H locs ls o2_4r o3_4r hW hl h k1
      rw [f_X9_countRelaxed_L4] at h
      refine lv_iload_n hx hb dX9_countRelaxed_4 rfl (lv_at hl 3 rfl) ?_
      refine lv_aload_n hx hb dX9_countRelaxed_5 rfl (lv_at hl 0 rfl) ?_
      refine fg_X9_9 (v := .int (x_o 0 0)) hx hb hts hown hK hW 0 rfl rfl dX9_countRelaxed_6 ?_
      refine lv_icmp_ge (tgt := 56) hx hb dX9_countRelaxed_9 (by decide) (fun c1 => ?_) (fun c1 => ?_)
      · have h := ite_t c1 h
        obtain ⟨rfl, rfl⟩ := ret2 h
        exact k1 H locs ls hW (lv_sub hl [2] rfl)
      · have h := ite_f c1 h
        refine lv_iconst (v := 0) hx hb dX9_countRelaxed_12 (by decide) ?_
        refine lv_istore (lv' := [(4, .int 0), (0, .ref (a_o 0)), (1, .ref (a_q1 0)), (2, .int v2_4), (3, .int v3_4)]) hx hb dX9_countRelaxed_13 hl (by decide) rfl (fun ls hl => ?_)
        obtain ⟨o2_u11, o4_u11, q12, h⟩ := bnd2_s h
        refine L15 200 _ _ _ H locs ls o2_u11 o4_u11 hW (lv_sub hl [1, 2, 3, 4, 0] rfl) q12 (fun H locs ls hW hl => ?_)
        obtain ⟨w3_13, ew3_13⟩ : ∃ y : Int32, y = v3_4 + 1 := ⟨_, rfl⟩
        have h := lb_at ew3_13 h
        refine lv_iinc (v := w3_13) (lv' := [(3, .int w3_13), (0, .ref (a_o 0)), (1, .ref (a_q1 0)), (2, .int o2_u11)]) hx hb dX9_countRelaxed_50 hl (k := 3) rfl (by rw [ew3_13]; rfl) (by decide) rfl (fun ls hl => ?_)
        refine lv_goto (tgt := 4) hx hb dX9_countRelaxed_53 (by decide) ?_
        exact ih _ _ H locs ls _ _ hW (lv_sub hl [1, 2, 3, 0] rfl) h k1
  rw [f_X9_countRelaxed] at h
  suffices hm : ∀ (H : Heap) (locs : List Loc), Wd D A s.heap (oc_X9 T a_o x_o ++ (oc_X0 T a_q1 x_q1 ++ Z)) H locs → W p l e (rmd 3) s m args below meth c H locs 0 0 Q (F0 m 0 ls []) from hm _ _ hW
  intro H locs hW
  refine lv_iconst (v := 0) hx hb dX9_countRelaxed_0 (by decide) ?_
  refine lv_istore_n (lv' := [(2, .int 0), (0, .ref (a_o 0)), (1, .ref (a_q1 0))]) hx hb dX9_countRelaxed_1 rfl hl (by decide) rfl (fun ls hl => ?_)
  refine lv_iconst (v := 0) hx hb dX9_countRelaxed_2 (by decide) ?_
  refine lv_istore_n (lv' := [(3, .int 0), (2, .int 0), (0, .ref (a_o 0)), (1, .ref (a_q1 0))]) hx hb dX9_countRelaxed_3 rfl hl (by decide) rfl (fun ls hl => ?_)
  obtain ⟨o2_u14, o3_u14, q15, h⟩ := bnd2_s h
  refine L4 200 _ _ H locs ls o2_u14 o3_u14 hW (lv_sub hl [2, 3, 1, 0] rfl) q15 (fun H locs ls hW hl => ?_)
  refine lv_iload_n hx hb dX9_countRelaxed_56 rfl (lv_at hl 0 rfl) ?_
  obtain rfl := ret1 h
  rw [hQ]
  exact g_reti hx hb hr hlk hW dX9_countRelaxed_57
set_option maxHeartbeats 4000000 in
set_option maxRecDepth 100000 in
theorem c_X9_findRelaxed (l : Launch) (D : va_G) (T : Nat → ClassId) (A : Nat → Prop) (a_o : Nat → Nat) (a_q1 : Nat → Nat) (Z : va_W)  (x_o : Ob) (x_q1 : Ob) (p2 : Int32) (r : Int32) (h : f_X9_findRelaxed x_o x_q1 p2 = some r) : Met l yX9_findRelaxed (Cond.code yX9_findRelaxed cX9_findRelaxed 6 (some .int) :: wsL_law) (rmd 3) (Pg D T A (oc_X9 T a_o x_o ++ (oc_X0 T a_q1 x_q1 ++ Z)) [.ref (a_o 0), .ref (a_q1 0), .int p2]) (Qgi D A (oc_X9 T a_o x_o ++ (oc_X0 T a_q1 x_q1 ++ Z)) r) 0 0 A := by
  refine Met.ofW (cc := cX9_findRelaxed) (maxL := 6) (ret := (some .int)) (by decide +kernel) rfl ?_
  intro p e s m args below meth c s₁ B hml hv
  obtain ⟨ha, hP, hK, hD, hN⟩ := hv
  have hx := B.exec
  have hb := B.bytes
  have hr := B.returns
  have hlk := B.notSynchronized
  have hts : ∀ w ∈ wsL_law, w.before args s = true := fun w hw => atoms_spec B.pre w (List.mem_cons_of_mem _ hw)
  have hown : s.vm.findClass RX9 = some m.cls := findClass_of_methodNamed B.named
  have hW : Wd D A s.heap (oc_X9 T a_o x_o ++ (oc_X0 T a_q1 x_q1 ++ Z)) s.heap [] := ⟨hP, hD, va_S.rf⟩
  have hl := lv_entry [.ref (a_o 0), .ref (a_q1 0), .int p2] (n := 6) (Nat.le_of_ble_eq_true rfl)
  refine W.eq (en_eq ha) ?_
  generalize (lg_sl [.ref (a_o 0), .ref (a_q1 0), .int p2] ++ List.replicate (6 - (lg_sl [.ref (a_o 0), .ref (a_q1 0), .int p2]).length) Slot.unset).toArray = ls at hl ⊢
  have hl : lv_has ls 6 [(0, .ref (a_o 0)), (1, .ref (a_q1 0)), (2, .int p2)] := hl
  clear hP hD B ha
  obtain ⟨Q, hQ⟩ : ∃ Q, Q = MQ below (Qgi D A (oc_X9 T a_o x_o ++ (oc_X0 T a_q1 x_q1 ++ Z)) r) args s 0 0 A := ⟨_, rfl⟩
  rw [← hQ]
  change W p l e (rmd 3) s m args below meth c s.heap [] 0 0 Q (F0 m 0 ls [])
  have L17 : ∀ (n : Nat) (v2_17 : Int32) (v3_17 : Int32) (v4_17 : Int32) (v5_17 : Int32) (H : Heap) (locs : List Loc) (ls : Array Slot) (code : Nat) (o3_17r : Int32) (o5_17r : Int32), Wd D A s.heap (oc_X9 T a_o x_o ++ (oc_X0 T a_q1 x_q1 ++ Z)) H locs → lv_has ls 6 [(0, .ref (a_o 0)), (1, .ref (a_q1 0)), (2, .int v2_17), (3, .int v3_17), (4, .int v4_17), (5, .int v5_17)] → f_X9_findRelaxed_L17 n x_o x_q1 v2_17 v3_17 v4_17 v5_17 = some (code, o3_17r, o5_17r) → (code = 1 → ∀ (H : Heap) (locs : List Loc) (ls : Array Slot), Wd D A s.heap (oc_X9 T a_o x_o ++ (oc_X0 T a_q1 x_q1 ++ Z)) H locs → lv_has ls 6 [(0, .ref (a_o 0)), (1, .ref (a_q1 0)), (2, .int v2_17), (3, .int o3_17r), (4, .int v4_17)] → W p l e (rmd 3) s m args below meth c H locs 0 0 Q (F0 m 66 ls [])) → (code = 2 → ∀ (H : Heap) (locs : List Loc) (ls : Array Slot), Wd D A s.heap (oc_X9 T a_o x_o ++ (oc_X0 T a_q1 x_q1 ++ Z)) H locs → lv_has ls 6 [(0, .ref (a_o 0)), (4, .int v4_17), (5, .int o5_17r)] → W p l e (rmd 3) s m args below meth c H locs 0 0 Q (F0 m 44 ls [])) → W p l e (rmd 3) s m args below meth c H locs 0 0 Q (F0 m 17 ls []) := by
    intro n
    induction n with
    | zero =>
      intro v2_17 v3_17 v4_17 v5_17 H locs ls code o3_17r o5_17r hW hl h k1 k2
      rw [f_X9_findRelaxed_L17] at h
      cases h
    | succ n ih =>
      intro v2_17 v3_17 v4_17 v5_17 H locs ls code o3_17r o5_17r hW hl h k1 k2
      rw [f_X9_findRelaxed_L17] at h
      refine lv_iload hx hb dX9_findRelaxed_17 (lv_at hl 5 rfl) ?_
      refine lv_iconst (v := 3) hx hb dX9_findRelaxed_19 (by decide) ?_
      refine lv_icmp_ge (tgt := 66) hx hb dX9_findRelaxed_20 (by decide) (fun c2 => ?_) (fun c2 => ?_)
      · have h := ite_t c2 h
        obtain ⟨rfl, rfl, rfl⟩ := ret3 h
        exact k1 rfl H locs ls hW (lv_sub hl [0, 1, 2, 3, 4] rfl)
      · have h := ite_f c2 h
        refine lv_aload_n hx hb dX9_findRelaxed_23 rfl (lv_at hl 1 rfl) ?_
        refine lv_aload_n hx hb dX9_findRelaxed_24 rfl (lv_at hl 0 rfl) ?_
        refine fg_X9_15 (v := .ref (a_o 1)) hx hb hts hown hK hW 0 rfl rfl dX9_findRelaxed_25 ?_
        refine lv_iload hx hb dX9_findRelaxed_28 (lv_at hl 4 rfl) ?_
        obtain ⟨g3, h⟩ := grd_s h
        refine g_iald hx hb hK hW 1 rfl g3 dX9_findRelaxed_30 ?_
        refine lv_iload hx hb dX9_findRelaxed_31 (lv_at hl 5 rfl) ?_
        have hW := hW.perm pf1
        obtain ⟨r4, q5, h⟩ := bnd1_s h
        refine cl_X9_38 hx hb hml hown hts hK hN hW (c_X0_isRelaxed l D T A a_q1 (oc_X9 T a_o x_o ++ Z) x_q1 (x_o 1 v4_17.toNatClampNeg) v5_17 r4 q5) ⟨Nat.le_of_ble_eq_true rfl, Nat.le_of_ble_eq_true rfl⟩ hl.1 rfl (Nat.le_of_ble_eq_true rfl) dX9_findRelaxed_33 ⟨Nat.zero_le _, Nat.zero_le _⟩ rfl (fun H locs hW => ?_)
        have hW := hW.perm pf1
        refine lv_if_eq (tgt := 60) hx hb dX9_findRelaxed_36 (by decide) (fun c6 => ?_) (fun c6 => ?_)
        · have h := ite_t c6 h
          obtain ⟨w5_7, ew5_7⟩ : ∃ y : Int32, y = v5_17 + 1 := ⟨_, rfl⟩
          have h := lb_at ew5_7 h
          refine lv_iinc (v := w5_7) (lv' := [(5, .int w5_7), (0, .ref (a_o 0)), (1, .ref (a_q1 0)), (2, .int v2_17), (3, .int v3_17), (4, .int v4_17)]) hx hb dX9_findRelaxed_60 hl (k := 5) rfl (by rw [ew5_7]; rfl) (by decide) rfl (fun ls hl => ?_)
          refine lv_goto (tgt := 17) hx hb dX9_findRelaxed_63 (by decide) ?_
          exact ih _ _ _ _ H locs ls _ _ _ hW (lv_sub hl [1, 2, 3, 4, 5, 0] rfl) h k1 k2
        · have h := ite_f c6 h
          refine lv_iload_n hx hb dX9_findRelaxed_39 rfl (lv_at hl 3 rfl) ?_
          refine lv_iload_n hx hb dX9_findRelaxed_40 rfl (lv_at hl 2 rfl) ?_
          refine lv_icmp_ne (tgt := 57) hx hb dX9_findRelaxed_41 (by decide) (fun c8 => ?_) (fun c8 => ?_)
          · have h := ite_f c8 h
            obtain ⟨w3_9, ew3_9⟩ : ∃ y : Int32, y = v3_17 + 1 := ⟨_, rfl⟩
            have h := lb_at ew3_9 h
            refine lv_iinc (v := w3_9) (lv' := [(3, .int w3_9), (0, .ref (a_o 0)), (1, .ref (a_q1 0)), (2, .int v2_17), (4, .int v4_17), (5, .int v5_17)]) hx hb dX9_findRelaxed_57 hl (k := 3) rfl (by rw [ew3_9]; rfl) (by decide) rfl (fun ls hl => ?_)
            obtain ⟨w5_10, ew5_10⟩ : ∃ y : Int32, y = v5_17 + 1 := ⟨_, rfl⟩
            have h := lb_at ew5_10 h
            refine lv_iinc (v := w5_10) (lv' := [(5, .int w5_10), (3, .int w3_9), (0, .ref (a_o 0)), (1, .ref (a_q1 0)), (2, .int v2_17), (4, .int v4_17)]) hx hb dX9_findRelaxed_60 hl (k := 5) rfl (by rw [ew5_10]; rfl) (by decide) rfl (fun ls hl => ?_)
            refine lv_goto (tgt := 17) hx hb dX9_findRelaxed_63 (by decide) ?_
            exact ih _ _ _ _ H locs ls _ _ _ hW (lv_sub hl [2, 3, 4, 1, 5, 0] rfl) h k1 k2
          · have h := ite_t c8 h
            obtain ⟨rfl, rfl, rfl⟩ := ret3 h
            exact k2 rfl H locs ls hW (lv_sub hl [0, 4, 5] rfl)
  have L5 : ∀ (n : Nat) (v2_5 : Int32) (v3_5 : Int32) (v4_5 : Int32) (H : Heap) (locs : List Loc) (ls : Array Slot) (code : Nat) (o3_5r : Int32) (o4_5r : Int32) (o5_5r : Int32), Wd D A s.heap (oc_X9 T a_o x_o ++ (oc_X0 T a_q1 x_q1 ++ Z)) H locs → lv_has ls 6 [(0, .ref (a_o 0)), (1, .ref (a_q1 0)), (2, .int v2_5), (3, .int v3_5), (4, .int v4_5)] → f_X9_findRelaxed_L5 n x_o x_q1 v2_5 v3_5 v4_5 = some (code, o3_5r, o4_5r, o5_5r) → (code = 1 → ∀ (H : Heap) (locs : List Loc) (ls : Array Slot), Wd D A s.heap (oc_X9 T a_o x_o ++ (oc_X0 T a_q1 x_q1 ++ Z)) H locs → lv_has ls 6 [] → W p l e (rmd 3) s m args below meth c H locs 0 0 Q (F0 m 72 ls [])) → (code = 2 → ∀ (H : Heap) (locs : List Loc) (ls : Array Slot), Wd D A s.heap (oc_X9 T a_o x_o ++ (oc_X0 T a_q1 x_q1 ++ Z)) H locs → lv_has ls 6 [(0, .ref (a_o 0)), (4, .int o4_5r), (5, .int o5_5r)] → W p l e (rmd 3) s m args below meth c H locs 0 0 Q (F0 m 44 ls [])) → W p l e (rmd 3) s m args below meth c H locs 0 0 Q (F0 m 5 ls []) := by
    intro n
    induction n with
    | zero =>
      intro v2_5 v3_5 v4_5 H locs ls code o3_5r o4_5r o5_5r hW hl h k1 k2
      rw [f_X9_findRelaxed_L5] at h
      cases h
    | succ n ih =>
      intro v2_5 v3_5 v4_5 H locs ls code o3_5r o4_5r o5_5r hW hl h k1 k2
      rw [f_X9_findRelaxed_L5] at h
      refine lv_iload hx hb dX9_findRelaxed_5 (lv_at hl 4 rfl) ?_
      refine lv_aload_n hx hb dX9_findRelaxed_7 rfl (lv_at hl 0 rfl) ?_
      refine fg_X9_9 (v := .int (x_o 0 0)) hx hb hts hown hK hW 0 rfl rfl dX9_findRelaxed_8 ?_
      refine lv_icmp_ge (tgt := 72) hx hb dX9_findRelaxed_11 (by decide) (fun c1 => ?_) (fun c1 => ?_)
      · have h := ite_t c1 h
        obtain ⟨rfl, rfl, rfl, rfl⟩ := ret4 h
        exact k1 rfl H locs ls hW (lv_sub hl [] rfl)
      · have h := ite_f c1 h
        refine lv_iconst (v := 0) hx hb dX9_findRelaxed_14 (by decide) ?_
        refine lv_istore (lv' := [(5, .int 0), (0, .ref (a_o 0)), (1, .ref (a_q1 0)), (2, .int v2_5), (3, .int v3_5), (4, .int v4_5)]) hx hb dX9_findRelaxed_15 hl (by decide) rfl (fun ls hl => ?_)
        obtain ⟨code12, o3_u11, o5_u11, q13, h⟩ := bnd3_s h
        refine L17 200 _ _ _ _ H locs ls code12 o3_u11 o5_u11 hW (lv_sub hl [1, 2, 3, 4, 5, 0] rfl) q13 (fun hc H locs ls hW hl => ?_) (fun hc H locs ls hW hl => ?_)
        · have h := ite_t hc h
          obtain ⟨w4_14, ew4_14⟩ : ∃ y : Int32, y = v4_5 + 1 := ⟨_, rfl⟩
          have h := lb_at ew4_14 h
          refine lv_iinc (v := w4_14) (lv' := [(4, .int w4_14), (0, .ref (a_o 0)), (1, .ref (a_q1 0)), (2, .int v2_5), (3, .int o3_u11)]) hx hb dX9_findRelaxed_66 hl (k := 4) rfl (by rw [ew4_14]; rfl) (by decide) rfl (fun ls hl => ?_)
          refine lv_goto (tgt := 5) hx hb dX9_findRelaxed_69 (by decide) ?_
          exact ih _ _ _ H locs ls _ _ _ _ hW (lv_sub hl [1, 2, 3, 4, 0] rfl) h k1 k2
        · have h := ite_f (by rw [hc]; decide) h
          obtain ⟨rfl, rfl, rfl, rfl⟩ := ret4 h
          exact k2 rfl H locs ls hW (lv_sub hl [0, 1, 2] rfl)
  rw [f_X9_findRelaxed] at h
  suffices hm : ∀ (H : Heap) (locs : List Loc), Wd D A s.heap (oc_X9 T a_o x_o ++ (oc_X0 T a_q1 x_q1 ++ Z)) H locs → W p l e (rmd 3) s m args below meth c H locs 0 0 Q (F0 m 0 ls []) from hm _ _ hW
  intro H locs hW
  refine lv_iconst (v := 0) hx hb dX9_findRelaxed_0 (by decide) ?_
  refine lv_istore_n (lv' := [(3, .int 0), (0, .ref (a_o 0)), (1, .ref (a_q1 0)), (2, .int p2)]) hx hb dX9_findRelaxed_1 rfl hl (by decide) rfl (fun ls hl => ?_)
  refine lv_iconst (v := 0) hx hb dX9_findRelaxed_2 (by decide) ?_
  refine lv_istore (lv' := [(4, .int 0), (3, .int 0), (0, .ref (a_o 0)), (1, .ref (a_q1 0)), (2, .int p2)]) hx hb dX9_findRelaxed_3 hl (by decide) rfl (fun ls hl => ?_)
  obtain ⟨code16, o3_u15, o4_u15, o5_u15, q17, h⟩ := bnd4_s h
  refine L5 200 _ _ _ H locs ls code16 o3_u15 o4_u15 o5_u15 hW (lv_sub hl [2, 3, 4, 1, 0] rfl) q17 (fun hc H locs ls hW hl => ?_) (fun hc H locs ls hW hl => ?_)
  · have h := ite_t hc h
    refine lv_iconst (v := (-1)) hx hb dX9_findRelaxed_72 (by decide) ?_
    obtain rfl := ret1 h
    rw [hQ]
    exact g_reti hx hb hr hlk hW dX9_findRelaxed_73
  · have h := ite_f (by rw [hc]; decide) h
    refine lv_aload_n hx hb dX9_findRelaxed_44 rfl (lv_at hl 0 rfl) ?_
    refine fg_X9_15 (v := .ref (a_o 1)) hx hb hts hown hK hW 0 rfl rfl dX9_findRelaxed_45 ?_
    refine lv_iload hx hb dX9_findRelaxed_48 (lv_at hl 1 rfl) ?_
    obtain ⟨g18, h⟩ := grd_s h
    refine g_iald hx hb hK hW 1 rfl g18 dX9_findRelaxed_50 ?_
    refine lv_iconst (v := 3) hx hb dX9_findRelaxed_51 (by decide) ?_
    refine lv_imul hx hb dX9_findRelaxed_52 ?_
    refine lv_iload hx hb dX9_findRelaxed_53 (lv_at hl 2 rfl) ?_
    refine lv_iadd hx hb dX9_findRelaxed_55 ?_
    obtain rfl := ret1 h
    rw [hQ]
    exact g_reti hx hb hr hlk hW dX9_findRelaxed_56
set_option maxHeartbeats 4000000 in
set_option maxRecDepth 100000 in
theorem c_X9_useAnew (l : Launch) (D : va_G) (T : Nat → ClassId) (A : Nat → Prop) (a_o : Nat → Nat) (a_q1 : Nat → Nat) (Z : va_W)  (x_o : Ob) (x_q1 : Ob) (p2 : Int32) (p3 : Int32) (p4 : Int32) (x_o9 : Ob) (x_q19 : Ob) (h : f_X9_useAnew x_o x_q1 p2 p3 p4 = some (x_o9, x_q19)) : Met l yX9_useAnew (Cond.code yX9_useAnew cX9_useAnew 6 none :: wsL_law) (rmd 2) (Pg D T A (oc_X9 T a_o x_o ++ (oc_X2 T a_q1 x_q1 ++ Z)) [.ref (a_o 0), .ref (a_q1 0), .int p2, .int p3, .int p4]) (Qgv D A (oc_X9 T a_o x_o9 ++ (oc_X2 T a_q1 x_q19 ++ Z))) 0 0 A := by
  refine Met.ofW (cc := cX9_useAnew) (maxL := 6) (ret := none) (by decide +kernel) rfl ?_
  intro p e s m args below meth c s₁ B hml hv
  obtain ⟨ha, hP, hK, hD, hN⟩ := hv
  have hx := B.exec
  have hb := B.bytes
  have hr := B.returns
  have hlk := B.notSynchronized
  have hts : ∀ w ∈ wsL_law, w.before args s = true := fun w hw => atoms_spec B.pre w (List.mem_cons_of_mem _ hw)
  have hown : s.vm.findClass RX9 = some m.cls := findClass_of_methodNamed B.named
  have hW : Wd D A s.heap (oc_X9 T a_o x_o ++ (oc_X2 T a_q1 x_q1 ++ Z)) s.heap [] := ⟨hP, hD, va_S.rf⟩
  have hl := lv_entry [.ref (a_o 0), .ref (a_q1 0), .int p2, .int p3, .int p4] (n := 6) (Nat.le_of_ble_eq_true rfl)
  refine W.eq (en_eq ha) ?_
  generalize (lg_sl [.ref (a_o 0), .ref (a_q1 0), .int p2, .int p3, .int p4] ++ List.replicate (6 - (lg_sl [.ref (a_o 0), .ref (a_q1 0), .int p2, .int p3, .int p4]).length) Slot.unset).toArray = ls at hl ⊢
  have hl : lv_has ls 6 [(0, .ref (a_o 0)), (1, .ref (a_q1 0)), (2, .int p2), (3, .int p3), (4, .int p4)] := hl
  clear hP hD B ha
  obtain ⟨Q, hQ⟩ : ∃ Q, Q = MQ below (Qgv D A (oc_X9 T a_o x_o9 ++ (oc_X2 T a_q1 x_q19 ++ Z))) args s 0 0 A := ⟨_, rfl⟩
  rw [← hQ]
  change W p l e (rmd 2) s m args below meth c s.heap [] 0 0 Q (F0 m 0 ls [])
  have J55 : ∀ (x_o_55 : Ob) (x_q1_55 : Ob) (v3_55 : Int32) (v4_55 : Int32) (v5_55 : Int32) (s1_55 : Int32) (s2_55 : Int32) (s3_55 : Int32) (H : Heap) (locs : List Loc) (ls : Array Slot), Wd D A s.heap (oc_X9 T a_o x_o_55 ++ (oc_X2 T a_q1 x_q1_55 ++ Z)) H locs → lv_has ls 6 [(0, .ref (a_o 0)), (1, .ref (a_q1 0)), (3, .int v3_55), (4, .int v4_55), (5, .int v5_55)] → f_X9_useAnew_J55 x_o_55 x_q1_55 v3_55 v4_55 v5_55 s1_55 s2_55 s3_55 = some (x_o9, x_q19) → W p l e (rmd 2) s m args below meth c H locs 0 0 Q (F0 m 55 ls [.int s3_55, .int s2_55, .int s1_55, .ref (a_q1 0)]) := by
    intro x_o_55 x_q1_55 v3_55 v4_55 v5_55 s1_55 s2_55 s3_55 H locs ls hW hl h
    rw [f_X9_useAnew_J55] at h
    have hW := hW.perm pf1
    obtain ⟨r10, x_q111, q12, h⟩ := bnd2_s h
    refine cl_X9_56 hx hb hml hown hts hK hN hW (c_X2_unify l D T A a_q1 (oc_X9 T a_o x_o_55 ++ Z) x_q1_55 s1_55 s2_55 s3_55 r10 x_q111 q12) ⟨Nat.le_of_ble_eq_true rfl, Nat.le_of_ble_eq_true rfl⟩ hl.1 rfl (Nat.le_of_ble_eq_true rfl) dX9_useAnew_55 ⟨Nat.zero_le _, Nat.zero_le _⟩ rfl (fun H locs hW => ?_)
    have hW := hW.perm pf1
    refine lv_pop hx hb dX9_useAnew_58 rfl ?_
    refine lv_aload_n hx hb dX9_useAnew_59 rfl (lv_at hl 0 rfl) ?_
    refine fg_X9_25 (v := .ref (a_o 4)) hx hb hts hown hK hW 0 rfl rfl dX9_useAnew_60 ?_
    refine lv_iload_n hx hb dX9_useAnew_63 rfl (lv_at hl 2 rfl) ?_
    refine lv_aload_n hx hb dX9_useAnew_64 rfl (lv_at hl 1 rfl) ?_
    refine fg_X9_62 (v := .int (x_q111 13 0)) hx hb hts hN hown hK hW 5 rfl rfl dX9_useAnew_65 ?_
    refine lv_aload_n hx hb dX9_useAnew_68 rfl (lv_at hl 0 rfl) ?_
    refine fg_X9_25 (v := .ref (a_o 4)) hx hb hts hown hK hW 0 rfl rfl dX9_useAnew_69 ?_
    refine lv_iload hx hb dX9_useAnew_72 (lv_at hl 4 rfl) ?_
    obtain ⟨g13, h⟩ := grd_s h
    refine g_iald hx hb hK hW 4 rfl g13 dX9_useAnew_74 ?_
    refine lv_iadd hx hb dX9_useAnew_75 ?_
    refine lv_iload hx hb dX9_useAnew_76 (lv_at hl 3 rfl) ?_
    refine lv_iconst (v := 2) hx hb dX9_useAnew_78 (by decide) ?_
    refine lv_icmp_ne (tgt := 91) hx hb dX9_useAnew_79 (by decide) (fun c14 => ?_) (fun c14 => ?_)
    · have h := ite_f c14 h
      refine lv_iconst (v := 0) hx hb dX9_useAnew_91 (by decide) ?_
      refine lv_iadd hx hb dX9_useAnew_92 ?_
      obtain ⟨g15, h⟩ := grd_s h
      refine g_iast (ws9 := oc_X9 T a_o (upo x_o_55 4 v3_55.toNatClampNeg (((x_q111 13 0) + (x_o_55 4 v5_55.toNatClampNeg)) + 0)) ++ (oc_X2 T a_q1 x_q111 ++ Z)) hx hb hK hW 4 rfl g15 sa_X9_4 dX9_useAnew_93 (fun H locs hW => ?_)
      obtain ⟨x_o16, ex_o16⟩ : ∃ y : Ob, y = upo x_o_55 4 v3_55.toNatClampNeg (((x_q111 13 0) + (x_o_55 4 v5_55.toNatClampNeg)) + 0) := ⟨_, rfl⟩
      rw [← ex_o16] at hW
      have h := lb_at ex_o16 h
      refine lv_aload_n hx hb dX9_useAnew_94 rfl (lv_at hl 0 rfl) ?_
      refine fg_X9_22 (v := .ref (a_o 3)) hx hb hts hown hK hW 0 rfl rfl dX9_useAnew_95 ?_
      refine lv_iload_n hx hb dX9_useAnew_98 rfl (lv_at hl 2 rfl) ?_
      refine lv_aload_n hx hb dX9_useAnew_99 rfl (lv_at hl 1 rfl) ?_
      have hW := hW.perm pf1
      obtain ⟨r17, q18, h⟩ := bnd1_s h
      refine cl_X9_65 hx hb hml hown hts hK hN hW (c_X2_parentFeatures l D T A a_q1 (oc_X9 T a_o x_o16 ++ Z) x_q111 r17 q18) ⟨Nat.le_of_ble_eq_true rfl, Nat.le_of_ble_eq_true rfl⟩ hl.1 rfl (Nat.le_of_ble_eq_true rfl) dX9_useAnew_100 ⟨Nat.zero_le _, Nat.zero_le _⟩ rfl (fun H locs hW => ?_)
      have hW := hW.perm pf1
      obtain ⟨g19, h⟩ := grd_s h
      refine g_iast (ws9 := oc_X9 T a_o (upo x_o16 3 v3_55.toNatClampNeg r17) ++ (oc_X2 T a_q1 x_q111 ++ Z)) hx hb hK hW 3 rfl g19 sa_X9_3 dX9_useAnew_103 (fun H locs hW => ?_)
      obtain ⟨x_o20, ex_o20⟩ : ∃ y : Ob, y = upo x_o16 3 v3_55.toNatClampNeg r17 := ⟨_, rfl⟩
      rw [← ex_o20] at hW
      have h := lb_at ex_o20 h
      obtain ⟨rfl, rfl⟩ := ret2 h
      rw [hQ]
      exact g_retv hx hb hr hlk hW dX9_useAnew_104
    · have h := ite_t c14 h
      refine lv_aload_n hx hb dX9_useAnew_82 rfl (lv_at hl 0 rfl) ?_
      refine fg_X9_25 (v := .ref (a_o 4)) hx hb hts hown hK hW 0 rfl rfl dX9_useAnew_83 ?_
      refine lv_iload_n hx hb dX9_useAnew_86 rfl (lv_at hl 2 rfl) ?_
      obtain ⟨g21, h⟩ := grd_s h
      refine g_iald hx hb hK hW 4 rfl g21 dX9_useAnew_87 ?_
      refine lv_goto (tgt := 92) hx hb dX9_useAnew_88 (by decide) ?_
      refine lv_iadd hx hb dX9_useAnew_92 ?_
      obtain ⟨g22, h⟩ := grd_s h
      refine g_iast (ws9 := oc_X9 T a_o (upo x_o_55 4 v3_55.toNatClampNeg (((x_q111 13 0) + (x_o_55 4 v5_55.toNatClampNeg)) + (x_o_55 4 v3_55.toNatClampNeg))) ++ (oc_X2 T a_q1 x_q111 ++ Z)) hx hb hK hW 4 rfl g22 sa_X9_4 dX9_useAnew_93 (fun H locs hW => ?_)
      obtain ⟨x_o23, ex_o23⟩ : ∃ y : Ob, y = upo x_o_55 4 v3_55.toNatClampNeg (((x_q111 13 0) + (x_o_55 4 v5_55.toNatClampNeg)) + (x_o_55 4 v3_55.toNatClampNeg)) := ⟨_, rfl⟩
      rw [← ex_o23] at hW
      have h := lb_at ex_o23 h
      refine lv_aload_n hx hb dX9_useAnew_94 rfl (lv_at hl 0 rfl) ?_
      refine fg_X9_22 (v := .ref (a_o 3)) hx hb hts hown hK hW 0 rfl rfl dX9_useAnew_95 ?_
      refine lv_iload_n hx hb dX9_useAnew_98 rfl (lv_at hl 2 rfl) ?_
      refine lv_aload_n hx hb dX9_useAnew_99 rfl (lv_at hl 1 rfl) ?_
      have hW := hW.perm pf1
      obtain ⟨r24, q25, h⟩ := bnd1_s h
      refine cl_X9_65 hx hb hml hown hts hK hN hW (c_X2_parentFeatures l D T A a_q1 (oc_X9 T a_o x_o23 ++ Z) x_q111 r24 q25) ⟨Nat.le_of_ble_eq_true rfl, Nat.le_of_ble_eq_true rfl⟩ hl.1 rfl (Nat.le_of_ble_eq_true rfl) dX9_useAnew_100 ⟨Nat.zero_le _, Nat.zero_le _⟩ rfl (fun H locs hW => ?_)
      have hW := hW.perm pf1
      obtain ⟨g26, h⟩ := grd_s h
      refine g_iast (ws9 := oc_X9 T a_o (upo x_o23 3 v3_55.toNatClampNeg r24) ++ (oc_X2 T a_q1 x_q111 ++ Z)) hx hb hK hW 3 rfl g26 sa_X9_3 dX9_useAnew_103 (fun H locs hW => ?_)
      obtain ⟨x_o27, ex_o27⟩ : ∃ y : Ob, y = upo x_o23 3 v3_55.toNatClampNeg r24 := ⟨_, rfl⟩
      rw [← ex_o27] at hW
      have h := lb_at ex_o27 h
      obtain ⟨rfl, rfl⟩ := ret2 h
      rw [hQ]
      exact g_retv hx hb hr hlk hW dX9_useAnew_104
  rw [f_X9_useAnew] at h
  suffices hm : ∀ (H : Heap) (locs : List Loc), Wd D A s.heap (oc_X9 T a_o x_o ++ (oc_X2 T a_q1 x_q1 ++ Z)) H locs → W p l e (rmd 2) s m args below meth c H locs 0 0 Q (F0 m 0 ls []) from hm _ _ hW
  intro H locs hW
  refine lv_iload_n hx hb dX9_useAnew_0 rfl (lv_at hl 3 rfl) ?_
  refine lv_iload hx hb dX9_useAnew_1 (lv_at hl 4 rfl) ?_
  refine lv_iadd hx hb dX9_useAnew_3 ?_
  refine lv_iconst (v := 1) hx hb dX9_useAnew_4 (by decide) ?_
  refine lv_isub hx hb dX9_useAnew_5 ?_
  refine lv_topi (fun w5_1 ew5_1 => ?_)
  have h := lb_at ew5_1 h
  refine lv_istore (lv' := [(5, .int w5_1), (0, .ref (a_o 0)), (1, .ref (a_q1 0)), (2, .int p2), (3, .int p3), (4, .int p4)]) hx hb dX9_useAnew_6 hl (by decide) rfl (fun ls hl => ?_)
  refine lv_iload_n hx hb dX9_useAnew_8 rfl (lv_at hl 4 rfl) ?_
  refine lv_sipush (v := 128) hx hb dX9_useAnew_9 (by decide) ?_
  obtain ⟨r2, q3, h⟩ := bnd1_s h
  refine cl_X9_53 hx hb hml hown hts hK hN hW (c_X10_isBelow l D T A (oc_X9 T a_o x_o ++ (oc_X2 T a_q1 x_q1 ++ Z)) p3 128 r2 q3) ⟨Nat.le_of_ble_eq_true rfl, Nat.le_of_ble_eq_true rfl⟩ hl.1 rfl (Nat.le_of_ble_eq_true rfl) dX9_useAnew_12 ⟨Nat.zero_le _, Nat.zero_le _⟩ rfl (fun H locs hW => ?_)
  refine lv_if_eq (tgt := 29) hx hb dX9_useAnew_15 (by decide) (fun c4 => ?_) (fun c4 => ?_)
  · have h := ite_t c4 h
    obtain ⟨rfl, rfl⟩ := ret2 h
    rw [hQ]
    exact g_retv hx hb hr hlk hW dX9_useAnew_29
  · have h := ite_f c4 h
    refine lv_iload hx hb dX9_useAnew_18 (lv_at hl 0 rfl) ?_
    refine lv_sipush (v := 128) hx hb dX9_useAnew_20 (by decide) ?_
    obtain ⟨r5, q6, h⟩ := bnd1_s h
    refine cl_X9_53 hx hb hml hown hts hK hN hW (c_X10_isBelow l D T A (oc_X9 T a_o x_o ++ (oc_X2 T a_q1 x_q1 ++ Z)) w5_1 128 r5 q6) ⟨Nat.le_of_ble_eq_true rfl, Nat.le_of_ble_eq_true rfl⟩ hl.1 rfl (Nat.le_of_ble_eq_true rfl) dX9_useAnew_23 ⟨Nat.zero_le _, Nat.zero_le _⟩ rfl (fun H locs hW => ?_)
    refine lv_if_ne (tgt := 30) hx hb dX9_useAnew_26 (by decide) (fun c7 => ?_) (fun c7 => ?_)
    · have h := ite_f c7 h
      refine lv_aload_n hx hb dX9_useAnew_30 rfl (lv_at hl 2 rfl) ?_
      refine lv_iload_n hx hb dX9_useAnew_31 rfl (lv_at hl 3 rfl) ?_
      refine lv_aload_n hx hb dX9_useAnew_32 rfl (lv_at hl 1 rfl) ?_
      refine fg_X9_22 (v := .ref (a_o 3)) hx hb hts hown hK hW 0 rfl rfl dX9_useAnew_33 ?_
      refine lv_iload hx hb dX9_useAnew_36 (lv_at hl 0 rfl) ?_
      obtain ⟨g8, h⟩ := grd_s h
      refine g_iald hx hb hK hW 3 rfl g8 dX9_useAnew_38 ?_
      refine lv_iload hx hb dX9_useAnew_39 (lv_at hl 5 rfl) ?_
      refine lv_iconst (v := 2) hx hb dX9_useAnew_41 (by decide) ?_
      refine lv_icmp_ne (tgt := 54) hx hb dX9_useAnew_42 (by decide) (fun c9 => ?_) (fun c9 => ?_)
      · have h := ite_f c9 h
        refine lv_iconst (v := 0) hx hb dX9_useAnew_54 (by decide) ?_
        exact J55 _ _ _ _ _ _ _ _ H locs ls hW (lv_sub hl [1, 2, 4, 5, 0] rfl) h
      · have h := ite_t c9 h
        refine lv_aload_n hx hb dX9_useAnew_45 rfl (lv_at hl 1 rfl) ?_
        refine fg_X9_22 (v := .ref (a_o 3)) hx hb hts hown hK hW 0 rfl rfl dX9_useAnew_46 ?_
        refine lv_iload_n hx hb dX9_useAnew_49 rfl (lv_at hl 4 rfl) ?_
        obtain ⟨g28, h⟩ := grd_s h
        refine g_iald hx hb hK hW 3 rfl g28 dX9_useAnew_50 ?_
        refine lv_goto (tgt := 55) hx hb dX9_useAnew_51 (by decide) ?_
        exact J55 _ _ _ _ _ _ _ _ H locs ls hW (lv_sub hl [1, 2, 4, 5, 0] rfl) h
    · have h := ite_t c7 h
      obtain ⟨rfl, rfl⟩ := ret2 h
      rw [hQ]
      exact g_retv hx hb hr hlk hW dX9_useAnew_29
set_option maxHeartbeats 4000000 in
set_option maxRecDepth 100000 in
theorem c_X9_priceAnew (l : Launch) (D : va_G) (T : Nat → ClassId) (A : Nat → Prop) (a_o : Nat → Nat) (a_q1 : Nat → Nat) (a_q2 : Nat → Nat) (Z : va_W)  (x_o : Ob) (x_q1 : Ob) (x_q2 : Ob) (r : Int32) (x_o9 : Ob) (x_q29 : Ob) (h : f_X9_priceAnew x_o x_q1 x_q2 = some (r, x_o9, x_q29)) : Met l yX9_priceAnew (Cond.code yX9_priceAnew cX9_priceAnew 8 (some .int) :: wsL_law) (rmd 3) (Pg D T A (oc_X9 T a_o x_o ++ (oc_X0 T a_q1 x_q1 ++ (oc_X2 T a_q2 x_q2 ++ Z))) [.ref (a_o 0), .ref (a_q1 0), .ref (a_q2 0)]) (Qgi D A (oc_X9 T a_o x_o9 ++ (oc_X0 T a_q1 x_q1 ++ (oc_X2 T a_q2 x_q29 ++ Z))) r) 0 0 A := by
  refine Met.ofW (cc := cX9_priceAnew) (maxL := 8) (ret := (some .int)) (by decide +kernel) rfl ?_
  intro p e s m args below meth c s₁ B hml hv
  obtain ⟨ha, hP, hK, hD, hN⟩ := hv
  have hx := B.exec
  have hb := B.bytes
  have hr := B.returns
  have hlk := B.notSynchronized
  have hts : ∀ w ∈ wsL_law, w.before args s = true := fun w hw => atoms_spec B.pre w (List.mem_cons_of_mem _ hw)
  have hown : s.vm.findClass RX9 = some m.cls := findClass_of_methodNamed B.named
  have hW : Wd D A s.heap (oc_X9 T a_o x_o ++ (oc_X0 T a_q1 x_q1 ++ (oc_X2 T a_q2 x_q2 ++ Z))) s.heap [] := ⟨hP, hD, va_S.rf⟩
  have hl := lv_entry [.ref (a_o 0), .ref (a_q1 0), .ref (a_q2 0)] (n := 8) (Nat.le_of_ble_eq_true rfl)
  refine W.eq (en_eq ha) ?_
  generalize (lg_sl [.ref (a_o 0), .ref (a_q1 0), .ref (a_q2 0)] ++ List.replicate (8 - (lg_sl [.ref (a_o 0), .ref (a_q1 0), .ref (a_q2 0)]).length) Slot.unset).toArray = ls at hl ⊢
  have hl : lv_has ls 8 [(0, .ref (a_o 0)), (1, .ref (a_q1 0)), (2, .ref (a_q2 0))] := hl
  clear hP hD B ha
  obtain ⟨Q, hQ⟩ : ∃ Q, Q = MQ below (Qgi D A (oc_X9 T a_o x_o9 ++ (oc_X0 T a_q1 x_q1 ++ (oc_X2 T a_q2 x_q29 ++ Z))) r) args s 0 0 A := ⟨_, rfl⟩
  rw [← hQ]
  change W p l e (rmd 3) s m args below meth c s.heap [] 0 0 Q (F0 m 0 ls [])
  have J79 : ∀ (x_o_79 : Ob) (x_q2_79 : Ob) (v3_79 : Int32) (v4_79 : Int32) (v6_79 : Int32) (s0_79 : Int32) (H : Heap) (locs : List Loc) (ls : Array Slot) (code : Nat) (o3j : Int32) (o4j : Int32) (y_oj : Ob) (y_q2j : Ob), Wd D A s.heap (oc_X9 T a_o x_o_79 ++ (oc_X0 T a_q1 x_q1 ++ (oc_X2 T a_q2 x_q2_79 ++ Z))) H locs → lv_has ls 8 [(0, .ref (a_o 0)), (1, .ref (a_q1 0)), (2, .ref (a_q2 0)), (3, .int v3_79), (4, .int v4_79), (6, .int v6_79)] → f_X9_priceAnew_J79 x_o_79 x_q1 x_q2_79 v3_79 v4_79 v6_79 s0_79 = some (code, o3j, o4j, y_oj, y_q2j) → (code = 0 → ∀ (H : Heap) (locs : List Loc) (ls : Array Slot), Wd D A s.heap (oc_X9 T a_o y_oj ++ (oc_X0 T a_q1 x_q1 ++ (oc_X2 T a_q2 y_q2j ++ Z))) H locs → lv_has ls 8 [(0, .ref (a_o 0)), (1, .ref (a_q1 0)), (2, .ref (a_q2 0)), (3, .int o3j), (4, .int o4j)] → W p l e (rmd 3) s m args below meth c H locs 0 0 Q (F0 m 10 ls [])) → (code = 1 → ∀ (H : Heap) (locs : List Loc) (ls : Array Slot), Wd D A s.heap (oc_X9 T a_o y_oj ++ (oc_X0 T a_q1 x_q1 ++ (oc_X2 T a_q2 y_q2j ++ Z))) H locs → lv_has ls 8 [(0, .ref (a_o 0)), (3, .int o3j)] → W p l e (rmd 3) s m args below meth c H locs 0 0 Q (F0 m 115 ls [])) → (code = 2 → ∀ (H : Heap) (locs : List Loc) (ls : Array Slot), Wd D A s.heap (oc_X9 T a_o y_oj ++ (oc_X0 T a_q1 x_q1 ++ (oc_X2 T a_q2 y_q2j ++ Z))) H locs → lv_has ls 8 [] → W p l e (rmd 3) s m args below meth c H locs 0 0 Q (F0 m 87 ls [])) → W p l e (rmd 3) s m args below meth c H locs 0 0 Q (F0 m 79 ls [.int s0_79]) := by
    intro x_o_79 x_q2_79 v3_79 v4_79 v6_79 s0_79 H locs ls code o3j o4j y_oj y_q2j hW hl h k0 k1 k2
    rw [f_X9_priceAnew_J79] at h
    refine lv_istore (lv' := [(7, .int s0_79), (0, .ref (a_o 0)), (1, .ref (a_q1 0)), (2, .ref (a_q2 0)), (3, .int v3_79), (4, .int v4_79), (6, .int v6_79)]) hx hb dX9_priceAnew_79 hl (by decide) rfl (fun ls hl => ?_)
    refine lv_iload_n hx hb dX9_priceAnew_81 rfl (lv_at hl 4 rfl) ?_
    refine lv_iload hx hb dX9_priceAnew_82 (lv_at hl 0 rfl) ?_
    refine lv_icmp_ge (tgt := 91) hx hb dX9_priceAnew_84 (by decide) (fun c11 => ?_) (fun c11 => ?_)
    · have h := ite_t c11 h
      refine lv_iload_n hx hb dX9_priceAnew_91 rfl (lv_at hl 4 rfl) ?_
      refine lv_iload hx hb dX9_priceAnew_92 (lv_at hl 0 rfl) ?_
      refine lv_isub hx hb dX9_priceAnew_94 ?_
      refine lv_topi (fun w3_12 ew3_12 => ?_)
      have h := lb_at ew3_12 h
      refine lv_istore_n (lv' := [(3, .int w3_12), (7, .int s0_79), (0, .ref (a_o 0)), (1, .ref (a_q1 0)), (2, .ref (a_q2 0)), (4, .int v4_79), (6, .int v6_79)]) hx hb dX9_priceAnew_95 rfl hl (by decide) rfl (fun ls hl => ?_)
      refine lv_aload_n hx hb dX9_priceAnew_96 rfl (lv_at hl 2 rfl) ?_
      refine lv_aload_n hx hb dX9_priceAnew_97 rfl (lv_at hl 4 rfl) ?_
      refine lv_iload hx hb dX9_priceAnew_98 (lv_at hl 6 rfl) ?_
      refine lv_iload_n hx hb dX9_priceAnew_100 rfl (lv_at hl 0 rfl) ?_
      refine lv_iload hx hb dX9_priceAnew_101 (lv_at hl 1 rfl) ?_
      have hW := hW.perm pf2
      have hW := hW.perm pf1
      obtain ⟨x_o13, x_q214, q15, h⟩ := bnd2_s h
      refine cl_X9_49 hx hb hml hown hts hK hN hW (c_X9_useAnew l D T A a_o a_q2 (oc_X0 T a_q1 x_q1 ++ Z) x_o_79 x_q2_79 v6_79 w3_12 s0_79 x_o13 x_q214 q15) ⟨Nat.le_of_ble_eq_true rfl, Nat.le_of_ble_eq_true rfl⟩ hl.1 rfl (Nat.le_of_ble_eq_true rfl) dX9_priceAnew_103 ⟨Nat.zero_le _, Nat.zero_le _⟩ rfl (fun H locs hW => ?_)
      have hW := hW.perm pf1
      have hW := hW.perm pf2
      have hW := hW.perm pf2
      obtain ⟨w3_16, ew3_16⟩ : ∃ y : Int32, y = w3_12 + 1 := ⟨_, rfl⟩
      have h := lb_at ew3_16 h
      refine lv_iinc (v := w3_16) (lv' := [(3, .int w3_16), (7, .int s0_79), (0, .ref (a_o 0)), (1, .ref (a_q1 0)), (2, .ref (a_q2 0)), (4, .int v4_79), (6, .int v6_79)]) hx hb dX9_priceAnew_106 hl (k := 0) rfl (by rw [ew3_16]; rfl) (by decide) rfl (fun ls hl => ?_)
      obtain ⟨w4_17, ew4_17⟩ : ∃ y : Int32, y = v4_79 + (-1) := ⟨_, rfl⟩
      have h := lb_at ew4_17 h
      refine lv_iinc (v := w4_17) (lv' := [(4, .int w4_17), (3, .int w3_16), (7, .int s0_79), (0, .ref (a_o 0)), (1, .ref (a_q1 0)), (2, .ref (a_q2 0)), (6, .int v6_79)]) hx hb dX9_priceAnew_109 hl (k := 5) rfl (by rw [ew4_17]; rfl) (by decide) rfl (fun ls hl => ?_)
      refine lv_goto (tgt := 10) hx hb dX9_priceAnew_112 (by decide) ?_
      obtain ⟨rfl, rfl, rfl, rfl, rfl⟩ := ret5 h
      exact k0 rfl H locs ls hW (lv_sub hl [3, 4, 5, 1, 0] rfl)
    · have h := ite_f c11 h
      obtain ⟨rfl, rfl, rfl, rfl, rfl⟩ := ret5 h
      exact k2 rfl H locs ls hW (lv_sub hl [] rfl)
  have L10 : ∀ (n : Nat) (x_o_10 : Ob) (x_q2_10 : Ob) (v3_10 : Int32) (v4_10 : Int32) (H : Heap) (locs : List Loc) (ls : Array Slot) (code : Nat) (o3_10r : Int32) (o4_10r : Int32) (y_o_10r : Ob) (y_q2_10r : Ob), Wd D A s.heap (oc_X9 T a_o x_o_10 ++ (oc_X0 T a_q1 x_q1 ++ (oc_X2 T a_q2 x_q2_10 ++ Z))) H locs → lv_has ls 8 [(0, .ref (a_o 0)), (1, .ref (a_q1 0)), (2, .ref (a_q2 0)), (3, .int v3_10), (4, .int v4_10)] → f_X9_priceAnew_L10 n x_o_10 x_q1 x_q2_10 v3_10 v4_10 = some (code, o3_10r, o4_10r, y_o_10r, y_q2_10r) → (code = 1 → ∀ (H : Heap) (locs : List Loc) (ls : Array Slot), Wd D A s.heap (oc_X9 T a_o y_o_10r ++ (oc_X0 T a_q1 x_q1 ++ (oc_X2 T a_q2 y_q2_10r ++ Z))) H locs → lv_has ls 8 [(0, .ref (a_o 0)), (3, .int o3_10r)] → W p l e (rmd 3) s m args below meth c H locs 0 0 Q (F0 m 115 ls [])) → (code = 2 → ∀ (H : Heap) (locs : List Loc) (ls : Array Slot), Wd D A s.heap (oc_X9 T a_o y_o_10r ++ (oc_X0 T a_q1 x_q1 ++ (oc_X2 T a_q2 y_q2_10r ++ Z))) H locs → lv_has ls 8 [] → W p l e (rmd 3) s m args below meth c H locs 0 0 Q (F0 m 87 ls [])) → W p l e (rmd 3) s m args below meth c H locs 0 0 Q (F0 m 10 ls []) := by
    intro n
    induction n with
    | zero =>
      intro x_o_10 x_q2_10 v3_10 v4_10 H locs ls code o3_10r o4_10r y_o_10r y_q2_10r hW hl h k1 k2
      rw [f_X9_priceAnew_L10] at h
      cases h
    | succ n ih =>
      intro x_o_10 x_q2_10 v3_10 v4_10 H locs ls code o3_10r o4_10r y_o_10r y_q2_10r hW hl h k1 k2
      rw [f_X9_priceAnew_L10] at h
      refine lv_iload hx hb dX9_priceAnew_10 (lv_at hl 4 rfl) ?_
      refine lv_if_lt (tgt := 115) hx hb dX9_priceAnew_12 (by decide) (fun c2 => ?_) (fun c2 => ?_)
      · have h := ite_t c2 h
        obtain ⟨rfl, rfl, rfl, rfl, rfl⟩ := ret5 h
        exact k1 rfl H locs ls hW (lv_sub hl [0, 3] rfl)
      · have h := ite_f c2 h
        refine lv_aload_n hx hb dX9_priceAnew_15 rfl (lv_at hl 0 rfl) ?_
        refine fg_X9_15 (v := .ref (a_o 1)) hx hb hts hown hK hW 0 rfl rfl dX9_priceAnew_16 ?_
        refine lv_iload hx hb dX9_priceAnew_19 (lv_at hl 4 rfl) ?_
        obtain ⟨g3, h⟩ := grd_s h
        refine g_iald hx hb hK hW 1 rfl g3 dX9_priceAnew_21 ?_
        refine lv_topi (fun w5_4 ew5_4 => ?_)
        have h := lb_at ew5_4 h
        refine lv_istore (lv' := [(5, .int w5_4), (0, .ref (a_o 0)), (1, .ref (a_q1 0)), (2, .ref (a_q2 0)), (3, .int v3_10), (4, .int v4_10)]) hx hb dX9_priceAnew_22 hl (by decide) rfl (fun ls hl => ?_)
        refine lv_aload_n hx hb dX9_priceAnew_24 rfl (lv_at hl 2 rfl) ?_
        refine lv_iload hx hb dX9_priceAnew_25 (lv_at hl 0 rfl) ?_
        have hW := hW.perm pf1
        obtain ⟨r5, q6, h⟩ := bnd1_s h
        refine cl_X9_42 hx hb hml hown hts hK hN hW (c_X0_ruleOf l D T A a_q1 (oc_X9 T a_o x_o_10 ++ (oc_X2 T a_q2 x_q2_10 ++ Z)) x_q1 w5_4 r5 q6) ⟨Nat.le_of_ble_eq_true rfl, Nat.le_of_ble_eq_true rfl⟩ hl.1 rfl (Nat.le_of_ble_eq_true rfl) dX9_priceAnew_27 ⟨Nat.zero_le _, Nat.zero_le _⟩ rfl (fun H locs hW => ?_)
        have hW := hW.perm pf2
        have hW := hW.perm pf1
        have hW := hW.perm pf2
        refine lv_istore (lv' := [(6, .int r5), (5, .int w5_4), (0, .ref (a_o 0)), (1, .ref (a_q1 0)), (2, .ref (a_q2 0)), (3, .int v3_10), (4, .int v4_10)]) hx hb dX9_priceAnew_30 hl (by decide) rfl (fun ls hl => ?_)
        refine lv_iload hx hb dX9_priceAnew_32 (lv_at hl 0 rfl) ?_
        refine lv_iconst (v := (-1)) hx hb dX9_priceAnew_34 (by decide) ?_
        refine lv_icmp_ne (tgt := 63) hx hb dX9_priceAnew_35 (by decide) (fun c7 => ?_) (fun c7 => ?_)
        · have h := ite_f c7 h
          refine lv_aload_n hx hb dX9_priceAnew_63 rfl (lv_at hl 3 rfl) ?_
          refine lv_iload hx hb dX9_priceAnew_64 (lv_at hl 1 rfl) ?_
          refine lv_iconst (v := 2) hx hb dX9_priceAnew_66 (by decide) ?_
          have hW := hW.perm pf1
          obtain ⟨r8, q9, h⟩ := bnd1_s h
          refine cl_X9_34 hx hb hml hown hts hK hN hW (c_X0_partOf l D T A a_q1 (oc_X9 T a_o x_o_10 ++ (oc_X2 T a_q2 x_q2_10 ++ Z)) x_q1 w5_4 2 r8 q9) ⟨Nat.le_of_ble_eq_true rfl, Nat.le_of_ble_eq_true rfl⟩ hl.1 rfl (Nat.le_of_ble_eq_true rfl) dX9_priceAnew_67 ⟨Nat.zero_le _, Nat.zero_le _⟩ rfl (fun H locs hW => ?_)
          have hW := hW.perm pf2
          have hW := hW.perm pf1
          have hW := hW.perm pf2
          refine lv_iconst (v := (-1)) hx hb dX9_priceAnew_70 (by decide) ?_
          refine lv_icmp_ne (tgt := 78) hx hb dX9_priceAnew_71 (by decide) (fun c10 => ?_) (fun c10 => ?_)
          · have h := ite_f c10 h
            refine lv_iconst (v := 2) hx hb dX9_priceAnew_78 (by decide) ?_
            obtain ⟨code19, o3_t18, o4_t18, y_o_t18, y_q2_t18, q20, h⟩ := bnd5_s h
            refine J79 _ _ _ _ _ _ H locs ls code19 o3_t18 o4_t18 y_o_t18 y_q2_t18 hW (lv_sub hl [2, 3, 4, 5, 6, 0] rfl) q20 (fun hc H locs ls hW hl => ?_) (fun hc H locs ls hW hl => ?_) (fun hc H locs ls hW hl => ?_)
            · have h := ite_t hc h
              exact ih _ _ _ _ H locs ls _ _ _ _ _ hW (lv_sub hl [0, 1, 2, 3, 4] rfl) h k1 k2
            · have h := ite_f (by rw [hc]; decide) h
              obtain ⟨rfl, rfl, rfl, rfl, rfl⟩ := ret5 h
              exact k1 hc H locs ls hW hl
            · have h := ite_f (by rw [hc]; decide) h
              obtain ⟨rfl, rfl, rfl, rfl, rfl⟩ := ret5 h
              exact k2 hc H locs ls hW hl
          · have h := ite_t c10 h
            refine lv_iconst (v := 1) hx hb dX9_priceAnew_74 (by decide) ?_
            refine lv_goto (tgt := 79) hx hb dX9_priceAnew_75 (by decide) ?_
            obtain ⟨code22, o3_t21, o4_t21, y_o_t21, y_q2_t21, q23, h⟩ := bnd5_s h
            refine J79 _ _ _ _ _ _ H locs ls code22 o3_t21 o4_t21 y_o_t21 y_q2_t21 hW (lv_sub hl [2, 3, 4, 5, 6, 0] rfl) q23 (fun hc H locs ls hW hl => ?_) (fun hc H locs ls hW hl => ?_) (fun hc H locs ls hW hl => ?_)
            · have h := ite_t hc h
              exact ih _ _ _ _ H locs ls _ _ _ _ _ hW (lv_sub hl [0, 1, 2, 3, 4] rfl) h k1 k2
            · have h := ite_f (by rw [hc]; decide) h
              obtain ⟨rfl, rfl, rfl, rfl, rfl⟩ := ret5 h
              exact k1 hc H locs ls hW hl
            · have h := ite_f (by rw [hc]; decide) h
              obtain ⟨rfl, rfl, rfl, rfl, rfl⟩ := ret5 h
              exact k2 hc H locs ls hW hl
        · have h := ite_t c7 h
          refine lv_aload_n hx hb dX9_priceAnew_38 rfl (lv_at hl 2 rfl) ?_
          refine fg_X9_22 (v := .ref (a_o 3)) hx hb hts hown hK hW 0 rfl rfl dX9_priceAnew_39 ?_
          refine lv_iload_n hx hb dX9_priceAnew_42 rfl (lv_at hl 5 rfl) ?_
          refine lv_aload_n hx hb dX9_priceAnew_43 rfl (lv_at hl 3 rfl) ?_
          refine lv_iload hx hb dX9_priceAnew_44 (lv_at hl 1 rfl) ?_
          have hW := hW.perm pf1
          obtain ⟨r24, q25, h⟩ := bnd1_s h
          refine cl_X9_46 hx hb hml hown hts hK hN hW (c_X0_featuresOf l D T A a_q1 (oc_X9 T a_o x_o_10 ++ (oc_X2 T a_q2 x_q2_10 ++ Z)) x_q1 w5_4 r24 q25) ⟨Nat.le_of_ble_eq_true rfl, Nat.le_of_ble_eq_true rfl⟩ hl.1 rfl (Nat.le_of_ble_eq_true rfl) dX9_priceAnew_46 ⟨Nat.zero_le _, Nat.zero_le _⟩ rfl (fun H locs hW => ?_)
          have hW := hW.perm pf2
          have hW := hW.perm pf1
          have hW := hW.perm pf2
          obtain ⟨g26, h⟩ := grd_s h
          refine g_iast (ws9 := oc_X9 T a_o (upo x_o_10 3 v3_10.toNatClampNeg r24) ++ (oc_X0 T a_q1 x_q1 ++ (oc_X2 T a_q2 x_q2_10 ++ Z))) hx hb hK hW 3 rfl g26 sa_X9_3 dX9_priceAnew_49 (fun H locs hW => ?_)
          obtain ⟨x_o27, ex_o27⟩ : ∃ y : Ob, y = upo x_o_10 3 v3_10.toNatClampNeg r24 := ⟨_, rfl⟩
          rw [← ex_o27] at hW
          have h := lb_at ex_o27 h
          refine lv_aload_n hx hb dX9_priceAnew_50 rfl (lv_at hl 2 rfl) ?_
          refine fg_X9_25 (v := .ref (a_o 4)) hx hb hts hown hK hW 0 rfl rfl dX9_priceAnew_51 ?_
          refine lv_iload_n hx hb dX9_priceAnew_54 rfl (lv_at hl 5 rfl) ?_
          refine lv_iconst (v := 0) hx hb dX9_priceAnew_55 (by decide) ?_
          obtain ⟨g28, h⟩ := grd_s h
          refine g_iast (ws9 := oc_X9 T a_o (upo x_o27 4 v3_10.toNatClampNeg 0) ++ (oc_X0 T a_q1 x_q1 ++ (oc_X2 T a_q2 x_q2_10 ++ Z))) hx hb hK hW 4 rfl g28 sa_X9_4 dX9_priceAnew_56 (fun H locs hW => ?_)
          obtain ⟨x_o29, ex_o29⟩ : ∃ y : Ob, y = upo x_o27 4 v3_10.toNatClampNeg 0 := ⟨_, rfl⟩
          rw [← ex_o29] at hW
          have h := lb_at ex_o29 h
          obtain ⟨w3_30, ew3_30⟩ : ∃ y : Int32, y = v3_10 + 1 := ⟨_, rfl⟩
          have h := lb_at ew3_30 h
          refine lv_iinc (v := w3_30) (lv' := [(3, .int w3_30), (6, .int r5), (5, .int w5_4), (0, .ref (a_o 0)), (1, .ref (a_q1 0)), (2, .ref (a_q2 0)), (4, .int v4_10)]) hx hb dX9_priceAnew_57 hl (k := 5) rfl (by rw [ew3_30]; rfl) (by decide) rfl (fun ls hl => ?_)
          refine lv_goto (tgt := 109) hx hb dX9_priceAnew_60 (by decide) ?_
          obtain ⟨w4_31, ew4_31⟩ : ∃ y : Int32, y = v4_10 + (-1) := ⟨_, rfl⟩
          have h := lb_at ew4_31 h
          refine lv_iinc (v := w4_31) (lv' := [(4, .int w4_31), (3, .int w3_30), (6, .int r5), (5, .int w5_4), (0, .ref (a_o 0)), (1, .ref (a_q1 0)), (2, .ref (a_q2 0))]) hx hb dX9_priceAnew_109 hl (k := 6) rfl (by rw [ew4_31]; rfl) (by decide) rfl (fun ls hl => ?_)
          refine lv_goto (tgt := 10) hx hb dX9_priceAnew_112 (by decide) ?_
          exact ih _ _ _ _ H locs ls _ _ _ _ _ hW (lv_sub hl [4, 5, 6, 1, 0] rfl) h k1 k2
  rw [f_X9_priceAnew] at h
  suffices hm : ∀ (H : Heap) (locs : List Loc), Wd D A s.heap (oc_X9 T a_o x_o ++ (oc_X0 T a_q1 x_q1 ++ (oc_X2 T a_q2 x_q2 ++ Z))) H locs → W p l e (rmd 3) s m args below meth c H locs 0 0 Q (F0 m 0 ls []) from hm _ _ hW
  intro H locs hW
  refine lv_iconst (v := 0) hx hb dX9_priceAnew_0 (by decide) ?_
  refine lv_istore_n (lv' := [(3, .int 0), (0, .ref (a_o 0)), (1, .ref (a_q1 0)), (2, .ref (a_q2 0))]) hx hb dX9_priceAnew_1 rfl hl (by decide) rfl (fun ls hl => ?_)
  refine lv_aload_n hx hb dX9_priceAnew_2 rfl (lv_at hl 1 rfl) ?_
  refine fg_X9_9 (v := .int (x_o 0 0)) hx hb hts hown hK hW 0 rfl rfl dX9_priceAnew_3 ?_
  refine lv_iconst (v := 1) hx hb dX9_priceAnew_6 (by decide) ?_
  refine lv_isub hx hb dX9_priceAnew_7 ?_
  refine lv_topi (fun w4_1 ew4_1 => ?_)
  have h := lb_at ew4_1 h
  refine lv_istore (lv' := [(4, .int w4_1), (3, .int 0), (0, .ref (a_o 0)), (1, .ref (a_q1 0)), (2, .ref (a_q2 0))]) hx hb dX9_priceAnew_8 hl (by decide) rfl (fun ls hl => ?_)
  obtain ⟨code33, o3_u32, o4_u32, y_o_u32, y_q2_u32, q34, h⟩ := bnd5_s h
  refine L10 200 _ _ _ _ H locs ls code33 o3_u32 o4_u32 y_o_u32 y_q2_u32 hW (lv_sub hl [2, 3, 4, 1, 0] rfl) q34 (fun hc H locs ls hW hl => ?_) (fun hc H locs ls hW hl => ?_)
  · have h := ite_t hc h
    refine lv_iload_n hx hb dX9_priceAnew_115 rfl (lv_at hl 1 rfl) ?_
    refine lv_iconst (v := 1) hx hb dX9_priceAnew_116 (by decide) ?_
    refine lv_icmp_ne (tgt := 129) hx hb dX9_priceAnew_117 (by decide) (fun c35 => ?_) (fun c35 => ?_)
    · have h := ite_f c35 h
      refine lv_sipush (v := 1000) hx hb dX9_priceAnew_129 (by decide) ?_
      obtain ⟨rfl, rfl, rfl⟩ := ret3 h
      rw [hQ]
      exact g_reti hx hb hr hlk hW dX9_priceAnew_132
    · have h := ite_t c35 h
      refine lv_aload_n hx hb dX9_priceAnew_120 rfl (lv_at hl 0 rfl) ?_
      refine fg_X9_25 (v := .ref (a_o 4)) hx hb hts hown hK hW 0 rfl rfl dX9_priceAnew_121 ?_
      refine lv_iconst (v := 0) hx hb dX9_priceAnew_124 (by decide) ?_
      refine g_iald hx hb hK hW 4 rfl (by decide) dX9_priceAnew_125 ?_
      refine lv_goto (tgt := 132) hx hb dX9_priceAnew_126 (by decide) ?_
      obtain ⟨rfl, rfl, rfl⟩ := ret3 h
      rw [hQ]
      exact g_reti hx hb hr hlk hW dX9_priceAnew_132
  · have h := ite_f (by rw [hc]; decide) h
    refine lv_sipush (v := 1000) hx hb dX9_priceAnew_87 (by decide) ?_
    obtain ⟨rfl, rfl, rfl⟩ := ret3 h
    rw [hQ]
    exact g_reti hx hb hr hlk hW dX9_priceAnew_90
