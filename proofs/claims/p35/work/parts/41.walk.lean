set_option maxHeartbeats 4000000 in
set_option maxRecDepth 100000 in
theorem c_X2_leftOf (l : Launch) (D : va_G) (T : Nat → ClassId) (A : Nat → Prop) (a_o : Nat → Nat) (Z : va_W)  (x_o : Ob) (p1 : Int32) (r : Int32) (h : f_X2_leftOf x_o p1 = some r) : Met l yX2_leftOf (Cond.code yX2_leftOf cX2_leftOf 2 (some .int) :: wsL_law) (rmd 0) (Pg D T A (oc_X2 T a_o x_o ++ Z) [.ref (a_o 0), .int p1]) (Qgi D A (oc_X2 T a_o x_o ++ Z) r) 0 0 A := by
  refine Met.ofW (cc := cX2_leftOf) (maxL := 2) (ret := (some .int)) (by decide +kernel) rfl ?_
  intro p e s m args below meth c s₁ B hml hv
  obtain ⟨ha, hP, hK, hD, hN⟩ := hv
  have hx := B.exec
  have hb := B.bytes
  have hr := B.returns
  have hlk := B.notSynchronized
  have hts : ∀ w ∈ wsL_law, w.before args s = true := fun w hw => atoms_spec B.pre w (List.mem_cons_of_mem _ hw)
  have hown : s.vm.findClass RX2 = some m.cls := findClass_of_methodNamed B.named
  have hW : Wd D A s.heap (oc_X2 T a_o x_o ++ Z) s.heap [] := ⟨hP, hD, va_S.rf⟩
  have hl := lv_entry [.ref (a_o 0), .int p1] (n := 2) (Nat.le_of_ble_eq_true rfl)
  refine W.eq (en_eq ha) ?_
  generalize (lg_sl [.ref (a_o 0), .int p1] ++ List.replicate (2 - (lg_sl [.ref (a_o 0), .int p1]).length) Slot.unset).toArray = ls at hl ⊢
  have hl : lv_has ls 2 [(0, .ref (a_o 0)), (1, .int p1)] := hl
  clear hP hD B ha
  obtain ⟨Q, hQ⟩ : ∃ Q, Q = MQ below (Qgi D A (oc_X2 T a_o x_o ++ Z) r) args s 0 0 A := ⟨_, rfl⟩
  rw [← hQ]
  change W p l e (rmd 0) s m args below meth c s.heap [] 0 0 Q (F0 m 0 ls [])
  rw [f_X2_leftOf] at h
  suffices hm : ∀ (H : Heap) (locs : List Loc), Wd D A s.heap (oc_X2 T a_o x_o ++ Z) H locs → W p l e (rmd 0) s m args below meth c H locs 0 0 Q (F0 m 0 ls []) from hm _ _ hW
  intro H locs hW
  refine lv_iload_n hx hb dX2_leftOf_0 rfl (lv_at hl 1 rfl) ?_
  refine lv_if_lt (tgt := 21) hx hb dX2_leftOf_1 (by decide) (fun c1 => ?_) (fun c1 => ?_)
  · have h := ite_t c1 h
    refine lv_iconst (v := (-1)) hx hb dX2_leftOf_21 (by decide) ?_
    obtain rfl := ret1 h
    rw [hQ]
    exact g_reti hx hb hr hlk hW dX2_leftOf_22
  · have h := ite_f c1 h
    refine lv_iload_n hx hb dX2_leftOf_4 rfl (lv_at hl 1 rfl) ?_
    refine lv_aload_n hx hb dX2_leftOf_5 rfl (lv_at hl 0 rfl) ?_
    refine fg_X2_9 (v := .int (x_o 0 0)) hx hb hts hown hK hW 0 rfl rfl dX2_leftOf_6 ?_
    refine lv_icmp_ge (tgt := 21) hx hb dX2_leftOf_9 (by decide) (fun c2 => ?_) (fun c2 => ?_)
    · have h := ite_t c2 h
      refine lv_iconst (v := (-1)) hx hb dX2_leftOf_21 (by decide) ?_
      obtain rfl := ret1 h
      rw [hQ]
      exact g_reti hx hb hr hlk hW dX2_leftOf_22
    · have h := ite_f c2 h
      refine lv_aload_n hx hb dX2_leftOf_12 rfl (lv_at hl 0 rfl) ?_
      refine fg_X2_19 (v := .ref (a_o 2)) hx hb hts hown hK hW 0 rfl rfl dX2_leftOf_13 ?_
      refine lv_iload_n hx hb dX2_leftOf_16 rfl (lv_at hl 1 rfl) ?_
      obtain ⟨g3, h⟩ := grd_s h
      refine g_iald hx hb hK hW 2 rfl g3 dX2_leftOf_17 ?_
      refine lv_goto (tgt := 22) hx hb dX2_leftOf_18 (by decide) ?_
      obtain rfl := ret1 h
      rw [hQ]
      exact g_reti hx hb hr hlk hW dX2_leftOf_22
set_option maxHeartbeats 4000000 in
set_option maxRecDepth 100000 in
theorem c_X2_rightOf (l : Launch) (D : va_G) (T : Nat → ClassId) (A : Nat → Prop) (a_o : Nat → Nat) (Z : va_W)  (x_o : Ob) (p1 : Int32) (r : Int32) (h : f_X2_rightOf x_o p1 = some r) : Met l yX2_rightOf (Cond.code yX2_rightOf cX2_rightOf 2 (some .int) :: wsL_law) (rmd 0) (Pg D T A (oc_X2 T a_o x_o ++ Z) [.ref (a_o 0), .int p1]) (Qgi D A (oc_X2 T a_o x_o ++ Z) r) 0 0 A := by
  refine Met.ofW (cc := cX2_rightOf) (maxL := 2) (ret := (some .int)) (by decide +kernel) rfl ?_
  intro p e s m args below meth c s₁ B hml hv
  obtain ⟨ha, hP, hK, hD, hN⟩ := hv
  have hx := B.exec
  have hb := B.bytes
  have hr := B.returns
  have hlk := B.notSynchronized
  have hts : ∀ w ∈ wsL_law, w.before args s = true := fun w hw => atoms_spec B.pre w (List.mem_cons_of_mem _ hw)
  have hown : s.vm.findClass RX2 = some m.cls := findClass_of_methodNamed B.named
  have hW : Wd D A s.heap (oc_X2 T a_o x_o ++ Z) s.heap [] := ⟨hP, hD, va_S.rf⟩
  have hl := lv_entry [.ref (a_o 0), .int p1] (n := 2) (Nat.le_of_ble_eq_true rfl)
  refine W.eq (en_eq ha) ?_
  generalize (lg_sl [.ref (a_o 0), .int p1] ++ List.replicate (2 - (lg_sl [.ref (a_o 0), .int p1]).length) Slot.unset).toArray = ls at hl ⊢
  have hl : lv_has ls 2 [(0, .ref (a_o 0)), (1, .int p1)] := hl
  clear hP hD B ha
  obtain ⟨Q, hQ⟩ : ∃ Q, Q = MQ below (Qgi D A (oc_X2 T a_o x_o ++ Z) r) args s 0 0 A := ⟨_, rfl⟩
  rw [← hQ]
  change W p l e (rmd 0) s m args below meth c s.heap [] 0 0 Q (F0 m 0 ls [])
  rw [f_X2_rightOf] at h
  suffices hm : ∀ (H : Heap) (locs : List Loc), Wd D A s.heap (oc_X2 T a_o x_o ++ Z) H locs → W p l e (rmd 0) s m args below meth c H locs 0 0 Q (F0 m 0 ls []) from hm _ _ hW
  intro H locs hW
  refine lv_iload_n hx hb dX2_rightOf_0 rfl (lv_at hl 1 rfl) ?_
  refine lv_if_lt (tgt := 21) hx hb dX2_rightOf_1 (by decide) (fun c1 => ?_) (fun c1 => ?_)
  · have h := ite_t c1 h
    refine lv_iconst (v := (-1)) hx hb dX2_rightOf_21 (by decide) ?_
    obtain rfl := ret1 h
    rw [hQ]
    exact g_reti hx hb hr hlk hW dX2_rightOf_22
  · have h := ite_f c1 h
    refine lv_iload_n hx hb dX2_rightOf_4 rfl (lv_at hl 1 rfl) ?_
    refine lv_aload_n hx hb dX2_rightOf_5 rfl (lv_at hl 0 rfl) ?_
    refine fg_X2_9 (v := .int (x_o 0 0)) hx hb hts hown hK hW 0 rfl rfl dX2_rightOf_6 ?_
    refine lv_icmp_ge (tgt := 21) hx hb dX2_rightOf_9 (by decide) (fun c2 => ?_) (fun c2 => ?_)
    · have h := ite_t c2 h
      refine lv_iconst (v := (-1)) hx hb dX2_rightOf_21 (by decide) ?_
      obtain rfl := ret1 h
      rw [hQ]
      exact g_reti hx hb hr hlk hW dX2_rightOf_22
    · have h := ite_f c2 h
      refine lv_aload_n hx hb dX2_rightOf_12 rfl (lv_at hl 0 rfl) ?_
      refine fg_X2_22 (v := .ref (a_o 3)) hx hb hts hown hK hW 0 rfl rfl dX2_rightOf_13 ?_
      refine lv_iload_n hx hb dX2_rightOf_16 rfl (lv_at hl 1 rfl) ?_
      obtain ⟨g3, h⟩ := grd_s h
      refine g_iald hx hb hK hW 3 rfl g3 dX2_rightOf_17 ?_
      refine lv_goto (tgt := 22) hx hb dX2_rightOf_18 (by decide) ?_
      obtain rfl := ret1 h
      rw [hQ]
      exact g_reti hx hb hr hlk hW dX2_rightOf_22
set_option maxHeartbeats 4000000 in
set_option maxRecDepth 100000 in
theorem c_X2_slotOf (l : Launch) (D : va_G) (T : Nat → ClassId) (A : Nat → Prop) (a_o : Nat → Nat) (Z : va_W)  (x_o : Ob) (p1 : Int32) (p2 : Int32) (r : Int32) (h : f_X2_slotOf x_o p1 p2 = some r) : Met l yX2_slotOf (Cond.code yX2_slotOf cX2_slotOf 4 (some .int) :: wsL_law) (rmd 1) (Pg D T A (oc_X2 T a_o x_o ++ Z) [.ref (a_o 0), .int p1, .int p2]) (Qgi D A (oc_X2 T a_o x_o ++ Z) r) 0 0 A := by
  refine Met.ofW (cc := cX2_slotOf) (maxL := 4) (ret := (some .int)) (by decide +kernel) rfl ?_
  intro p e s m args below meth c s₁ B hml hv
  obtain ⟨ha, hP, hK, hD, hN⟩ := hv
  have hx := B.exec
  have hb := B.bytes
  have hr := B.returns
  have hlk := B.notSynchronized
  have hts : ∀ w ∈ wsL_law, w.before args s = true := fun w hw => atoms_spec B.pre w (List.mem_cons_of_mem _ hw)
  have hown : s.vm.findClass RX2 = some m.cls := findClass_of_methodNamed B.named
  have hW : Wd D A s.heap (oc_X2 T a_o x_o ++ Z) s.heap [] := ⟨hP, hD, va_S.rf⟩
  have hl := lv_entry [.ref (a_o 0), .int p1, .int p2] (n := 4) (Nat.le_of_ble_eq_true rfl)
  refine W.eq (en_eq ha) ?_
  generalize (lg_sl [.ref (a_o 0), .int p1, .int p2] ++ List.replicate (4 - (lg_sl [.ref (a_o 0), .int p1, .int p2]).length) Slot.unset).toArray = ls at hl ⊢
  have hl : lv_has ls 4 [(0, .ref (a_o 0)), (1, .int p1), (2, .int p2)] := hl
  clear hP hD B ha
  obtain ⟨Q, hQ⟩ : ∃ Q, Q = MQ below (Qgi D A (oc_X2 T a_o x_o ++ Z) r) args s 0 0 A := ⟨_, rfl⟩
  rw [← hQ]
  change W p l e (rmd 1) s m args below meth c s.heap [] 0 0 Q (F0 m 0 ls [])
  have J26 : ∀ (v1_26 : Int32) (v2_26 : Int32) (H : Heap) (locs : List Loc) (ls : Array Slot), Wd D A s.heap (oc_X2 T a_o x_o ++ Z) H locs → lv_has ls 4 [(1, .int v1_26), (2, .int v2_26)] → f_X2_slotOf_J26 x_o v1_26 v2_26 = some r → W p l e (rmd 1) s m args below meth c H locs 0 0 Q (F0 m 26 ls []) := by
    intro v1_26 v2_26 H locs ls hW hl h
    rw [f_X2_slotOf_J26] at h
    refine lv_iconst (v := 0) hx hb dX2_slotOf_26 (by decide) ?_
    refine lv_istore_n (lv' := [(3, .int 0), (1, .int v1_26), (2, .int v2_26)]) hx hb dX2_slotOf_27 rfl hl (by decide) rfl (fun ls hl => ?_)
    refine lv_iload_n hx hb dX2_slotOf_28 rfl (lv_at hl 0 rfl) ?_
    refine lv_if_eq (tgt := 40) hx hb dX2_slotOf_29 (by decide) (fun c4 => ?_) (fun c4 => ?_)
    · have h := ite_t c4 h
      refine lv_iconst (v := (-1)) hx hb dX2_slotOf_40 (by decide) ?_
      obtain rfl := ret1 h
      rw [hQ]
      exact g_reti hx hb hr hlk hW dX2_slotOf_41
    · have h := ite_f c4 h
      refine lv_iload_n hx hb dX2_slotOf_32 rfl (lv_at hl 1 rfl) ?_
      refine lv_iconst (v := 3) hx hb dX2_slotOf_33 (by decide) ?_
      refine lv_imul hx hb dX2_slotOf_34 ?_
      refine lv_iload_n hx hb dX2_slotOf_35 rfl (lv_at hl 2 rfl) ?_
      refine lv_iadd hx hb dX2_slotOf_36 ?_
      refine lv_goto (tgt := 41) hx hb dX2_slotOf_37 (by decide) ?_
      obtain rfl := ret1 h
      rw [hQ]
      exact g_reti hx hb hr hlk hW dX2_slotOf_41
  rw [f_X2_slotOf] at h
  suffices hm : ∀ (H : Heap) (locs : List Loc), Wd D A s.heap (oc_X2 T a_o x_o ++ Z) H locs → W p l e (rmd 1) s m args below meth c H locs 0 0 Q (F0 m 0 ls []) from hm _ _ hW
  intro H locs hW
  refine lv_aload_n hx hb dX2_slotOf_0 rfl (lv_at hl 0 rfl) ?_
  refine lv_iload_n hx hb dX2_slotOf_1 rfl (lv_at hl 1 rfl) ?_
  obtain ⟨r1, q2, h⟩ := bnd1_s h
  refine cl_X2_58 hx hb hml hown hts hK hN hW (c_X2_hasRule l D T A a_o (Z) x_o p1 r1 q2) ⟨Nat.le_of_ble_eq_true rfl, Nat.le_of_ble_eq_true rfl⟩ hl.1 rfl (Nat.le_of_ble_eq_true rfl) dX2_slotOf_2 ⟨Nat.zero_le _, Nat.zero_le _⟩ rfl (fun H locs hW => ?_)
  refine lv_if_eq (tgt := 26) hx hb dX2_slotOf_5 (by decide) (fun c3 => ?_) (fun c3 => ?_)
  · have h := ite_t c3 h
    exact J26 _ _ H locs ls hW (lv_sub hl [1, 2] rfl) h
  · have h := ite_f c3 h
    refine lv_iload_n hx hb dX2_slotOf_8 rfl (lv_at hl 2 rfl) ?_
    refine lv_if_lt (tgt := 26) hx hb dX2_slotOf_9 (by decide) (fun c5 => ?_) (fun c5 => ?_)
    · have h := ite_t c5 h
      exact J26 _ _ H locs ls hW (lv_sub hl [1, 2] rfl) h
    · have h := ite_f c5 h
      refine lv_iload_n hx hb dX2_slotOf_12 rfl (lv_at hl 2 rfl) ?_
      refine lv_aload_n hx hb dX2_slotOf_13 rfl (lv_at hl 0 rfl) ?_
      refine fg_X2_34 (v := .ref (a_o 6)) hx hb hts hown hK hW 0 rfl rfl dX2_slotOf_14 ?_
      refine lv_iload_n hx hb dX2_slotOf_17 rfl (lv_at hl 1 rfl) ?_
      obtain ⟨g6, h⟩ := grd_s h
      refine g_iald hx hb hK hW 6 rfl g6 dX2_slotOf_18 ?_
      refine lv_icmp_ge (tgt := 26) hx hb dX2_slotOf_19 (by decide) (fun c7 => ?_) (fun c7 => ?_)
      · have h := ite_t c7 h
        exact J26 _ _ H locs ls hW (lv_sub hl [1, 2] rfl) h
      · have h := ite_f c7 h
        refine lv_iconst (v := 1) hx hb dX2_slotOf_22 (by decide) ?_
        refine lv_goto (tgt := 27) hx hb dX2_slotOf_23 (by decide) ?_
        refine lv_istore_n (lv' := [(3, .int 1), (0, .ref (a_o 0)), (1, .int p1), (2, .int p2)]) hx hb dX2_slotOf_27 rfl hl (by decide) rfl (fun ls hl => ?_)
        refine lv_iload_n hx hb dX2_slotOf_28 rfl (lv_at hl 0 rfl) ?_
        refine lv_if_eq (tgt := 40) hx hb dX2_slotOf_29 (by decide) (fun c8 => ?_) (fun c8 => ?_)
        · have h := ite_t c8 h
          refine lv_iconst (v := (-1)) hx hb dX2_slotOf_40 (by decide) ?_
          obtain rfl := ret1 h
          rw [hQ]
          exact g_reti hx hb hr hlk hW dX2_slotOf_41
        · have h := ite_f c8 h
          refine lv_iload_n hx hb dX2_slotOf_32 rfl (lv_at hl 2 rfl) ?_
          refine lv_iconst (v := 3) hx hb dX2_slotOf_33 (by decide) ?_
          refine lv_imul hx hb dX2_slotOf_34 ?_
          refine lv_iload_n hx hb dX2_slotOf_35 rfl (lv_at hl 3 rfl) ?_
          refine lv_iadd hx hb dX2_slotOf_36 ?_
          refine lv_goto (tgt := 41) hx hb dX2_slotOf_37 (by decide) ?_
          obtain rfl := ret1 h
          rw [hQ]
          exact g_reti hx hb hr hlk hW dX2_slotOf_41
set_option maxHeartbeats 4000000 in
set_option maxRecDepth 100000 in
theorem c_X2_featureOf (l : Launch) (D : va_G) (T : Nat → ClassId) (A : Nat → Prop) (a_o : Nat → Nat) (Z : va_W)  (x_o : Ob) (p1 : Int32) (p2 : Int32) (r : Int32) (h : f_X2_featureOf x_o p1 p2 = some r) : Met l yX2_featureOf (Cond.code yX2_featureOf cX2_featureOf 4 (some .int) :: wsL_law) (rmd 2) (Pg D T A (oc_X2 T a_o x_o ++ Z) [.ref (a_o 0), .int p1, .int p2]) (Qgi D A (oc_X2 T a_o x_o ++ Z) r) 0 0 A := by
  refine Met.ofW (cc := cX2_featureOf) (maxL := 4) (ret := (some .int)) (by decide +kernel) rfl ?_
  intro p e s m args below meth c s₁ B hml hv
  obtain ⟨ha, hP, hK, hD, hN⟩ := hv
  have hx := B.exec
  have hb := B.bytes
  have hr := B.returns
  have hlk := B.notSynchronized
  have hts : ∀ w ∈ wsL_law, w.before args s = true := fun w hw => atoms_spec B.pre w (List.mem_cons_of_mem _ hw)
  have hown : s.vm.findClass RX2 = some m.cls := findClass_of_methodNamed B.named
  have hW : Wd D A s.heap (oc_X2 T a_o x_o ++ Z) s.heap [] := ⟨hP, hD, va_S.rf⟩
  have hl := lv_entry [.ref (a_o 0), .int p1, .int p2] (n := 4) (Nat.le_of_ble_eq_true rfl)
  refine W.eq (en_eq ha) ?_
  generalize (lg_sl [.ref (a_o 0), .int p1, .int p2] ++ List.replicate (4 - (lg_sl [.ref (a_o 0), .int p1, .int p2]).length) Slot.unset).toArray = ls at hl ⊢
  have hl : lv_has ls 4 [(0, .ref (a_o 0)), (1, .int p1), (2, .int p2)] := hl
  clear hP hD B ha
  obtain ⟨Q, hQ⟩ : ∃ Q, Q = MQ below (Qgi D A (oc_X2 T a_o x_o ++ Z) r) args s 0 0 A := ⟨_, rfl⟩
  rw [← hQ]
  change W p l e (rmd 2) s m args below meth c s.heap [] 0 0 Q (F0 m 0 ls [])
  rw [f_X2_featureOf] at h
  suffices hm : ∀ (H : Heap) (locs : List Loc), Wd D A s.heap (oc_X2 T a_o x_o ++ Z) H locs → W p l e (rmd 2) s m args below meth c H locs 0 0 Q (F0 m 0 ls []) from hm _ _ hW
  intro H locs hW
  refine lv_aload_n hx hb dX2_featureOf_0 rfl (lv_at hl 0 rfl) ?_
  refine lv_iload_n hx hb dX2_featureOf_1 rfl (lv_at hl 1 rfl) ?_
  refine lv_iload_n hx hb dX2_featureOf_2 rfl (lv_at hl 2 rfl) ?_
  obtain ⟨r1, q2, h⟩ := bnd1_s h
  refine cl_X2_83 hx hb hml hown hts hK hN hW (c_X2_slotOf l D T A a_o (Z) x_o p1 p2 r1 q2) ⟨Nat.le_of_ble_eq_true rfl, Nat.le_of_ble_eq_true rfl⟩ hl.1 rfl (Nat.le_of_ble_eq_true rfl) dX2_featureOf_3 ⟨Nat.zero_le _, Nat.zero_le _⟩ rfl (fun H locs hW => ?_)
  refine lv_istore_n (lv' := [(3, .int r1), (0, .ref (a_o 0)), (1, .int p1), (2, .int p2)]) hx hb dX2_featureOf_6 rfl hl (by decide) rfl (fun ls hl => ?_)
  refine lv_iload_n hx hb dX2_featureOf_7 rfl (lv_at hl 0 rfl) ?_
  refine lv_aload_n hx hb dX2_featureOf_8 rfl (lv_at hl 1 rfl) ?_
  refine fg_X2_37 (v := .ref (a_o 7)) hx hb hts hown hK hW 0 rfl rfl dX2_featureOf_9 ?_
  refine g_alen (v := 48) hx hb hK hW 7 0 rfl rfl rfl dX2_featureOf_12 ?_
  obtain ⟨r3, q4, h⟩ := bnd1_s h
  refine cl_X2_62 hx hb hml hown hts hK hN hW (c_X10_isBelow l D T A (oc_X2 T a_o x_o ++ Z) r1 48 r3 q4) ⟨Nat.le_of_ble_eq_true rfl, Nat.le_of_ble_eq_true rfl⟩ hl.1 rfl (Nat.le_of_ble_eq_true rfl) dX2_featureOf_13 ⟨Nat.zero_le _, Nat.zero_le _⟩ rfl (fun H locs hW => ?_)
  refine lv_if_eq (tgt := 28) hx hb dX2_featureOf_16 (by decide) (fun c5 => ?_) (fun c5 => ?_)
  · have h := ite_t c5 h
    refine lv_iconst (v := 0) hx hb dX2_featureOf_28 (by decide) ?_
    obtain rfl := ret1 h
    rw [hQ]
    exact g_reti hx hb hr hlk hW dX2_featureOf_29
  · have h := ite_f c5 h
    refine lv_aload_n hx hb dX2_featureOf_19 rfl (lv_at hl 1 rfl) ?_
    refine fg_X2_37 (v := .ref (a_o 7)) hx hb hts hown hK hW 0 rfl rfl dX2_featureOf_20 ?_
    refine lv_iload_n hx hb dX2_featureOf_23 rfl (lv_at hl 0 rfl) ?_
    obtain ⟨g6, h⟩ := grd_s h
    refine g_iald hx hb hK hW 7 rfl g6 dX2_featureOf_24 ?_
    refine lv_goto (tgt := 29) hx hb dX2_featureOf_25 (by decide) ?_
    obtain rfl := ret1 h
    rw [hQ]
    exact g_reti hx hb hr hlk hW dX2_featureOf_29
set_option maxHeartbeats 4000000 in
set_option maxRecDepth 100000 in
theorem c_X2_oneOf (l : Launch) (D : va_G) (T : Nat → ClassId) (A : Nat → Prop) (a_o : Nat → Nat) (Z : va_W)  (x_o : Ob) (p1 : Int32) (p2 : Int32) (r : Int32) (h : f_X2_oneOf x_o p1 p2 = some r) : Met l yX2_oneOf (Cond.code yX2_oneOf cX2_oneOf 4 (some .int) :: wsL_law) (rmd 2) (Pg D T A (oc_X2 T a_o x_o ++ Z) [.ref (a_o 0), .int p1, .int p2]) (Qgi D A (oc_X2 T a_o x_o ++ Z) r) 0 0 A := by
  refine Met.ofW (cc := cX2_oneOf) (maxL := 4) (ret := (some .int)) (by decide +kernel) rfl ?_
  intro p e s m args below meth c s₁ B hml hv
  obtain ⟨ha, hP, hK, hD, hN⟩ := hv
  have hx := B.exec
  have hb := B.bytes
  have hr := B.returns
  have hlk := B.notSynchronized
  have hts : ∀ w ∈ wsL_law, w.before args s = true := fun w hw => atoms_spec B.pre w (List.mem_cons_of_mem _ hw)
  have hown : s.vm.findClass RX2 = some m.cls := findClass_of_methodNamed B.named
  have hW : Wd D A s.heap (oc_X2 T a_o x_o ++ Z) s.heap [] := ⟨hP, hD, va_S.rf⟩
  have hl := lv_entry [.ref (a_o 0), .int p1, .int p2] (n := 4) (Nat.le_of_ble_eq_true rfl)
  refine W.eq (en_eq ha) ?_
  generalize (lg_sl [.ref (a_o 0), .int p1, .int p2] ++ List.replicate (4 - (lg_sl [.ref (a_o 0), .int p1, .int p2]).length) Slot.unset).toArray = ls at hl ⊢
  have hl : lv_has ls 4 [(0, .ref (a_o 0)), (1, .int p1), (2, .int p2)] := hl
  clear hP hD B ha
  obtain ⟨Q, hQ⟩ : ∃ Q, Q = MQ below (Qgi D A (oc_X2 T a_o x_o ++ Z) r) args s 0 0 A := ⟨_, rfl⟩
  rw [← hQ]
  change W p l e (rmd 2) s m args below meth c s.heap [] 0 0 Q (F0 m 0 ls [])
  rw [f_X2_oneOf] at h
  suffices hm : ∀ (H : Heap) (locs : List Loc), Wd D A s.heap (oc_X2 T a_o x_o ++ Z) H locs → W p l e (rmd 2) s m args below meth c H locs 0 0 Q (F0 m 0 ls []) from hm _ _ hW
  intro H locs hW
  refine lv_aload_n hx hb dX2_oneOf_0 rfl (lv_at hl 0 rfl) ?_
  refine lv_iload_n hx hb dX2_oneOf_1 rfl (lv_at hl 1 rfl) ?_
  refine lv_iload_n hx hb dX2_oneOf_2 rfl (lv_at hl 2 rfl) ?_
  obtain ⟨r1, q2, h⟩ := bnd1_s h
  refine cl_X2_83 hx hb hml hown hts hK hN hW (c_X2_slotOf l D T A a_o (Z) x_o p1 p2 r1 q2) ⟨Nat.le_of_ble_eq_true rfl, Nat.le_of_ble_eq_true rfl⟩ hl.1 rfl (Nat.le_of_ble_eq_true rfl) dX2_oneOf_3 ⟨Nat.zero_le _, Nat.zero_le _⟩ rfl (fun H locs hW => ?_)
  refine lv_istore_n (lv' := [(3, .int r1), (0, .ref (a_o 0)), (1, .int p1), (2, .int p2)]) hx hb dX2_oneOf_6 rfl hl (by decide) rfl (fun ls hl => ?_)
  refine lv_iload_n hx hb dX2_oneOf_7 rfl (lv_at hl 0 rfl) ?_
  refine lv_aload_n hx hb dX2_oneOf_8 rfl (lv_at hl 1 rfl) ?_
  refine fg_X2_40 (v := .ref (a_o 8)) hx hb hts hown hK hW 0 rfl rfl dX2_oneOf_9 ?_
  refine g_alen (v := 48) hx hb hK hW 8 0 rfl rfl rfl dX2_oneOf_12 ?_
  obtain ⟨r3, q4, h⟩ := bnd1_s h
  refine cl_X2_62 hx hb hml hown hts hK hN hW (c_X10_isBelow l D T A (oc_X2 T a_o x_o ++ Z) r1 48 r3 q4) ⟨Nat.le_of_ble_eq_true rfl, Nat.le_of_ble_eq_true rfl⟩ hl.1 rfl (Nat.le_of_ble_eq_true rfl) dX2_oneOf_13 ⟨Nat.zero_le _, Nat.zero_le _⟩ rfl (fun H locs hW => ?_)
  refine lv_if_eq (tgt := 28) hx hb dX2_oneOf_16 (by decide) (fun c5 => ?_) (fun c5 => ?_)
  · have h := ite_t c5 h
    refine lv_iconst (v := (-1)) hx hb dX2_oneOf_28 (by decide) ?_
    obtain rfl := ret1 h
    rw [hQ]
    exact g_reti hx hb hr hlk hW dX2_oneOf_29
  · have h := ite_f c5 h
    refine lv_aload_n hx hb dX2_oneOf_19 rfl (lv_at hl 1 rfl) ?_
    refine fg_X2_40 (v := .ref (a_o 8)) hx hb hts hown hK hW 0 rfl rfl dX2_oneOf_20 ?_
    refine lv_iload_n hx hb dX2_oneOf_23 rfl (lv_at hl 0 rfl) ?_
    obtain ⟨g6, h⟩ := grd_s h
    refine g_iald hx hb hK hW 8 rfl g6 dX2_oneOf_24 ?_
    refine lv_goto (tgt := 29) hx hb dX2_oneOf_25 (by decide) ?_
    obtain rfl := ret1 h
    rw [hQ]
    exact g_reti hx hb hr hlk hW dX2_oneOf_29
set_option maxHeartbeats 4000000 in
set_option maxRecDepth 100000 in
theorem c_X2_otherOf (l : Launch) (D : va_G) (T : Nat → ClassId) (A : Nat → Prop) (a_o : Nat → Nat) (Z : va_W)  (x_o : Ob) (p1 : Int32) (p2 : Int32) (r : Int32) (h : f_X2_otherOf x_o p1 p2 = some r) : Met l yX2_otherOf (Cond.code yX2_otherOf cX2_otherOf 4 (some .int) :: wsL_law) (rmd 2) (Pg D T A (oc_X2 T a_o x_o ++ Z) [.ref (a_o 0), .int p1, .int p2]) (Qgi D A (oc_X2 T a_o x_o ++ Z) r) 0 0 A := by
  refine Met.ofW (cc := cX2_otherOf) (maxL := 4) (ret := (some .int)) (by decide +kernel) rfl ?_
  intro p e s m args below meth c s₁ B hml hv
  obtain ⟨ha, hP, hK, hD, hN⟩ := hv
  have hx := B.exec
  have hb := B.bytes
  have hr := B.returns
  have hlk := B.notSynchronized
  have hts : ∀ w ∈ wsL_law, w.before args s = true := fun w hw => atoms_spec B.pre w (List.mem_cons_of_mem _ hw)
  have hown : s.vm.findClass RX2 = some m.cls := findClass_of_methodNamed B.named
  have hW : Wd D A s.heap (oc_X2 T a_o x_o ++ Z) s.heap [] := ⟨hP, hD, va_S.rf⟩
  have hl := lv_entry [.ref (a_o 0), .int p1, .int p2] (n := 4) (Nat.le_of_ble_eq_true rfl)
  refine W.eq (en_eq ha) ?_
  generalize (lg_sl [.ref (a_o 0), .int p1, .int p2] ++ List.replicate (4 - (lg_sl [.ref (a_o 0), .int p1, .int p2]).length) Slot.unset).toArray = ls at hl ⊢
  have hl : lv_has ls 4 [(0, .ref (a_o 0)), (1, .int p1), (2, .int p2)] := hl
  clear hP hD B ha
  obtain ⟨Q, hQ⟩ : ∃ Q, Q = MQ below (Qgi D A (oc_X2 T a_o x_o ++ Z) r) args s 0 0 A := ⟨_, rfl⟩
  rw [← hQ]
  change W p l e (rmd 2) s m args below meth c s.heap [] 0 0 Q (F0 m 0 ls [])
  rw [f_X2_otherOf] at h
  suffices hm : ∀ (H : Heap) (locs : List Loc), Wd D A s.heap (oc_X2 T a_o x_o ++ Z) H locs → W p l e (rmd 2) s m args below meth c H locs 0 0 Q (F0 m 0 ls []) from hm _ _ hW
  intro H locs hW
  refine lv_aload_n hx hb dX2_otherOf_0 rfl (lv_at hl 0 rfl) ?_
  refine lv_iload_n hx hb dX2_otherOf_1 rfl (lv_at hl 1 rfl) ?_
  refine lv_iload_n hx hb dX2_otherOf_2 rfl (lv_at hl 2 rfl) ?_
  obtain ⟨r1, q2, h⟩ := bnd1_s h
  refine cl_X2_83 hx hb hml hown hts hK hN hW (c_X2_slotOf l D T A a_o (Z) x_o p1 p2 r1 q2) ⟨Nat.le_of_ble_eq_true rfl, Nat.le_of_ble_eq_true rfl⟩ hl.1 rfl (Nat.le_of_ble_eq_true rfl) dX2_otherOf_3 ⟨Nat.zero_le _, Nat.zero_le _⟩ rfl (fun H locs hW => ?_)
  refine lv_istore_n (lv' := [(3, .int r1), (0, .ref (a_o 0)), (1, .int p1), (2, .int p2)]) hx hb dX2_otherOf_6 rfl hl (by decide) rfl (fun ls hl => ?_)
  refine lv_iload_n hx hb dX2_otherOf_7 rfl (lv_at hl 0 rfl) ?_
  refine lv_aload_n hx hb dX2_otherOf_8 rfl (lv_at hl 1 rfl) ?_
  refine fg_X2_43 (v := .ref (a_o 9)) hx hb hts hown hK hW 0 rfl rfl dX2_otherOf_9 ?_
  refine g_alen (v := 48) hx hb hK hW 9 0 rfl rfl rfl dX2_otherOf_12 ?_
  obtain ⟨r3, q4, h⟩ := bnd1_s h
  refine cl_X2_62 hx hb hml hown hts hK hN hW (c_X10_isBelow l D T A (oc_X2 T a_o x_o ++ Z) r1 48 r3 q4) ⟨Nat.le_of_ble_eq_true rfl, Nat.le_of_ble_eq_true rfl⟩ hl.1 rfl (Nat.le_of_ble_eq_true rfl) dX2_otherOf_13 ⟨Nat.zero_le _, Nat.zero_le _⟩ rfl (fun H locs hW => ?_)
  refine lv_if_eq (tgt := 28) hx hb dX2_otherOf_16 (by decide) (fun c5 => ?_) (fun c5 => ?_)
  · have h := ite_t c5 h
    refine lv_iconst (v := (-1)) hx hb dX2_otherOf_28 (by decide) ?_
    obtain rfl := ret1 h
    rw [hQ]
    exact g_reti hx hb hr hlk hW dX2_otherOf_29
  · have h := ite_f c5 h
    refine lv_aload_n hx hb dX2_otherOf_19 rfl (lv_at hl 1 rfl) ?_
    refine fg_X2_43 (v := .ref (a_o 9)) hx hb hts hown hK hW 0 rfl rfl dX2_otherOf_20 ?_
    refine lv_iload_n hx hb dX2_otherOf_23 rfl (lv_at hl 0 rfl) ?_
    obtain ⟨g6, h⟩ := grd_s h
    refine g_iald hx hb hK hW 9 rfl g6 dX2_otherOf_24 ?_
    refine lv_goto (tgt := 29) hx hb dX2_otherOf_25 (by decide) ?_
    obtain rfl := ret1 h
    rw [hQ]
    exact g_reti hx hb hr hlk hW dX2_otherOf_29
set_option maxHeartbeats 4000000 in
set_option maxRecDepth 100000 in
theorem c_X2_settle (l : Launch) (D : va_G) (T : Nat → ClassId) (A : Nat → Prop) (a_o : Nat → Nat) (Z : va_W)  (x_o : Ob) (p1 : Int32) (p2 : Int32) (p3 : Int32) (p4 : Int32) (r : Int32) (x_o9 : Ob) (h : f_X2_settle x_o p1 p2 p3 p4 = some (r, x_o9)) : Met l yX2_settle (Cond.code yX2_settle cX2_settle 8 (some .boolean) :: wsL_law) (rmd 0) (Pg D T A (oc_X2 T a_o x_o ++ Z) [.ref (a_o 0), .int p1, .int p2, .int p3, .int p4]) (Qgi D A (oc_X2 T a_o x_o9 ++ Z) r) 0 0 A := by
  refine Met.ofW (cc := cX2_settle) (maxL := 8) (ret := (some .boolean)) (by decide +kernel) rfl ?_
  intro p e s m args below meth c s₁ B hml hv
  obtain ⟨ha, hP, hK, hD, hN⟩ := hv
  have hx := B.exec
  have hb := B.bytes
  have hr := B.returns
  have hlk := B.notSynchronized
  have hts : ∀ w ∈ wsL_law, w.before args s = true := fun w hw => atoms_spec B.pre w (List.mem_cons_of_mem _ hw)
  have hown : s.vm.findClass RX2 = some m.cls := findClass_of_methodNamed B.named
  have hW : Wd D A s.heap (oc_X2 T a_o x_o ++ Z) s.heap [] := ⟨hP, hD, va_S.rf⟩
  have hl := lv_entry [.ref (a_o 0), .int p1, .int p2, .int p3, .int p4] (n := 8) (Nat.le_of_ble_eq_true rfl)
  refine W.eq (en_eq ha) ?_
  generalize (lg_sl [.ref (a_o 0), .int p1, .int p2, .int p3, .int p4] ++ List.replicate (8 - (lg_sl [.ref (a_o 0), .int p1, .int p2, .int p3, .int p4]).length) Slot.unset).toArray = ls at hl ⊢
  have hl : lv_has ls 8 [(0, .ref (a_o 0)), (1, .int p1), (2, .int p2), (3, .int p3), (4, .int p4)] := hl
  clear hP hD B ha
  obtain ⟨Q, hQ⟩ : ∃ Q, Q = MQ below (Qgi D A (oc_X2 T a_o x_o9 ++ Z) r) args s 0 0 A := ⟨_, rfl⟩
  rw [← hQ]
  change W p l e (rmd 0) s m args below meth c s.heap [] 0 0 Q (F0 m 0 ls [])
  have J78 : ∀ (x_o_78 : Ob) (v3_78 : Int32) (v4_78 : Int32) (v5_78 : Int32) (v6_78 : Int32) (v7_78 : Int32) (H : Heap) (locs : List Loc) (ls : Array Slot), Wd D A s.heap (oc_X2 T a_o x_o_78 ++ Z) H locs → lv_has ls 8 [(0, .ref (a_o 0)), (3, .int v3_78), (4, .int v4_78), (5, .int v5_78), (6, .int v6_78), (7, .int v7_78)] → f_X2_settle_J78 x_o_78 v3_78 v4_78 v5_78 v6_78 v7_78 = some (r, x_o9) → W p l e (rmd 0) s m args below meth c H locs 0 0 Q (F0 m 78 ls []) := by
    intro x_o_78 v3_78 v4_78 v5_78 v6_78 v7_78 H locs ls hW hl h
    rw [f_X2_settle_J78] at h
    refine lv_aload_n hx hb dX2_settle_78 rfl (lv_at hl 0 rfl) ?_
    refine fg_X2_49 (v := .ref (a_o 11)) hx hb hts hown hK hW 0 rfl rfl dX2_settle_79 ?_
    refine lv_iload_n hx hb dX2_settle_82 rfl (lv_at hl 1 rfl) ?_
    refine lv_dup2_11 hx hb dX2_settle_83 rfl rfl ?_
    obtain ⟨g13, h⟩ := grd_s h
    refine g_iald hx hb hK hW 11 rfl g13 dX2_settle_84 ?_
    refine lv_iload hx hb dX2_settle_85 (lv_at hl 5 rfl) ?_
    refine lv_iload hx hb dX2_settle_87 (lv_at hl 3 rfl) ?_
    refine lv_ishl hx hb dX2_settle_89 ?_
    refine lv_ior hx hb dX2_settle_90 ?_
    obtain ⟨g14, h⟩ := grd_s h
    refine g_iast (ws9 := oc_X2 T a_o (upo x_o_78 12 v3_78.toNatClampNeg ((x_o_78 12 v3_78.toNatClampNeg) ||| (v7_78 <<< (v5_78 &&& 31)))) ++ Z) hx hb hK hW 11 rfl g14 sa_X2_12 dX2_settle_91 (fun H locs hW => ?_)
    obtain ⟨x_o15, ex_o15⟩ : ∃ y : Ob, y = upo x_o_78 12 v3_78.toNatClampNeg ((x_o_78 12 v3_78.toNatClampNeg) ||| (v7_78 <<< (v5_78 &&& 31))) := ⟨_, rfl⟩
    rw [← ex_o15] at hW
    have h := lb_at ex_o15 h
    refine lv_aload_n hx hb dX2_settle_92 rfl (lv_at hl 0 rfl) ?_
    refine fg_X2_49 (v := .ref (a_o 11)) hx hb hts hown hK hW 0 rfl rfl dX2_settle_93 ?_
    refine lv_iload hx hb dX2_settle_96 (lv_at hl 2 rfl) ?_
    refine lv_dup2_11 hx hb dX2_settle_98 rfl rfl ?_
    obtain ⟨g16, h⟩ := grd_s h
    refine g_iald hx hb hK hW 11 rfl g16 dX2_settle_99 ?_
    refine lv_iload hx hb dX2_settle_100 (lv_at hl 4 rfl) ?_
    refine lv_iload hx hb dX2_settle_102 (lv_at hl 3 rfl) ?_
    refine lv_ishl hx hb dX2_settle_104 ?_
    refine lv_ior hx hb dX2_settle_105 ?_
    obtain ⟨g17, h⟩ := grd_s h
    refine g_iast (ws9 := oc_X2 T a_o (upo x_o15 12 v4_78.toNatClampNeg ((x_o15 12 v4_78.toNatClampNeg) ||| (v6_78 <<< (v5_78 &&& 31)))) ++ Z) hx hb hK hW 11 rfl g17 sa_X2_12 dX2_settle_106 (fun H locs hW => ?_)
    obtain ⟨x_o18, ex_o18⟩ : ∃ y : Ob, y = upo x_o15 12 v4_78.toNatClampNeg ((x_o15 12 v4_78.toNatClampNeg) ||| (v6_78 <<< (v5_78 &&& 31))) := ⟨_, rfl⟩
    rw [← ex_o18] at hW
    have h := lb_at ex_o18 h
    refine lv_iconst (v := 1) hx hb dX2_settle_107 (by decide) ?_
    obtain ⟨rfl, rfl⟩ := ret2 h
    rw [hQ]
    exact g_retz hx hb hr hlk hW (by decide) dX2_settle_108
  rw [f_X2_settle] at h
  suffices hm : ∀ (H : Heap) (locs : List Loc), Wd D A s.heap (oc_X2 T a_o x_o ++ Z) H locs → W p l e (rmd 0) s m args below meth c H locs 0 0 Q (F0 m 0 ls []) from hm _ _ hW
  intro H locs hW
  refine lv_iload_n hx hb dX2_settle_0 rfl (lv_at hl 3 rfl) ?_
  refine lv_if_lt (tgt := 29) hx hb dX2_settle_1 (by decide) (fun c1 => ?_) (fun c1 => ?_)
  · have h := ite_t c1 h
    refine lv_iconst (v := 0) hx hb dX2_settle_29 (by decide) ?_
    obtain ⟨rfl, rfl⟩ := ret2 h
    rw [hQ]
    exact g_retz hx hb hr hlk hW (by decide) dX2_settle_30
  · have h := ite_f c1 h
    refine lv_iload_n hx hb dX2_settle_4 rfl (lv_at hl 3 rfl) ?_
    refine lv_iconst (v := 3) hx hb dX2_settle_5 (by decide) ?_
    refine lv_icmp_ge (tgt := 29) hx hb dX2_settle_6 (by decide) (fun c2 => ?_) (fun c2 => ?_)
    · have h := ite_t c2 h
      refine lv_iconst (v := 0) hx hb dX2_settle_29 (by decide) ?_
      obtain ⟨rfl, rfl⟩ := ret2 h
      rw [hQ]
      exact g_retz hx hb hr hlk hW (by decide) dX2_settle_30
    · have h := ite_f c2 h
      refine lv_iload hx hb dX2_settle_9 (lv_at hl 4 rfl) ?_
      refine lv_if_lt (tgt := 29) hx hb dX2_settle_11 (by decide) (fun c3 => ?_) (fun c3 => ?_)
      · have h := ite_t c3 h
        refine lv_iconst (v := 0) hx hb dX2_settle_29 (by decide) ?_
        obtain ⟨rfl, rfl⟩ := ret2 h
        rw [hQ]
        exact g_retz hx hb hr hlk hW (by decide) dX2_settle_30
      · have h := ite_f c3 h
        refine lv_iload hx hb dX2_settle_14 (lv_at hl 4 rfl) ?_
        refine lv_iconst (v := 3) hx hb dX2_settle_16 (by decide) ?_
        refine lv_icmp_ge (tgt := 29) hx hb dX2_settle_17 (by decide) (fun c4 => ?_) (fun c4 => ?_)
        · have h := ite_t c4 h
          refine lv_iconst (v := 0) hx hb dX2_settle_29 (by decide) ?_
          obtain ⟨rfl, rfl⟩ := ret2 h
          rw [hQ]
          exact g_retz hx hb hr hlk hW (by decide) dX2_settle_30
        · have h := ite_f c4 h
          refine lv_iload_n hx hb dX2_settle_20 rfl (lv_at hl 2 rfl) ?_
          refine lv_aload_n hx hb dX2_settle_21 rfl (lv_at hl 0 rfl) ?_
          refine fg_X2_46 (v := .ref (a_o 10)) hx hb hts hown hK hW 0 rfl rfl dX2_settle_22 ?_
          refine g_alen (v := 48) hx hb hK hW 10 0 rfl rfl rfl dX2_settle_25 ?_
          refine lv_icmp_lt (tgt := 31) hx hb dX2_settle_26 (by decide) (fun c5 => ?_) (fun c5 => ?_)
          · have h := ite_t c5 h
            refine lv_iconst (v := 2) hx hb dX2_settle_31 (by decide) ?_
            refine lv_aload_n hx hb dX2_settle_32 rfl (lv_at hl 0 rfl) ?_
            refine fg_X2_37 (v := .ref (a_o 7)) hx hb hts hown hK hW 0 rfl rfl dX2_settle_33 ?_
            refine lv_iload_n hx hb dX2_settle_36 rfl (lv_at hl 2 rfl) ?_
            obtain ⟨g6, h⟩ := grd_s h
            refine g_iald hx hb hK hW 7 rfl g6 dX2_settle_37 ?_
            refine lv_imul hx hb dX2_settle_38 ?_
            refine lv_topi (fun w5_7 ew5_7 => ?_)
            have h := lb_at ew5_7 h
            refine lv_istore (lv' := [(5, .int w5_7), (0, .ref (a_o 0)), (1, .int p1), (2, .int p2), (3, .int p3), (4, .int p4)]) hx hb dX2_settle_39 hl (by decide) rfl (fun ls hl => ?_)
            refine lv_aload_n hx hb dX2_settle_41 rfl (lv_at hl 1 rfl) ?_
            refine fg_X2_49 (v := .ref (a_o 11)) hx hb hts hown hK hW 0 rfl rfl dX2_settle_42 ?_
            refine lv_iload_n hx hb dX2_settle_45 rfl (lv_at hl 4 rfl) ?_
            obtain ⟨g8, h⟩ := grd_s h
            refine g_iald hx hb hK hW 11 rfl g8 dX2_settle_46 ?_
            refine lv_iload hx hb dX2_settle_47 (lv_at hl 0 rfl) ?_
            refine lv_ishr hx hb dX2_settle_49 ?_
            refine lv_iconst (v := 3) hx hb dX2_settle_50 (by decide) ?_
            refine lv_iand hx hb dX2_settle_51 ?_
            refine lv_topi (fun w6_9 ew6_9 => ?_)
            have h := lb_at ew6_9 h
            refine lv_istore (lv' := [(6, .int w6_9), (5, .int w5_7), (0, .ref (a_o 0)), (1, .int p1), (2, .int p2), (3, .int p3), (4, .int p4)]) hx hb dX2_settle_52 hl (by decide) rfl (fun ls hl => ?_)
            refine lv_aload_n hx hb dX2_settle_54 rfl (lv_at hl 2 rfl) ?_
            refine fg_X2_49 (v := .ref (a_o 11)) hx hb hts hown hK hW 0 rfl rfl dX2_settle_55 ?_
            refine lv_iload hx hb dX2_settle_58 (lv_at hl 6 rfl) ?_
            obtain ⟨g10, h⟩ := grd_s h
            refine g_iald hx hb hK hW 11 rfl g10 dX2_settle_60 ?_
            refine lv_iload hx hb dX2_settle_61 (lv_at hl 1 rfl) ?_
            refine lv_ishr hx hb dX2_settle_63 ?_
            refine lv_iconst (v := 3) hx hb dX2_settle_64 (by decide) ?_
            refine lv_iand hx hb dX2_settle_65 ?_
            refine lv_topi (fun w7_11 ew7_11 => ?_)
            have h := lb_at ew7_11 h
            refine lv_istore (lv' := [(7, .int w7_11), (6, .int w6_9), (5, .int w5_7), (0, .ref (a_o 0)), (1, .int p1), (2, .int p2), (3, .int p3), (4, .int p4)]) hx hb dX2_settle_66 hl (by decide) rfl (fun ls hl => ?_)
            refine lv_iload hx hb dX2_settle_68 (lv_at hl 1 rfl) ?_
            refine lv_if_eq (tgt := 78) hx hb dX2_settle_70 (by decide) (fun c12 => ?_) (fun c12 => ?_)
            · have h := ite_t c12 h
              exact J78 _ _ _ _ _ _ H locs ls hW (lv_sub hl [3, 6, 7, 2, 1, 0] rfl) h
            · have h := ite_f c12 h
              refine lv_iload hx hb dX2_settle_73 (lv_at hl 0 rfl) ?_
              refine lv_if_ne (tgt := 109) hx hb dX2_settle_75 (by decide) (fun c19 => ?_) (fun c19 => ?_)
              · have h := ite_f c19 h
                refine lv_iload hx hb dX2_settle_109 (lv_at hl 1 rfl) ?_
                refine lv_iload hx hb dX2_settle_111 (lv_at hl 0 rfl) ?_
                refine lv_icmp_ne (tgt := 118) hx hb dX2_settle_113 (by decide) (fun c20 => ?_) (fun c20 => ?_)
                · have h := ite_f c20 h
                  refine lv_aload_n hx hb dX2_settle_118 rfl (lv_at hl 3 rfl) ?_
                  refine lv_dup hx hb dX2_settle_119 rfl ?_
                  refine fg_X2_52 (v := .int (x_o 13 0)) hx hb hts hown hK hW 0 rfl rfl dX2_settle_120 ?_
                  refine lv_aload_n hx hb dX2_settle_123 rfl (lv_at hl 3 rfl) ?_
                  refine fg_X2_46 (v := .ref (a_o 10)) hx hb hts hown hK hW 0 rfl rfl dX2_settle_124 ?_
                  refine lv_iload_n hx hb dX2_settle_127 rfl (lv_at hl 5 rfl) ?_
                  obtain ⟨g21, h⟩ := grd_s h
                  refine g_iald hx hb hK hW 10 rfl g21 dX2_settle_128 ?_
                  refine lv_iadd hx hb dX2_settle_129 ?_
                  refine fp_X2_52 (ws9 := oc_X2 T a_o (upo x_o 13 0 ((x_o 13 0) + (x_o 11 p2.toNatClampNeg))) ++ Z) hx hb hts hown hK hW 0 rfl (Nat.le_of_ble_eq_true rfl) sf_X2_13 dX2_settle_130 (fun H locs hW => ?_)
                  obtain ⟨x_o22, ex_o22⟩ : ∃ y : Ob, y = upo x_o 13 0 ((x_o 13 0) + (x_o 11 p2.toNatClampNeg)) := ⟨_, rfl⟩
                  rw [← ex_o22] at hW
                  have h := lb_at ex_o22 h
                  refine lv_aload_n hx hb dX2_settle_133 rfl (lv_at hl 3 rfl) ?_
                  refine lv_dup hx hb dX2_settle_134 rfl ?_
                  refine fg_X2_55 (v := .int (x_o22 14 0)) hx hb hts hown hK hW 0 rfl rfl dX2_settle_135 ?_
                  refine lv_bipush (v := 16) hx hb dX2_settle_138 (by decide) ?_
                  refine lv_iload hx hb dX2_settle_140 (lv_at hl 1 rfl) ?_
                  refine lv_iconst (v := 2) hx hb dX2_settle_142 (by decide) ?_
                  refine lv_ishl hx hb dX2_settle_143 ?_
                  refine lv_ior hx hb dX2_settle_144 ?_
                  refine lv_iload hx hb dX2_settle_145 (lv_at hl 0 rfl) ?_
                  refine lv_ior hx hb dX2_settle_147 ?_
                  refine lv_iconst (v := 5) hx hb dX2_settle_148 (by decide) ?_
                  refine lv_iload_n hx hb dX2_settle_149 rfl (lv_at hl 4 rfl) ?_
                  refine lv_imul hx hb dX2_settle_150 ?_
                  refine lv_ishl hx hb dX2_settle_151 ?_
                  refine lv_ior hx hb dX2_settle_152 ?_
                  refine fp_X2_55 (ws9 := oc_X2 T a_o (upo x_o22 14 0 ((x_o22 14 0) ||| ((((16 : Int32) ||| (w6_9 <<< ((2 : Int32) &&& 31))) ||| w7_11) <<< ((5 * p1) &&& 31)))) ++ Z) hx hb hts hown hK hW 0 rfl (Nat.le_of_ble_eq_true rfl) sf_X2_14 dX2_settle_153 (fun H locs hW => ?_)
                  obtain ⟨x_o23, ex_o23⟩ : ∃ y : Ob, y = upo x_o22 14 0 ((x_o22 14 0) ||| ((((16 : Int32) ||| (w6_9 <<< ((2 : Int32) &&& 31))) ||| w7_11) <<< ((5 * p1) &&& 31))) := ⟨_, rfl⟩
                  rw [← ex_o23] at hW
                  have h := lb_at ex_o23 h
                  refine lv_aload_n hx hb dX2_settle_156 rfl (lv_at hl 3 rfl) ?_
                  refine fg_X2_46 (v := .ref (a_o 10)) hx hb hts hown hK hW 0 rfl rfl dX2_settle_157 ?_
                  refine lv_iload_n hx hb dX2_settle_160 rfl (lv_at hl 5 rfl) ?_
                  obtain ⟨g24, h⟩ := grd_s h
                  refine g_iald hx hb hK hW 10 rfl g24 dX2_settle_161 ?_
                  refine lv_if_le (tgt := 169) hx hb dX2_settle_162 (by decide) (fun c25 => ?_) (fun c25 => ?_)
                  · have h := ite_t c25 h
                    refine lv_iconst (v := 0) hx hb dX2_settle_169 (by decide) ?_
                    obtain ⟨rfl, rfl⟩ := ret2 h
                    rw [hQ]
                    exact g_retz hx hb hr hlk hW (by decide) dX2_settle_170
                  · have h := ite_f c25 h
                    refine lv_iconst (v := 1) hx hb dX2_settle_165 (by decide) ?_
                    refine lv_goto (tgt := 170) hx hb dX2_settle_166 (by decide) ?_
                    obtain ⟨rfl, rfl⟩ := ret2 h
                    rw [hQ]
                    exact g_retz hx hb hr hlk hW (by decide) dX2_settle_170
                · have h := ite_t c20 h
                  refine lv_iconst (v := 1) hx hb dX2_settle_116 (by decide) ?_
                  obtain ⟨rfl, rfl⟩ := ret2 h
                  rw [hQ]
                  exact g_retz hx hb hr hlk hW (by decide) dX2_settle_117
              · have h := ite_t c19 h
                exact J78 _ _ _ _ _ _ H locs ls hW (lv_sub hl [3, 6, 7, 2, 1, 0] rfl) h
          · have h := ite_f c5 h
            refine lv_iconst (v := 0) hx hb dX2_settle_29 (by decide) ?_
            obtain ⟨rfl, rfl⟩ := ret2 h
            rw [hQ]
            exact g_retz hx hb hr hlk hW (by decide) dX2_settle_30
set_option maxHeartbeats 4000000 in
set_option maxRecDepth 100000 in
theorem c_X2_unify (l : Launch) (D : va_G) (T : Nat → ClassId) (A : Nat → Prop) (a_o : Nat → Nat) (Z : va_W)  (x_o : Ob) (p1 : Int32) (p2 : Int32) (p3 : Int32) (r : Int32) (x_o9 : Ob) (h : f_X2_unify x_o p1 p2 p3 = some (r, x_o9)) : Met l yX2_unify (Cond.code yX2_unify cX2_unify 6 (some .boolean) :: wsL_law) (rmd 1) (Pg D T A (oc_X2 T a_o x_o ++ Z) [.ref (a_o 0), .int p1, .int p2, .int p3]) (Qgi D A (oc_X2 T a_o x_o9 ++ Z) r) 0 0 A := by
  refine Met.ofW (cc := cX2_unify) (maxL := 6) (ret := (some .boolean)) (by decide +kernel) rfl ?_
  intro p e s m args below meth c s₁ B hml hv
  obtain ⟨ha, hP, hK, hD, hN⟩ := hv
  have hx := B.exec
  have hb := B.bytes
  have hr := B.returns
  have hlk := B.notSynchronized
  have hts : ∀ w ∈ wsL_law, w.before args s = true := fun w hw => atoms_spec B.pre w (List.mem_cons_of_mem _ hw)
  have hown : s.vm.findClass RX2 = some m.cls := findClass_of_methodNamed B.named
  have hW : Wd D A s.heap (oc_X2 T a_o x_o ++ Z) s.heap [] := ⟨hP, hD, va_S.rf⟩
  have hl := lv_entry [.ref (a_o 0), .int p1, .int p2, .int p3] (n := 6) (Nat.le_of_ble_eq_true rfl)
  refine W.eq (en_eq ha) ?_
  generalize (lg_sl [.ref (a_o 0), .int p1, .int p2, .int p3] ++ List.replicate (6 - (lg_sl [.ref (a_o 0), .int p1, .int p2, .int p3]).length) Slot.unset).toArray = ls at hl ⊢
  have hl : lv_has ls 6 [(0, .ref (a_o 0)), (1, .int p1), (2, .int p2), (3, .int p3)] := hl
  clear hP hD B ha
  obtain ⟨Q, hQ⟩ : ∃ Q, Q = MQ below (Qgi D A (oc_X2 T a_o x_o9 ++ Z) r) args s 0 0 A := ⟨_, rfl⟩
  rw [← hQ]
  change W p l e (rmd 1) s m args below meth c s.heap [] 0 0 Q (F0 m 0 ls [])
  have L48 : ∀ (n : Nat) (x_o_48 : Ob) (v1_48 : Int32) (v4_48 : Int32) (H : Heap) (locs : List Loc) (ls : Array Slot) (code : Nat) (o4_48r : Int32) (y_o_48r : Ob), Wd D A s.heap (oc_X2 T a_o x_o_48 ++ Z) H locs → lv_has ls 6 [(0, .ref (a_o 0)), (1, .int v1_48), (4, .int v4_48)] → f_X2_unify_L48 n x_o_48 v1_48 v4_48 = some (code, o4_48r, y_o_48r) → (code = 1 → ∀ (H : Heap) (locs : List Loc) (ls : Array Slot), Wd D A s.heap (oc_X2 T a_o y_o_48r ++ Z) H locs → lv_has ls 6 [] → W p l e (rmd 1) s m args below meth c H locs 0 0 Q (F0 m 106 ls [])) → (code = 2 → ∀ (H : Heap) (locs : List Loc) (ls : Array Slot), Wd D A s.heap (oc_X2 T a_o y_o_48r ++ Z) H locs → lv_has ls 6 [] → W p l e (rmd 1) s m args below meth c H locs 0 0 Q (F0 m 98 ls [])) → W p l e (rmd 1) s m args below meth c H locs 0 0 Q (F0 m 48 ls []) := by
    intro n
    induction n with
    | zero =>
      intro x_o_48 v1_48 v4_48 H locs ls code o4_48r y_o_48r hW hl h k1 k2
      rw [f_X2_unify_L48] at h
      cases h
    | succ n ih =>
      intro x_o_48 v1_48 v4_48 H locs ls code o4_48r y_o_48r hW hl h k1 k2
      rw [f_X2_unify_L48] at h
      refine lv_iload hx hb dX2_unify_48 (lv_at hl 2 rfl) ?_
      refine lv_aload_n hx hb dX2_unify_50 rfl (lv_at hl 0 rfl) ?_
      refine fg_X2_34 (v := .ref (a_o 6)) hx hb hts hown hK hW 0 rfl rfl dX2_unify_51 ?_
      refine lv_iload_n hx hb dX2_unify_54 rfl (lv_at hl 1 rfl) ?_
      obtain ⟨g8, h⟩ := grd_s h
      refine g_iald hx hb hK hW 6 rfl g8 dX2_unify_55 ?_
      refine lv_icmp_ge (tgt := 106) hx hb dX2_unify_56 (by decide) (fun c9 => ?_) (fun c9 => ?_)
      · have h := ite_t c9 h
        obtain ⟨rfl, rfl, rfl⟩ := ret3 h
        exact k1 rfl H locs ls hW (lv_sub hl [] rfl)
      · have h := ite_f c9 h
        refine lv_iload hx hb dX2_unify_59 (lv_at hl 2 rfl) ?_
        refine lv_iconst (v := 3) hx hb dX2_unify_61 (by decide) ?_
        refine lv_icmp_ge (tgt := 106) hx hb dX2_unify_62 (by decide) (fun c10 => ?_) (fun c10 => ?_)
        · have h := ite_t c10 h
          obtain ⟨rfl, rfl, rfl⟩ := ret3 h
          exact k1 rfl H locs ls hW (lv_sub hl [] rfl)
        · have h := ite_f c10 h
          refine lv_iload_n hx hb dX2_unify_65 rfl (lv_at hl 1 rfl) ?_
          refine lv_iconst (v := 3) hx hb dX2_unify_66 (by decide) ?_
          refine lv_imul hx hb dX2_unify_67 ?_
          refine lv_iload hx hb dX2_unify_68 (lv_at hl 2 rfl) ?_
          refine lv_iadd hx hb dX2_unify_70 ?_
          refine lv_topi (fun w5_11 ew5_11 => ?_)
          have h := lb_at ew5_11 h
          refine lv_istore (lv' := [(5, .int w5_11), (0, .ref (a_o 0)), (1, .int v1_48), (4, .int v4_48)]) hx hb dX2_unify_71 hl (by decide) rfl (fun ls hl => ?_)
          refine lv_aload_n hx hb dX2_unify_73 rfl (lv_at hl 1 rfl) ?_
          refine lv_iload hx hb dX2_unify_74 (lv_at hl 3 rfl) ?_
          refine lv_iload hx hb dX2_unify_76 (lv_at hl 0 rfl) ?_
          refine lv_aload_n hx hb dX2_unify_78 rfl (lv_at hl 1 rfl) ?_
          refine fg_X2_40 (v := .ref (a_o 8)) hx hb hts hown hK hW 0 rfl rfl dX2_unify_79 ?_
          refine lv_iload hx hb dX2_unify_82 (lv_at hl 0 rfl) ?_
          obtain ⟨g12, h⟩ := grd_s h
          refine g_iald hx hb hK hW 8 rfl g12 dX2_unify_84 ?_
          refine lv_aload_n hx hb dX2_unify_85 rfl (lv_at hl 1 rfl) ?_
          refine fg_X2_43 (v := .ref (a_o 9)) hx hb hts hown hK hW 0 rfl rfl dX2_unify_86 ?_
          refine lv_iload hx hb dX2_unify_89 (lv_at hl 0 rfl) ?_
          obtain ⟨g13, h⟩ := grd_s h
          refine g_iald hx hb hK hW 9 rfl g13 dX2_unify_91 ?_
          obtain ⟨r14, x_o15, q16, h⟩ := bnd2_s h
          refine cl_X2_86 hx hb hml hown hts hK hN hW (c_X2_settle l D T A a_o (Z) x_o_48 v4_48 w5_11 (x_o_48 9 w5_11.toNatClampNeg) (x_o_48 10 w5_11.toNatClampNeg) r14 x_o15 q16) ⟨Nat.le_of_ble_eq_true rfl, Nat.le_of_ble_eq_true rfl⟩ hl.1 rfl (Nat.le_of_ble_eq_true rfl) dX2_unify_92 ⟨Nat.zero_le _, Nat.zero_le _⟩ rfl (fun H locs hW => ?_)
          refine lv_if_ne (tgt := 100) hx hb dX2_unify_95 (by decide) (fun c17 => ?_) (fun c17 => ?_)
          · have h := ite_f c17 h
            obtain ⟨w4_18, ew4_18⟩ : ∃ y : Int32, y = v4_48 + 1 := ⟨_, rfl⟩
            have h := lb_at ew4_18 h
            refine lv_iinc (v := w4_18) (lv' := [(4, .int w4_18), (5, .int w5_11), (0, .ref (a_o 0)), (1, .int v1_48)]) hx hb dX2_unify_100 hl (k := 3) rfl (by rw [ew4_18]; rfl) (by decide) rfl (fun ls hl => ?_)
            refine lv_goto (tgt := 48) hx hb dX2_unify_103 (by decide) ?_
            exact ih _ _ _ H locs ls _ _ _ hW (lv_sub hl [2, 3, 0] rfl) h k1 k2
          · have h := ite_t c17 h
            obtain ⟨rfl, rfl, rfl⟩ := ret3 h
            exact k2 rfl H locs ls hW (lv_sub hl [] rfl)
  rw [f_X2_unify] at h
  suffices hm : ∀ (H : Heap) (locs : List Loc), Wd D A s.heap (oc_X2 T a_o x_o ++ Z) H locs → W p l e (rmd 1) s m args below meth c H locs 0 0 Q (F0 m 0 ls []) from hm _ _ hW
  intro H locs hW
  refine lv_aload_n hx hb dX2_unify_0 rfl (lv_at hl 0 rfl) ?_
  refine fg_X2_49 (v := .ref (a_o 11)) hx hb hts hown hK hW 0 rfl rfl dX2_unify_1 ?_
  refine lv_iconst (v := 0) hx hb dX2_unify_4 (by decide) ?_
  refine lv_iconst (v := 0) hx hb dX2_unify_5 (by decide) ?_
  refine g_iast (ws9 := oc_X2 T a_o (upo x_o 12 (0 : Int32).toNatClampNeg 0) ++ Z) hx hb hK hW 11 rfl (by decide) sa_X2_12 dX2_unify_6 (fun H locs hW => ?_)
  obtain ⟨x_o1, ex_o1⟩ : ∃ y : Ob, y = upo x_o 12 (0 : Int32).toNatClampNeg 0 := ⟨_, rfl⟩
  rw [← ex_o1] at hW
  have h := lb_at ex_o1 h
  refine lv_aload_n hx hb dX2_unify_7 rfl (lv_at hl 0 rfl) ?_
  refine fg_X2_49 (v := .ref (a_o 11)) hx hb hts hown hK hW 0 rfl rfl dX2_unify_8 ?_
  refine lv_iconst (v := 1) hx hb dX2_unify_11 (by decide) ?_
  refine lv_iload_n hx hb dX2_unify_12 rfl (lv_at hl 2 rfl) ?_
  refine g_iast (ws9 := oc_X2 T a_o (upo x_o1 12 (1 : Int32).toNatClampNeg p2) ++ Z) hx hb hK hW 11 rfl (by decide) sa_X2_12 dX2_unify_13 (fun H locs hW => ?_)
  obtain ⟨x_o2, ex_o2⟩ : ∃ y : Ob, y = upo x_o1 12 (1 : Int32).toNatClampNeg p2 := ⟨_, rfl⟩
  rw [← ex_o2] at hW
  have h := lb_at ex_o2 h
  refine lv_aload_n hx hb dX2_unify_14 rfl (lv_at hl 0 rfl) ?_
  refine fg_X2_49 (v := .ref (a_o 11)) hx hb hts hown hK hW 0 rfl rfl dX2_unify_15 ?_
  refine lv_iconst (v := 2) hx hb dX2_unify_18 (by decide) ?_
  refine lv_iload_n hx hb dX2_unify_19 rfl (lv_at hl 3 rfl) ?_
  refine g_iast (ws9 := oc_X2 T a_o (upo x_o2 12 (2 : Int32).toNatClampNeg p3) ++ Z) hx hb hK hW 11 rfl (by decide) sa_X2_12 dX2_unify_20 (fun H locs hW => ?_)
  obtain ⟨x_o3, ex_o3⟩ : ∃ y : Ob, y = upo x_o2 12 (2 : Int32).toNatClampNeg p3 := ⟨_, rfl⟩
  rw [← ex_o3] at hW
  have h := lb_at ex_o3 h
  refine lv_aload_n hx hb dX2_unify_21 rfl (lv_at hl 0 rfl) ?_
  refine lv_iconst (v := 0) hx hb dX2_unify_22 (by decide) ?_
  refine fp_X2_52 (ws9 := oc_X2 T a_o (upo x_o3 13 0 0) ++ Z) hx hb hts hown hK hW 0 rfl (Nat.le_of_ble_eq_true rfl) sf_X2_13 dX2_unify_23 (fun H locs hW => ?_)
  obtain ⟨x_o4, ex_o4⟩ : ∃ y : Ob, y = upo x_o3 13 0 0 := ⟨_, rfl⟩
  rw [← ex_o4] at hW
  have h := lb_at ex_o4 h
  refine lv_aload_n hx hb dX2_unify_26 rfl (lv_at hl 0 rfl) ?_
  refine lv_iconst (v := 0) hx hb dX2_unify_27 (by decide) ?_
  refine fp_X2_55 (ws9 := oc_X2 T a_o (upo x_o4 14 0 0) ++ Z) hx hb hts hown hK hW 0 rfl (Nat.le_of_ble_eq_true rfl) sf_X2_14 dX2_unify_28 (fun H locs hW => ?_)
  obtain ⟨x_o5, ex_o5⟩ : ∃ y : Ob, y = upo x_o4 14 0 0 := ⟨_, rfl⟩
  rw [← ex_o5] at hW
  have h := lb_at ex_o5 h
  refine lv_iload_n hx hb dX2_unify_31 rfl (lv_at hl 1 rfl) ?_
  refine lv_if_lt (tgt := 43) hx hb dX2_unify_32 (by decide) (fun c6 => ?_) (fun c6 => ?_)
  · have h := ite_t c6 h
    refine lv_iconst (v := 0) hx hb dX2_unify_43 (by decide) ?_
    obtain ⟨rfl, rfl⟩ := ret2 h
    rw [hQ]
    exact g_retz hx hb hr hlk hW (by decide) dX2_unify_44
  · have h := ite_f c6 h
    refine lv_iload_n hx hb dX2_unify_35 rfl (lv_at hl 1 rfl) ?_
    refine lv_aload_n hx hb dX2_unify_36 rfl (lv_at hl 0 rfl) ?_
    refine fg_X2_9 (v := .int (x_o5 0 0)) hx hb hts hown hK hW 0 rfl rfl dX2_unify_37 ?_
    refine lv_icmp_lt (tgt := 45) hx hb dX2_unify_40 (by decide) (fun c7 => ?_) (fun c7 => ?_)
    · have h := ite_t c7 h
      refine lv_iconst (v := 0) hx hb dX2_unify_45 (by decide) ?_
      refine lv_istore (lv' := [(4, .int 0), (0, .ref (a_o 0)), (1, .int p1), (2, .int p2), (3, .int p3)]) hx hb dX2_unify_46 hl (by decide) rfl (fun ls hl => ?_)
      obtain ⟨code20, o4_u19, y_o_u19, q21, h⟩ := bnd3_s h
      refine L48 200 _ _ _ H locs ls code20 o4_u19 y_o_u19 hW (lv_sub hl [1, 2, 0] rfl) q21 (fun hc H locs ls hW hl => ?_) (fun hc H locs ls hW hl => ?_)
      · have h := ite_t hc h
        refine lv_iconst (v := 1) hx hb dX2_unify_106 (by decide) ?_
        obtain ⟨rfl, rfl⟩ := ret2 h
        rw [hQ]
        exact g_retz hx hb hr hlk hW (by decide) dX2_unify_107
      · have h := ite_f (by rw [hc]; decide) h
        refine lv_iconst (v := 0) hx hb dX2_unify_98 (by decide) ?_
        obtain ⟨rfl, rfl⟩ := ret2 h
        rw [hQ]
        exact g_retz hx hb hr hlk hW (by decide) dX2_unify_99
    · have h := ite_f c7 h
      refine lv_iconst (v := 0) hx hb dX2_unify_43 (by decide) ?_
      obtain ⟨rfl, rfl⟩ := ret2 h
      rw [hQ]
      exact g_retz hx hb hr hlk hW (by decide) dX2_unify_44
set_option maxHeartbeats 4000000 in
set_option maxRecDepth 100000 in
theorem c_X2_parentFeatures (l : Launch) (D : va_G) (T : Nat → ClassId) (A : Nat → Prop) (a_o : Nat → Nat) (Z : va_W)  (x_o : Ob) (r : Int32) (h : f_X2_parentFeatures x_o = some r) : Met l yX2_parentFeatures (Cond.code yX2_parentFeatures cX2_parentFeatures 1 (some .int) :: wsL_law) (rmd 0) (Pg D T A (oc_X2 T a_o x_o ++ Z) [.ref (a_o 0)]) (Qgi D A (oc_X2 T a_o x_o ++ Z) r) 0 0 A := by
  refine Met.ofW (cc := cX2_parentFeatures) (maxL := 1) (ret := (some .int)) (by decide +kernel) rfl ?_
  intro p e s m args below meth c s₁ B hml hv
  obtain ⟨ha, hP, hK, hD, hN⟩ := hv
  have hx := B.exec
  have hb := B.bytes
  have hr := B.returns
  have hlk := B.notSynchronized
  have hts : ∀ w ∈ wsL_law, w.before args s = true := fun w hw => atoms_spec B.pre w (List.mem_cons_of_mem _ hw)
  have hown : s.vm.findClass RX2 = some m.cls := findClass_of_methodNamed B.named
  have hW : Wd D A s.heap (oc_X2 T a_o x_o ++ Z) s.heap [] := ⟨hP, hD, va_S.rf⟩
  have hl := lv_entry [.ref (a_o 0)] (n := 1) (Nat.le_of_ble_eq_true rfl)
  refine W.eq (en_eq ha) ?_
  generalize (lg_sl [.ref (a_o 0)] ++ List.replicate (1 - (lg_sl [.ref (a_o 0)]).length) Slot.unset).toArray = ls at hl ⊢
  have hl : lv_has ls 1 [(0, .ref (a_o 0))] := hl
  clear hP hD B ha
  obtain ⟨Q, hQ⟩ : ∃ Q, Q = MQ below (Qgi D A (oc_X2 T a_o x_o ++ Z) r) args s 0 0 A := ⟨_, rfl⟩
  rw [← hQ]
  change W p l e (rmd 0) s m args below meth c s.heap [] 0 0 Q (F0 m 0 ls [])
  rw [f_X2_parentFeatures] at h
  suffices hm : ∀ (H : Heap) (locs : List Loc), Wd D A s.heap (oc_X2 T a_o x_o ++ Z) H locs → W p l e (rmd 0) s m args below meth c H locs 0 0 Q (F0 m 0 ls []) from hm _ _ hW
  intro H locs hW
  refine lv_aload_n hx hb dX2_parentFeatures_0 rfl (lv_at hl 0 rfl) ?_
  refine fg_X2_49 (v := .ref (a_o 11)) hx hb hts hown hK hW 0 rfl rfl dX2_parentFeatures_1 ?_
  refine lv_iconst (v := 0) hx hb dX2_parentFeatures_4 (by decide) ?_
  refine g_iald hx hb hK hW 11 rfl (by decide) dX2_parentFeatures_5 ?_
  obtain rfl := ret1 h
  rw [hQ]
  exact g_reti hx hb hr hlk hW dX2_parentFeatures_6
set_option maxHeartbeats 4000000 in
set_option maxRecDepth 100000 in
theorem c_X3_hasWord (l : Launch) (D : va_G) (T : Nat → ClassId) (A : Nat → Prop) (a_o : Nat → Nat) (Z : va_W)  (x_o : Ob) (p1 : Int32) (r : Int32) (h : f_X3_hasWord x_o p1 = some r) : Met l yX3_hasWord (Cond.code yX3_hasWord cX3_hasWord 2 (some .boolean) :: wsL_law) (rmd 1) (Pg D T A (oc_X3 T a_o x_o ++ Z) [.ref (a_o 0), .int p1]) (Qgi D A (oc_X3 T a_o x_o ++ Z) r) 0 0 A := by
  refine Met.ofW (cc := cX3_hasWord) (maxL := 2) (ret := (some .boolean)) (by decide +kernel) rfl ?_
  intro p e s m args below meth c s₁ B hml hv
  obtain ⟨ha, hP, hK, hD, hN⟩ := hv
  have hx := B.exec
  have hb := B.bytes
  have hr := B.returns
  have hlk := B.notSynchronized
  have hts : ∀ w ∈ wsL_law, w.before args s = true := fun w hw => atoms_spec B.pre w (List.mem_cons_of_mem _ hw)
  have hown : s.vm.findClass RX3 = some m.cls := findClass_of_methodNamed B.named
  have hW : Wd D A s.heap (oc_X3 T a_o x_o ++ Z) s.heap [] := ⟨hP, hD, va_S.rf⟩
  have hl := lv_entry [.ref (a_o 0), .int p1] (n := 2) (Nat.le_of_ble_eq_true rfl)
  refine W.eq (en_eq ha) ?_
  generalize (lg_sl [.ref (a_o 0), .int p1] ++ List.replicate (2 - (lg_sl [.ref (a_o 0), .int p1]).length) Slot.unset).toArray = ls at hl ⊢
  have hl : lv_has ls 2 [(0, .ref (a_o 0)), (1, .int p1)] := hl
  clear hP hD B ha
  obtain ⟨Q, hQ⟩ : ∃ Q, Q = MQ below (Qgi D A (oc_X3 T a_o x_o ++ Z) r) args s 0 0 A := ⟨_, rfl⟩
  rw [← hQ]
  change W p l e (rmd 1) s m args below meth c s.heap [] 0 0 Q (F0 m 0 ls [])
  rw [f_X3_hasWord] at h
  suffices hm : ∀ (H : Heap) (locs : List Loc), Wd D A s.heap (oc_X3 T a_o x_o ++ Z) H locs → W p l e (rmd 1) s m args below meth c H locs 0 0 Q (F0 m 0 ls []) from hm _ _ hW
  intro H locs hW
  refine lv_iload_n hx hb dX3_hasWord_0 rfl (lv_at hl 1 rfl) ?_
  refine lv_aload_n hx hb dX3_hasWord_1 rfl (lv_at hl 0 rfl) ?_
  refine fg_X3_9 (v := .int (x_o 0 0)) hx hb hts hown hK hW 0 rfl rfl dX3_hasWord_2 ?_
  obtain ⟨r1, q2, h⟩ := bnd1_s h
  refine cl_X3_31 hx hb hml hown hts hK hN hW (c_X10_isBelow l D T A (oc_X3 T a_o x_o ++ Z) p1 (x_o 0 0) r1 q2) ⟨Nat.le_of_ble_eq_true rfl, Nat.le_of_ble_eq_true rfl⟩ hl.1 rfl (Nat.le_of_ble_eq_true rfl) dX3_hasWord_5 ⟨Nat.zero_le _, Nat.zero_le _⟩ rfl (fun H locs hW => ?_)
  obtain ⟨g3, h⟩ := grd_s h
  obtain rfl := ret1 h
  rw [hQ]
  exact g_retz hx hb hr hlk hW g3 dX3_hasWord_8
set_option maxHeartbeats 4000000 in
set_option maxRecDepth 100000 in
theorem c_X3_isFull (l : Launch) (D : va_G) (T : Nat → ClassId) (A : Nat → Prop) (a_o : Nat → Nat) (Z : va_W)  (x_o : Ob) (r : Int32) (h : f_X3_isFull x_o = some r) : Met l yX3_isFull (Cond.code yX3_isFull cX3_isFull 1 (some .boolean) :: wsL_law) (rmd 0) (Pg D T A (oc_X3 T a_o x_o ++ Z) [.ref (a_o 0)]) (Qgi D A (oc_X3 T a_o x_o ++ Z) r) 0 0 A := by
  refine Met.ofW (cc := cX3_isFull) (maxL := 1) (ret := (some .boolean)) (by decide +kernel) rfl ?_
  intro p e s m args below meth c s₁ B hml hv
  obtain ⟨ha, hP, hK, hD, hN⟩ := hv
  have hx := B.exec
  have hb := B.bytes
  have hr := B.returns
  have hlk := B.notSynchronized
  have hts : ∀ w ∈ wsL_law, w.before args s = true := fun w hw => atoms_spec B.pre w (List.mem_cons_of_mem _ hw)
  have hown : s.vm.findClass RX3 = some m.cls := findClass_of_methodNamed B.named
  have hW : Wd D A s.heap (oc_X3 T a_o x_o ++ Z) s.heap [] := ⟨hP, hD, va_S.rf⟩
  have hl := lv_entry [.ref (a_o 0)] (n := 1) (Nat.le_of_ble_eq_true rfl)
  refine W.eq (en_eq ha) ?_
  generalize (lg_sl [.ref (a_o 0)] ++ List.replicate (1 - (lg_sl [.ref (a_o 0)]).length) Slot.unset).toArray = ls at hl ⊢
  have hl : lv_has ls 1 [(0, .ref (a_o 0))] := hl
  clear hP hD B ha
  obtain ⟨Q, hQ⟩ : ∃ Q, Q = MQ below (Qgi D A (oc_X3 T a_o x_o ++ Z) r) args s 0 0 A := ⟨_, rfl⟩
  rw [← hQ]
  change W p l e (rmd 0) s m args below meth c s.heap [] 0 0 Q (F0 m 0 ls [])
  rw [f_X3_isFull] at h
  suffices hm : ∀ (H : Heap) (locs : List Loc), Wd D A s.heap (oc_X3 T a_o x_o ++ Z) H locs → W p l e (rmd 0) s m args below meth c H locs 0 0 Q (F0 m 0 ls []) from hm _ _ hW
  intro H locs hW
  refine lv_aload_n hx hb dX3_isFull_0 rfl (lv_at hl 0 rfl) ?_
  refine fg_X3_9 (v := .int (x_o 0 0)) hx hb hts hown hK hW 0 rfl rfl dX3_isFull_1 ?_
  refine lv_bipush (v := 40) hx hb dX3_isFull_4 (by decide) ?_
  refine lv_icmp_lt (tgt := 13) hx hb dX3_isFull_6 (by decide) (fun c1 => ?_) (fun c1 => ?_)
  · have h := ite_t c1 h
    refine lv_iconst (v := 0) hx hb dX3_isFull_13 (by decide) ?_
    obtain rfl := ret1 h
    rw [hQ]
    exact g_retz hx hb hr hlk hW (by decide) dX3_isFull_14
  · have h := ite_f c1 h
    refine lv_iconst (v := 1) hx hb dX3_isFull_9 (by decide) ?_
    refine lv_goto (tgt := 14) hx hb dX3_isFull_10 (by decide) ?_
    obtain rfl := ret1 h
    rw [hQ]
    exact g_retz hx hb hr hlk hW (by decide) dX3_isFull_14
set_option maxHeartbeats 4000000 in
set_option maxRecDepth 100000 in
theorem c_X3_addWord (l : Launch) (D : va_G) (T : Nat → ClassId) (A : Nat → Prop) (a_o : Nat → Nat) (Z : va_W)  (x_o : Ob) (p1 : Int32) (r : Int32) (x_o9 : Ob) (h : f_X3_addWord x_o p1 = some (r, x_o9)) : Met l yX3_addWord (Cond.code yX3_addWord cX3_addWord 2 (some .int) :: wsL_law) (rmd 1) (Pg D T A (oc_X3 T a_o x_o ++ Z) [.ref (a_o 0), .int p1]) (Qgi D A (oc_X3 T a_o x_o9 ++ Z) r) 0 0 A := by
  refine Met.ofW (cc := cX3_addWord) (maxL := 2) (ret := (some .int)) (by decide +kernel) rfl ?_
  intro p e s m args below meth c s₁ B hml hv
  obtain ⟨ha, hP, hK, hD, hN⟩ := hv
  have hx := B.exec
  have hb := B.bytes
  have hr := B.returns
  have hlk := B.notSynchronized
  have hts : ∀ w ∈ wsL_law, w.before args s = true := fun w hw => atoms_spec B.pre w (List.mem_cons_of_mem _ hw)
  have hown : s.vm.findClass RX3 = some m.cls := findClass_of_methodNamed B.named
  have hW : Wd D A s.heap (oc_X3 T a_o x_o ++ Z) s.heap [] := ⟨hP, hD, va_S.rf⟩
  have hl := lv_entry [.ref (a_o 0), .int p1] (n := 2) (Nat.le_of_ble_eq_true rfl)
  refine W.eq (en_eq ha) ?_
  generalize (lg_sl [.ref (a_o 0), .int p1] ++ List.replicate (2 - (lg_sl [.ref (a_o 0), .int p1]).length) Slot.unset).toArray = ls at hl ⊢
  have hl : lv_has ls 2 [(0, .ref (a_o 0)), (1, .int p1)] := hl
  clear hP hD B ha
  obtain ⟨Q, hQ⟩ : ∃ Q, Q = MQ below (Qgi D A (oc_X3 T a_o x_o9 ++ Z) r) args s 0 0 A := ⟨_, rfl⟩
  rw [← hQ]
  change W p l e (rmd 1) s m args below meth c s.heap [] 0 0 Q (F0 m 0 ls [])
  rw [f_X3_addWord] at h
  suffices hm : ∀ (H : Heap) (locs : List Loc), Wd D A s.heap (oc_X3 T a_o x_o ++ Z) H locs → W p l e (rmd 1) s m args below meth c H locs 0 0 Q (F0 m 0 ls []) from hm _ _ hW
  intro H locs hW
  refine lv_aload_n hx hb dX3_addWord_0 rfl (lv_at hl 0 rfl) ?_
  refine fg_X3_9 (v := .int (x_o 0 0)) hx hb hts hown hK hW 0 rfl rfl dX3_addWord_1 ?_
  refine lv_bipush (v := 40) hx hb dX3_addWord_4 (by decide) ?_
  obtain ⟨r1, q2, h⟩ := bnd1_s h
  refine cl_X3_31 hx hb hml hown hts hK hN hW (c_X10_isBelow l D T A (oc_X3 T a_o x_o ++ Z) (x_o 0 0) 40 r1 q2) ⟨Nat.le_of_ble_eq_true rfl, Nat.le_of_ble_eq_true rfl⟩ hl.1 rfl (Nat.le_of_ble_eq_true rfl) dX3_addWord_6 ⟨Nat.zero_le _, Nat.zero_le _⟩ rfl (fun H locs hW => ?_)
  refine lv_if_ne (tgt := 14) hx hb dX3_addWord_9 (by decide) (fun c3 => ?_) (fun c3 => ?_)
  · have h := ite_f c3 h
    refine lv_aload_n hx hb dX3_addWord_14 rfl (lv_at hl 0 rfl) ?_
    refine fg_X3_15 (v := .ref (a_o 1)) hx hb hts hown hK hW 0 rfl rfl dX3_addWord_15 ?_
    refine lv_aload_n hx hb dX3_addWord_18 rfl (lv_at hl 0 rfl) ?_
    refine fg_X3_9 (v := .int (x_o 0 0)) hx hb hts hown hK hW 0 rfl rfl dX3_addWord_19 ?_
    refine lv_iload_n hx hb dX3_addWord_22 rfl (lv_at hl 1 rfl) ?_
    obtain ⟨g4, h⟩ := grd_s h
    refine g_iast (ws9 := oc_X3 T a_o (upo x_o 1 (x_o 0 0).toNatClampNeg p1) ++ Z) hx hb hK hW 1 rfl g4 sa_X3_1 dX3_addWord_23 (fun H locs hW => ?_)
    obtain ⟨x_o5, ex_o5⟩ : ∃ y : Ob, y = upo x_o 1 (x_o 0 0).toNatClampNeg p1 := ⟨_, rfl⟩
    rw [← ex_o5] at hW
    have h := lb_at ex_o5 h
    refine lv_aload_n hx hb dX3_addWord_24 rfl (lv_at hl 0 rfl) ?_
    refine lv_dup hx hb dX3_addWord_25 rfl ?_
    refine fg_X3_9 (v := .int (x_o5 0 0)) hx hb hts hown hK hW 0 rfl rfl dX3_addWord_26 ?_
    refine lv_iconst (v := 1) hx hb dX3_addWord_29 (by decide) ?_
    refine lv_iadd hx hb dX3_addWord_30 ?_
    refine fp_X3_9 (ws9 := oc_X3 T a_o (upo x_o5 0 0 ((x_o5 0 0) + 1)) ++ Z) hx hb hts hown hK hW 0 rfl (Nat.le_of_ble_eq_true rfl) sf_X3_0 dX3_addWord_31 (fun H locs hW => ?_)
    obtain ⟨x_o6, ex_o6⟩ : ∃ y : Ob, y = upo x_o5 0 0 ((x_o5 0 0) + 1) := ⟨_, rfl⟩
    rw [← ex_o6] at hW
    have h := lb_at ex_o6 h
    refine lv_aload_n hx hb dX3_addWord_34 rfl (lv_at hl 0 rfl) ?_
    refine fg_X3_9 (v := .int (x_o6 0 0)) hx hb hts hown hK hW 0 rfl rfl dX3_addWord_35 ?_
    refine lv_iconst (v := 1) hx hb dX3_addWord_38 (by decide) ?_
    refine lv_isub hx hb dX3_addWord_39 ?_
    obtain ⟨rfl, rfl⟩ := ret2 h
    rw [hQ]
    exact g_reti hx hb hr hlk hW dX3_addWord_40
  · have h := ite_t c3 h
    refine lv_iconst (v := (-1)) hx hb dX3_addWord_12 (by decide) ?_
    obtain ⟨rfl, rfl⟩ := ret2 h
    rw [hQ]
    exact g_reti hx hb hr hlk hW dX3_addWord_13
set_option maxHeartbeats 4000000 in
set_option maxRecDepth 100000 in
theorem c_X3_isRowFull (l : Launch) (D : va_G) (T : Nat → ClassId) (A : Nat → Prop) (a_o : Nat → Nat) (Z : va_W)  (x_o : Ob) (p1 : Int32) (r : Int32) (h : f_X3_isRowFull x_o p1 = some r) : Met l yX3_isRowFull (Cond.code yX3_isRowFull cX3_isRowFull 2 (some .boolean) :: wsL_law) (rmd 1) (Pg D T A (oc_X3 T a_o x_o ++ Z) [.ref (a_o 0), .int p1]) (Qgi D A (oc_X3 T a_o x_o ++ Z) r) 0 0 A := by
  refine Met.ofW (cc := cX3_isRowFull) (maxL := 2) (ret := (some .boolean)) (by decide +kernel) rfl ?_
  intro p e s m args below meth c s₁ B hml hv
  obtain ⟨ha, hP, hK, hD, hN⟩ := hv
  have hx := B.exec
  have hb := B.bytes
  have hr := B.returns
  have hlk := B.notSynchronized
  have hts : ∀ w ∈ wsL_law, w.before args s = true := fun w hw => atoms_spec B.pre w (List.mem_cons_of_mem _ hw)
  have hown : s.vm.findClass RX3 = some m.cls := findClass_of_methodNamed B.named
  have hW : Wd D A s.heap (oc_X3 T a_o x_o ++ Z) s.heap [] := ⟨hP, hD, va_S.rf⟩
  have hl := lv_entry [.ref (a_o 0), .int p1] (n := 2) (Nat.le_of_ble_eq_true rfl)
  refine W.eq (en_eq ha) ?_
  generalize (lg_sl [.ref (a_o 0), .int p1] ++ List.replicate (2 - (lg_sl [.ref (a_o 0), .int p1]).length) Slot.unset).toArray = ls at hl ⊢
  have hl : lv_has ls 2 [(0, .ref (a_o 0)), (1, .int p1)] := hl
  clear hP hD B ha
  obtain ⟨Q, hQ⟩ : ∃ Q, Q = MQ below (Qgi D A (oc_X3 T a_o x_o ++ Z) r) args s 0 0 A := ⟨_, rfl⟩
  rw [← hQ]
  change W p l e (rmd 1) s m args below meth c s.heap [] 0 0 Q (F0 m 0 ls [])
  rw [f_X3_isRowFull] at h
  suffices hm : ∀ (H : Heap) (locs : List Loc), Wd D A s.heap (oc_X3 T a_o x_o ++ Z) H locs → W p l e (rmd 1) s m args below meth c H locs 0 0 Q (F0 m 0 ls []) from hm _ _ hW
  intro H locs hW
  refine lv_iload_n hx hb dX3_isRowFull_0 rfl (lv_at hl 1 rfl) ?_
  refine lv_bipush (v := 50) hx hb dX3_isRowFull_1 (by decide) ?_
  obtain ⟨r1, q2, h⟩ := bnd1_s h
  refine cl_X3_31 hx hb hml hown hts hK hN hW (c_X10_isBelow l D T A (oc_X3 T a_o x_o ++ Z) p1 50 r1 q2) ⟨Nat.le_of_ble_eq_true rfl, Nat.le_of_ble_eq_true rfl⟩ hl.1 rfl (Nat.le_of_ble_eq_true rfl) dX3_isRowFull_3 ⟨Nat.zero_le _, Nat.zero_le _⟩ rfl (fun H locs hW => ?_)
  refine lv_if_eq (tgt := 19) hx hb dX3_isRowFull_6 (by decide) (fun c3 => ?_) (fun c3 => ?_)
  · have h := ite_t c3 h
    refine lv_iconst (v := 1) hx hb dX3_isRowFull_19 (by decide) ?_
    refine lv_goto (tgt := 24) hx hb dX3_isRowFull_20 (by decide) ?_
    obtain rfl := ret1 h
    rw [hQ]
    exact g_retz hx hb hr hlk hW (by decide) dX3_isRowFull_24
  · have h := ite_f c3 h
    refine lv_aload_n hx hb dX3_isRowFull_9 rfl (lv_at hl 0 rfl) ?_
    refine fg_X3_19 (v := .ref (a_o 2)) hx hb hts hown hK hW 0 rfl rfl dX3_isRowFull_10 ?_
    refine lv_iload_n hx hb dX3_isRowFull_13 rfl (lv_at hl 1 rfl) ?_
    obtain ⟨g4, h⟩ := grd_s h
    refine g_iald hx hb hK hW 2 rfl g4 dX3_isRowFull_14 ?_
    refine lv_iconst (v := 4) hx hb dX3_isRowFull_15 (by decide) ?_
    refine lv_icmp_lt (tgt := 23) hx hb dX3_isRowFull_16 (by decide) (fun c5 => ?_) (fun c5 => ?_)
    · have h := ite_t c5 h
      refine lv_iconst (v := 0) hx hb dX3_isRowFull_23 (by decide) ?_
      obtain rfl := ret1 h
      rw [hQ]
      exact g_retz hx hb hr hlk hW (by decide) dX3_isRowFull_24
    · have h := ite_f c5 h
      refine lv_iconst (v := 1) hx hb dX3_isRowFull_19 (by decide) ?_
      refine lv_goto (tgt := 24) hx hb dX3_isRowFull_20 (by decide) ?_
      obtain rfl := ret1 h
      rw [hQ]
      exact g_retz hx hb hr hlk hW (by decide) dX3_isRowFull_24
set_option maxHeartbeats 4000000 in
set_option maxRecDepth 100000 in
theorem c_X3_addToRow (l : Launch) (D : va_G) (T : Nat → ClassId) (A : Nat → Prop) (a_o : Nat → Nat) (Z : va_W)  (x_o : Ob) (p1 : Int32) (p2 : Int32) (p3 : Int32) (p4 : Int32) (r : Int32) (x_o9 : Ob) (h : f_X3_addToRow x_o p1 p2 p3 p4 = some (r, x_o9)) : Met l yX3_addToRow (Cond.code yX3_addToRow cX3_addToRow 6 (some .int) :: wsL_law) (rmd 2) (Pg D T A (oc_X3 T a_o x_o ++ Z) [.ref (a_o 0), .int p1, .int p2, .int p3, .int p4]) (Qgi D A (oc_X3 T a_o x_o9 ++ Z) r) 0 0 A := by
  refine Met.ofW (cc := cX3_addToRow) (maxL := 6) (ret := (some .int)) (by decide +kernel) rfl ?_
  intro p e s m args below meth c s₁ B hml hv
  obtain ⟨ha, hP, hK, hD, hN⟩ := hv
  have hx := B.exec
  have hb := B.bytes
  have hr := B.returns
  have hlk := B.notSynchronized
  have hts : ∀ w ∈ wsL_law, w.before args s = true := fun w hw => atoms_spec B.pre w (List.mem_cons_of_mem _ hw)
  have hown : s.vm.findClass RX3 = some m.cls := findClass_of_methodNamed B.named
  have hW : Wd D A s.heap (oc_X3 T a_o x_o ++ Z) s.heap [] := ⟨hP, hD, va_S.rf⟩
  have hl := lv_entry [.ref (a_o 0), .int p1, .int p2, .int p3, .int p4] (n := 6) (Nat.le_of_ble_eq_true rfl)
  refine W.eq (en_eq ha) ?_
  generalize (lg_sl [.ref (a_o 0), .int p1, .int p2, .int p3, .int p4] ++ List.replicate (6 - (lg_sl [.ref (a_o 0), .int p1, .int p2, .int p3, .int p4]).length) Slot.unset).toArray = ls at hl ⊢
  have hl : lv_has ls 6 [(0, .ref (a_o 0)), (1, .int p1), (2, .int p2), (3, .int p3), (4, .int p4)] := hl
  clear hP hD B ha
  obtain ⟨Q, hQ⟩ : ∃ Q, Q = MQ below (Qgi D A (oc_X3 T a_o x_o9 ++ Z) r) args s 0 0 A := ⟨_, rfl⟩
  rw [← hQ]
  change W p l e (rmd 2) s m args below meth c s.heap [] 0 0 Q (F0 m 0 ls [])
  rw [f_X3_addToRow] at h
  suffices hm : ∀ (H : Heap) (locs : List Loc), Wd D A s.heap (oc_X3 T a_o x_o ++ Z) H locs → W p l e (rmd 2) s m args below meth c H locs 0 0 Q (F0 m 0 ls []) from hm _ _ hW
  intro H locs hW
  refine lv_aload_n hx hb dX3_addToRow_0 rfl (lv_at hl 0 rfl) ?_
  refine lv_iload_n hx hb dX3_addToRow_1 rfl (lv_at hl 1 rfl) ?_
  obtain ⟨r1, q2, h⟩ := bnd1_s h
  refine cl_X3_35 hx hb hml hown hts hK hN hW (c_X3_isRowFull l D T A a_o (Z) x_o p1 r1 q2) ⟨Nat.le_of_ble_eq_true rfl, Nat.le_of_ble_eq_true rfl⟩ hl.1 rfl (Nat.le_of_ble_eq_true rfl) dX3_addToRow_2 ⟨Nat.zero_le _, Nat.zero_le _⟩ rfl (fun H locs hW => ?_)
  refine lv_if_eq (tgt := 10) hx hb dX3_addToRow_5 (by decide) (fun c3 => ?_) (fun c3 => ?_)
  · have h := ite_t c3 h
    refine lv_iload_n hx hb dX3_addToRow_10 rfl (lv_at hl 1 rfl) ?_
    refine lv_iconst (v := 4) hx hb dX3_addToRow_11 (by decide) ?_
    refine lv_imul hx hb dX3_addToRow_12 ?_
    refine lv_aload_n hx hb dX3_addToRow_13 rfl (lv_at hl 0 rfl) ?_
    refine fg_X3_19 (v := .ref (a_o 2)) hx hb hts hown hK hW 0 rfl rfl dX3_addToRow_14 ?_
    refine lv_iload_n hx hb dX3_addToRow_17 rfl (lv_at hl 1 rfl) ?_
    obtain ⟨g4, h⟩ := grd_s h
    refine g_iald hx hb hK hW 2 rfl g4 dX3_addToRow_18 ?_
    refine lv_iadd hx hb dX3_addToRow_19 ?_
    refine lv_topi (fun w5_5 ew5_5 => ?_)
    have h := lb_at ew5_5 h
    refine lv_istore (lv' := [(5, .int w5_5), (0, .ref (a_o 0)), (1, .int p1), (2, .int p2), (3, .int p3), (4, .int p4)]) hx hb dX3_addToRow_20 hl (by decide) rfl (fun ls hl => ?_)
    refine lv_aload_n hx hb dX3_addToRow_22 rfl (lv_at hl 1 rfl) ?_
    refine fg_X3_22 (v := .ref (a_o 3)) hx hb hts hown hK hW 0 rfl rfl dX3_addToRow_23 ?_
    refine lv_iload hx hb dX3_addToRow_26 (lv_at hl 0 rfl) ?_
    refine lv_iload_n hx hb dX3_addToRow_28 rfl (lv_at hl 3 rfl) ?_
    obtain ⟨g6, h⟩ := grd_s h
    refine g_iast (ws9 := oc_X3 T a_o (upo x_o 3 w5_5.toNatClampNeg p2) ++ Z) hx hb hK hW 3 rfl g6 sa_X3_3 dX3_addToRow_29 (fun H locs hW => ?_)
    obtain ⟨x_o7, ex_o7⟩ : ∃ y : Ob, y = upo x_o 3 w5_5.toNatClampNeg p2 := ⟨_, rfl⟩
    rw [← ex_o7] at hW
    have h := lb_at ex_o7 h
    refine lv_aload_n hx hb dX3_addToRow_30 rfl (lv_at hl 1 rfl) ?_
    refine fg_X3_25 (v := .ref (a_o 4)) hx hb hts hown hK hW 0 rfl rfl dX3_addToRow_31 ?_
    refine lv_iload hx hb dX3_addToRow_34 (lv_at hl 0 rfl) ?_
    refine lv_iload_n hx hb dX3_addToRow_36 rfl (lv_at hl 4 rfl) ?_
    obtain ⟨g8, h⟩ := grd_s h
    refine g_iast (ws9 := oc_X3 T a_o (upo x_o7 4 w5_5.toNatClampNeg p3) ++ Z) hx hb hK hW 4 rfl g8 sa_X3_4 dX3_addToRow_37 (fun H locs hW => ?_)
    obtain ⟨x_o9, ex_o9⟩ : ∃ y : Ob, y = upo x_o7 4 w5_5.toNatClampNeg p3 := ⟨_, rfl⟩
    rw [← ex_o9] at hW
    have h := lb_at ex_o9 h
    refine lv_aload_n hx hb dX3_addToRow_38 rfl (lv_at hl 1 rfl) ?_
    refine fg_X3_28 (v := .ref (a_o 5)) hx hb hts hown hK hW 0 rfl rfl dX3_addToRow_39 ?_
    refine lv_iload hx hb dX3_addToRow_42 (lv_at hl 0 rfl) ?_
    refine lv_iload hx hb dX3_addToRow_44 (lv_at hl 5 rfl) ?_
    obtain ⟨g10, h⟩ := grd_s h
    refine g_iast (ws9 := oc_X3 T a_o (upo x_o9 5 w5_5.toNatClampNeg p4) ++ Z) hx hb hK hW 5 rfl g10 sa_X3_5 dX3_addToRow_46 (fun H locs hW => ?_)
    obtain ⟨x_o11, ex_o11⟩ : ∃ y : Ob, y = upo x_o9 5 w5_5.toNatClampNeg p4 := ⟨_, rfl⟩
    rw [← ex_o11] at hW
    have h := lb_at ex_o11 h
    refine lv_aload_n hx hb dX3_addToRow_47 rfl (lv_at hl 1 rfl) ?_
    refine fg_X3_19 (v := .ref (a_o 2)) hx hb hts hown hK hW 0 rfl rfl dX3_addToRow_48 ?_
    refine lv_iload_n hx hb dX3_addToRow_51 rfl (lv_at hl 2 rfl) ?_
    refine lv_dup2_11 hx hb dX3_addToRow_52 rfl rfl ?_
    obtain ⟨g12, h⟩ := grd_s h
    refine g_iald hx hb hK hW 2 rfl g12 dX3_addToRow_53 ?_
    refine lv_iconst (v := 1) hx hb dX3_addToRow_54 (by decide) ?_
    refine lv_iadd hx hb dX3_addToRow_55 ?_
    obtain ⟨g13, h⟩ := grd_s h
    refine g_iast (ws9 := oc_X3 T a_o (upo x_o11 2 p1.toNatClampNeg ((x_o11 2 p1.toNatClampNeg) + 1)) ++ Z) hx hb hK hW 2 rfl g13 sa_X3_2 dX3_addToRow_56 (fun H locs hW => ?_)
    obtain ⟨x_o14, ex_o14⟩ : ∃ y : Ob, y = upo x_o11 2 p1.toNatClampNeg ((x_o11 2 p1.toNatClampNeg) + 1) := ⟨_, rfl⟩
    rw [← ex_o14] at hW
    have h := lb_at ex_o14 h
    refine lv_aload_n hx hb dX3_addToRow_57 rfl (lv_at hl 1 rfl) ?_
    refine fg_X3_19 (v := .ref (a_o 2)) hx hb hts hown hK hW 0 rfl rfl dX3_addToRow_58 ?_
    refine lv_iload_n hx hb dX3_addToRow_61 rfl (lv_at hl 2 rfl) ?_
    obtain ⟨g15, h⟩ := grd_s h
    refine g_iald hx hb hK hW 2 rfl g15 dX3_addToRow_62 ?_
    obtain ⟨rfl, rfl⟩ := ret2 h
    rw [hQ]
    exact g_reti hx hb hr hlk hW dX3_addToRow_63
  · have h := ite_f c3 h
    refine lv_iconst (v := (-1)) hx hb dX3_addToRow_8 (by decide) ?_
    obtain ⟨rfl, rfl⟩ := ret2 h
    rw [hQ]
    exact g_reti hx hb hr hlk hW dX3_addToRow_9
set_option maxHeartbeats 4000000 in
set_option maxRecDepth 100000 in
theorem c_X3_rowOf (l : Launch) (D : va_G) (T : Nat → ClassId) (A : Nat → Prop) (a_o : Nat → Nat) (Z : va_W)  (x_o : Ob) (p1 : Int32) (r : Int32) (h : f_X3_rowOf x_o p1 = some r) : Met l yX3_rowOf (Cond.code yX3_rowOf cX3_rowOf 2 (some .int) :: wsL_law) (rmd 0) (Pg D T A (oc_X3 T a_o x_o ++ Z) [.ref (a_o 0), .int p1]) (Qgi D A (oc_X3 T a_o x_o ++ Z) r) 0 0 A := by
  refine Met.ofW (cc := cX3_rowOf) (maxL := 2) (ret := (some .int)) (by decide +kernel) rfl ?_
  intro p e s m args below meth c s₁ B hml hv
  obtain ⟨ha, hP, hK, hD, hN⟩ := hv
  have hx := B.exec
  have hb := B.bytes
  have hr := B.returns
  have hlk := B.notSynchronized
  have hts : ∀ w ∈ wsL_law, w.before args s = true := fun w hw => atoms_spec B.pre w (List.mem_cons_of_mem _ hw)
  have hown : s.vm.findClass RX3 = some m.cls := findClass_of_methodNamed B.named
  have hW : Wd D A s.heap (oc_X3 T a_o x_o ++ Z) s.heap [] := ⟨hP, hD, va_S.rf⟩
  have hl := lv_entry [.ref (a_o 0), .int p1] (n := 2) (Nat.le_of_ble_eq_true rfl)
  refine W.eq (en_eq ha) ?_
  generalize (lg_sl [.ref (a_o 0), .int p1] ++ List.replicate (2 - (lg_sl [.ref (a_o 0), .int p1]).length) Slot.unset).toArray = ls at hl ⊢
  have hl : lv_has ls 2 [(0, .ref (a_o 0)), (1, .int p1)] := hl
  clear hP hD B ha
  obtain ⟨Q, hQ⟩ : ∃ Q, Q = MQ below (Qgi D A (oc_X3 T a_o x_o ++ Z) r) args s 0 0 A := ⟨_, rfl⟩
  rw [← hQ]
  change W p l e (rmd 0) s m args below meth c s.heap [] 0 0 Q (F0 m 0 ls [])
  rw [f_X3_rowOf] at h
  suffices hm : ∀ (H : Heap) (locs : List Loc), Wd D A s.heap (oc_X3 T a_o x_o ++ Z) H locs → W p l e (rmd 0) s m args below meth c H locs 0 0 Q (F0 m 0 ls []) from hm _ _ hW
  intro H locs hW
  refine lv_iload_n hx hb dX3_rowOf_0 rfl (lv_at hl 1 rfl) ?_
  refine lv_if_lt (tgt := 12) hx hb dX3_rowOf_1 (by decide) (fun c1 => ?_) (fun c1 => ?_)
  · have h := ite_t c1 h
    refine lv_iconst (v := (-1)) hx hb dX3_rowOf_12 (by decide) ?_
    obtain rfl := ret1 h
    rw [hQ]
    exact g_reti hx hb hr hlk hW dX3_rowOf_13
  · have h := ite_f c1 h
    refine lv_iload_n hx hb dX3_rowOf_4 rfl (lv_at hl 1 rfl) ?_
    refine lv_aload_n hx hb dX3_rowOf_5 rfl (lv_at hl 0 rfl) ?_
    refine fg_X3_9 (v := .int (x_o 0 0)) hx hb hts hown hK hW 0 rfl rfl dX3_rowOf_6 ?_
    refine lv_icmp_lt (tgt := 14) hx hb dX3_rowOf_9 (by decide) (fun c2 => ?_) (fun c2 => ?_)
    · have h := ite_t c2 h
      refine lv_aload_n hx hb dX3_rowOf_14 rfl (lv_at hl 0 rfl) ?_
      refine fg_X3_19 (v := .ref (a_o 2)) hx hb hts hown hK hW 0 rfl rfl dX3_rowOf_15 ?_
      refine lv_iload_n hx hb dX3_rowOf_18 rfl (lv_at hl 1 rfl) ?_
      obtain ⟨g3, h⟩ := grd_s h
      refine g_iald hx hb hK hW 2 rfl g3 dX3_rowOf_19 ?_
      refine lv_if_le (tgt := 27) hx hb dX3_rowOf_20 (by decide) (fun c4 => ?_) (fun c4 => ?_)
      · have h := ite_t c4 h
        refine lv_bipush (v := 40) hx hb dX3_rowOf_27 (by decide) ?_
        refine lv_aload_n hx hb dX3_rowOf_29 rfl (lv_at hl 0 rfl) ?_
        refine fg_X3_15 (v := .ref (a_o 1)) hx hb hts hown hK hW 0 rfl rfl dX3_rowOf_30 ?_
        refine lv_iload_n hx hb dX3_rowOf_33 rfl (lv_at hl 1 rfl) ?_
        obtain ⟨g5, h⟩ := grd_s h
        refine g_iald hx hb hK hW 1 rfl g5 dX3_rowOf_34 ?_
        refine lv_iadd hx hb dX3_rowOf_35 ?_
        obtain rfl := ret1 h
        rw [hQ]
        exact g_reti hx hb hr hlk hW dX3_rowOf_36
      · have h := ite_f c4 h
        refine lv_iload_n hx hb dX3_rowOf_23 rfl (lv_at hl 1 rfl) ?_
        refine lv_goto (tgt := 36) hx hb dX3_rowOf_24 (by decide) ?_
        obtain rfl := ret1 h
        rw [hQ]
        exact g_reti hx hb hr hlk hW dX3_rowOf_36
    · have h := ite_f c2 h
      refine lv_iconst (v := (-1)) hx hb dX3_rowOf_12 (by decide) ?_
      obtain rfl := ret1 h
      rw [hQ]
      exact g_reti hx hb hr hlk hW dX3_rowOf_13
set_option maxHeartbeats 4000000 in
set_option maxRecDepth 100000 in
theorem c_X3_filledIn (l : Launch) (D : va_G) (T : Nat → ClassId) (A : Nat → Prop) (a_o : Nat → Nat) (Z : va_W)  (x_o : Ob) (p1 : Int32) (r : Int32) (h : f_X3_filledIn x_o p1 = some r) : Met l yX3_filledIn (Cond.code yX3_filledIn cX3_filledIn 2 (some .int) :: wsL_law) (rmd 0) (Pg D T A (oc_X3 T a_o x_o ++ Z) [.ref (a_o 0), .int p1]) (Qgi D A (oc_X3 T a_o x_o ++ Z) r) 0 0 A := by
  refine Met.ofW (cc := cX3_filledIn) (maxL := 2) (ret := (some .int)) (by decide +kernel) rfl ?_
  intro p e s m args below meth c s₁ B hml hv
  obtain ⟨ha, hP, hK, hD, hN⟩ := hv
  have hx := B.exec
  have hb := B.bytes
  have hr := B.returns
  have hlk := B.notSynchronized
  have hts : ∀ w ∈ wsL_law, w.before args s = true := fun w hw => atoms_spec B.pre w (List.mem_cons_of_mem _ hw)
  have hown : s.vm.findClass RX3 = some m.cls := findClass_of_methodNamed B.named
  have hW : Wd D A s.heap (oc_X3 T a_o x_o ++ Z) s.heap [] := ⟨hP, hD, va_S.rf⟩
  have hl := lv_entry [.ref (a_o 0), .int p1] (n := 2) (Nat.le_of_ble_eq_true rfl)
  refine W.eq (en_eq ha) ?_
  generalize (lg_sl [.ref (a_o 0), .int p1] ++ List.replicate (2 - (lg_sl [.ref (a_o 0), .int p1]).length) Slot.unset).toArray = ls at hl ⊢
  have hl : lv_has ls 2 [(0, .ref (a_o 0)), (1, .int p1)] := hl
  clear hP hD B ha
  obtain ⟨Q, hQ⟩ : ∃ Q, Q = MQ below (Qgi D A (oc_X3 T a_o x_o ++ Z) r) args s 0 0 A := ⟨_, rfl⟩
  rw [← hQ]
  change W p l e (rmd 0) s m args below meth c s.heap [] 0 0 Q (F0 m 0 ls [])
  rw [f_X3_filledIn] at h
  suffices hm : ∀ (H : Heap) (locs : List Loc), Wd D A s.heap (oc_X3 T a_o x_o ++ Z) H locs → W p l e (rmd 0) s m args below meth c H locs 0 0 Q (F0 m 0 ls []) from hm _ _ hW
  intro H locs hW
  refine lv_iload_n hx hb dX3_filledIn_0 rfl (lv_at hl 1 rfl) ?_
  refine lv_if_lt (tgt := 19) hx hb dX3_filledIn_1 (by decide) (fun c1 => ?_) (fun c1 => ?_)
  · have h := ite_t c1 h
    refine lv_iconst (v := 0) hx hb dX3_filledIn_19 (by decide) ?_
    obtain rfl := ret1 h
    rw [hQ]
    exact g_reti hx hb hr hlk hW dX3_filledIn_20
  · have h := ite_f c1 h
    refine lv_iload_n hx hb dX3_filledIn_4 rfl (lv_at hl 1 rfl) ?_
    refine lv_bipush (v := 50) hx hb dX3_filledIn_5 (by decide) ?_
    refine lv_icmp_ge (tgt := 19) hx hb dX3_filledIn_7 (by decide) (fun c2 => ?_) (fun c2 => ?_)
    · have h := ite_t c2 h
      refine lv_iconst (v := 0) hx hb dX3_filledIn_19 (by decide) ?_
      obtain rfl := ret1 h
      rw [hQ]
      exact g_reti hx hb hr hlk hW dX3_filledIn_20
    · have h := ite_f c2 h
      refine lv_aload_n hx hb dX3_filledIn_10 rfl (lv_at hl 0 rfl) ?_
      refine fg_X3_19 (v := .ref (a_o 2)) hx hb hts hown hK hW 0 rfl rfl dX3_filledIn_11 ?_
      refine lv_iload_n hx hb dX3_filledIn_14 rfl (lv_at hl 1 rfl) ?_
      obtain ⟨g3, h⟩ := grd_s h
      refine g_iald hx hb hK hW 2 rfl g3 dX3_filledIn_15 ?_
      refine lv_goto (tgt := 20) hx hb dX3_filledIn_16 (by decide) ?_
      obtain rfl := ret1 h
      rw [hQ]
      exact g_reti hx hb hr hlk hW dX3_filledIn_20
set_option maxHeartbeats 4000000 in
set_option maxRecDepth 100000 in
theorem c_X3_categoryIn (l : Launch) (D : va_G) (T : Nat → ClassId) (A : Nat → Prop) (a_o : Nat → Nat) (Z : va_W)  (x_o : Ob) (p1 : Int32) (p2 : Int32) (r : Int32) (h : f_X3_categoryIn x_o p1 p2 = some r) : Met l yX3_categoryIn (Cond.code yX3_categoryIn cX3_categoryIn 4 (some .int) :: wsL_law) (rmd 0) (Pg D T A (oc_X3 T a_o x_o ++ Z) [.ref (a_o 0), .int p1, .int p2]) (Qgi D A (oc_X3 T a_o x_o ++ Z) r) 0 0 A := by
  refine Met.ofW (cc := cX3_categoryIn) (maxL := 4) (ret := (some .int)) (by decide +kernel) rfl ?_
  intro p e s m args below meth c s₁ B hml hv
  obtain ⟨ha, hP, hK, hD, hN⟩ := hv
  have hx := B.exec
  have hb := B.bytes
  have hr := B.returns
  have hlk := B.notSynchronized
  have hts : ∀ w ∈ wsL_law, w.before args s = true := fun w hw => atoms_spec B.pre w (List.mem_cons_of_mem _ hw)
  have hown : s.vm.findClass RX3 = some m.cls := findClass_of_methodNamed B.named
  have hW : Wd D A s.heap (oc_X3 T a_o x_o ++ Z) s.heap [] := ⟨hP, hD, va_S.rf⟩
  have hl := lv_entry [.ref (a_o 0), .int p1, .int p2] (n := 4) (Nat.le_of_ble_eq_true rfl)
  refine W.eq (en_eq ha) ?_
  generalize (lg_sl [.ref (a_o 0), .int p1, .int p2] ++ List.replicate (4 - (lg_sl [.ref (a_o 0), .int p1, .int p2]).length) Slot.unset).toArray = ls at hl ⊢
  have hl : lv_has ls 4 [(0, .ref (a_o 0)), (1, .int p1), (2, .int p2)] := hl
  clear hP hD B ha
  obtain ⟨Q, hQ⟩ : ∃ Q, Q = MQ below (Qgi D A (oc_X3 T a_o x_o ++ Z) r) args s 0 0 A := ⟨_, rfl⟩
  rw [← hQ]
  change W p l e (rmd 0) s m args below meth c s.heap [] 0 0 Q (F0 m 0 ls [])
  have J29 : ∀ (v1_29 : Int32) (v2_29 : Int32) (s0_29 : Int32) (H : Heap) (locs : List Loc) (ls : Array Slot), Wd D A s.heap (oc_X3 T a_o x_o ++ Z) H locs → lv_has ls 4 [(0, .ref (a_o 0)), (1, .int v1_29), (2, .int v2_29)] → f_X3_categoryIn_J29 x_o v1_29 v2_29 s0_29 = some r → W p l e (rmd 0) s m args below meth c H locs 0 0 Q (F0 m 29 ls [.int s0_29]) := by
    intro v1_29 v2_29 s0_29 H locs ls hW hl h
    rw [f_X3_categoryIn_J29] at h
    refine lv_istore_n (lv' := [(3, .int s0_29), (0, .ref (a_o 0)), (1, .int v1_29), (2, .int v2_29)]) hx hb dX3_categoryIn_29 rfl hl (by decide) rfl (fun ls hl => ?_)
    refine lv_iload_n hx hb dX3_categoryIn_30 rfl (lv_at hl 0 rfl) ?_
    refine lv_if_eq (tgt := 47) hx hb dX3_categoryIn_31 (by decide) (fun c2 => ?_) (fun c2 => ?_)
    · have h := ite_t c2 h
      refine lv_iconst (v := (-1)) hx hb dX3_categoryIn_47 (by decide) ?_
      obtain rfl := ret1 h
      rw [hQ]
      exact g_reti hx hb hr hlk hW dX3_categoryIn_48
    · have h := ite_f c2 h
      refine lv_aload_n hx hb dX3_categoryIn_34 rfl (lv_at hl 1 rfl) ?_
      refine fg_X3_25 (v := .ref (a_o 4)) hx hb hts hown hK hW 0 rfl rfl dX3_categoryIn_35 ?_
      refine lv_iload_n hx hb dX3_categoryIn_38 rfl (lv_at hl 2 rfl) ?_
      refine lv_iconst (v := 4) hx hb dX3_categoryIn_39 (by decide) ?_
      refine lv_imul hx hb dX3_categoryIn_40 ?_
      refine lv_iload_n hx hb dX3_categoryIn_41 rfl (lv_at hl 3 rfl) ?_
      refine lv_iadd hx hb dX3_categoryIn_42 ?_
      obtain ⟨g3, h⟩ := grd_s h
      refine g_iald hx hb hK hW 4 rfl g3 dX3_categoryIn_43 ?_
      refine lv_goto (tgt := 48) hx hb dX3_categoryIn_44 (by decide) ?_
      obtain rfl := ret1 h
      rw [hQ]
      exact g_reti hx hb hr hlk hW dX3_categoryIn_48
  have J28 : ∀ (v1_28 : Int32) (v2_28 : Int32) (H : Heap) (locs : List Loc) (ls : Array Slot), Wd D A s.heap (oc_X3 T a_o x_o ++ Z) H locs → lv_has ls 4 [(0, .ref (a_o 0)), (1, .int v1_28), (2, .int v2_28)] → f_X3_categoryIn_J28 x_o v1_28 v2_28 = some r → W p l e (rmd 0) s m args below meth c H locs 0 0 Q (F0 m 28 ls []) := by
    intro v1_28 v2_28 H locs ls hW hl h
    rw [f_X3_categoryIn_J28] at h
    refine lv_iconst (v := 0) hx hb dX3_categoryIn_28 (by decide) ?_
    exact J29 _ _ _ H locs ls hW (lv_sub hl [0, 1, 2] rfl) h
  rw [f_X3_categoryIn] at h
  suffices hm : ∀ (H : Heap) (locs : List Loc), Wd D A s.heap (oc_X3 T a_o x_o ++ Z) H locs → W p l e (rmd 0) s m args below meth c H locs 0 0 Q (F0 m 0 ls []) from hm _ _ hW
  intro H locs hW
  refine lv_iload_n hx hb dX3_categoryIn_0 rfl (lv_at hl 1 rfl) ?_
  refine lv_if_lt (tgt := 28) hx hb dX3_categoryIn_1 (by decide) (fun c1 => ?_) (fun c1 => ?_)
  · have h := ite_t c1 h
    exact J28 _ _ H locs ls hW (lv_sub hl [0, 1, 2] rfl) h
  · have h := ite_f c1 h
    refine lv_iload_n hx hb dX3_categoryIn_4 rfl (lv_at hl 1 rfl) ?_
    refine lv_bipush (v := 50) hx hb dX3_categoryIn_5 (by decide) ?_
    refine lv_icmp_ge (tgt := 28) hx hb dX3_categoryIn_7 (by decide) (fun c4 => ?_) (fun c4 => ?_)
    · have h := ite_t c4 h
      exact J28 _ _ H locs ls hW (lv_sub hl [0, 1, 2] rfl) h
    · have h := ite_f c4 h
      refine lv_iload_n hx hb dX3_categoryIn_10 rfl (lv_at hl 2 rfl) ?_
      refine lv_if_lt (tgt := 28) hx hb dX3_categoryIn_11 (by decide) (fun c5 => ?_) (fun c5 => ?_)
      · have h := ite_t c5 h
        exact J28 _ _ H locs ls hW (lv_sub hl [0, 1, 2] rfl) h
      · have h := ite_f c5 h
        refine lv_iload_n hx hb dX3_categoryIn_14 rfl (lv_at hl 2 rfl) ?_
        refine lv_aload_n hx hb dX3_categoryIn_15 rfl (lv_at hl 0 rfl) ?_
        refine fg_X3_19 (v := .ref (a_o 2)) hx hb hts hown hK hW 0 rfl rfl dX3_categoryIn_16 ?_
        refine lv_iload_n hx hb dX3_categoryIn_19 rfl (lv_at hl 1 rfl) ?_
        obtain ⟨g6, h⟩ := grd_s h
        refine g_iald hx hb hK hW 2 rfl g6 dX3_categoryIn_20 ?_
        refine lv_icmp_ge (tgt := 28) hx hb dX3_categoryIn_21 (by decide) (fun c7 => ?_) (fun c7 => ?_)
        · have h := ite_t c7 h
          exact J28 _ _ H locs ls hW (lv_sub hl [0, 1, 2] rfl) h
        · have h := ite_f c7 h
          refine lv_iconst (v := 1) hx hb dX3_categoryIn_24 (by decide) ?_
          refine lv_goto (tgt := 29) hx hb dX3_categoryIn_25 (by decide) ?_
          exact J29 _ _ _ H locs ls hW (lv_sub hl [0, 1, 2] rfl) h
set_option maxHeartbeats 4000000 in
set_option maxRecDepth 100000 in
theorem c_X3_featuresIn (l : Launch) (D : va_G) (T : Nat → ClassId) (A : Nat → Prop) (a_o : Nat → Nat) (Z : va_W)  (x_o : Ob) (p1 : Int32) (p2 : Int32) (r : Int32) (h : f_X3_featuresIn x_o p1 p2 = some r) : Met l yX3_featuresIn (Cond.code yX3_featuresIn cX3_featuresIn 4 (some .int) :: wsL_law) (rmd 0) (Pg D T A (oc_X3 T a_o x_o ++ Z) [.ref (a_o 0), .int p1, .int p2]) (Qgi D A (oc_X3 T a_o x_o ++ Z) r) 0 0 A := by
  refine Met.ofW (cc := cX3_featuresIn) (maxL := 4) (ret := (some .int)) (by decide +kernel) rfl ?_
  intro p e s m args below meth c s₁ B hml hv
  obtain ⟨ha, hP, hK, hD, hN⟩ := hv
  have hx := B.exec
  have hb := B.bytes
  have hr := B.returns
  have hlk := B.notSynchronized
  have hts : ∀ w ∈ wsL_law, w.before args s = true := fun w hw => atoms_spec B.pre w (List.mem_cons_of_mem _ hw)
  have hown : s.vm.findClass RX3 = some m.cls := findClass_of_methodNamed B.named
  have hW : Wd D A s.heap (oc_X3 T a_o x_o ++ Z) s.heap [] := ⟨hP, hD, va_S.rf⟩
  have hl := lv_entry [.ref (a_o 0), .int p1, .int p2] (n := 4) (Nat.le_of_ble_eq_true rfl)
  refine W.eq (en_eq ha) ?_
  generalize (lg_sl [.ref (a_o 0), .int p1, .int p2] ++ List.replicate (4 - (lg_sl [.ref (a_o 0), .int p1, .int p2]).length) Slot.unset).toArray = ls at hl ⊢
  have hl : lv_has ls 4 [(0, .ref (a_o 0)), (1, .int p1), (2, .int p2)] := hl
  clear hP hD B ha
  obtain ⟨Q, hQ⟩ : ∃ Q, Q = MQ below (Qgi D A (oc_X3 T a_o x_o ++ Z) r) args s 0 0 A := ⟨_, rfl⟩
  rw [← hQ]
  change W p l e (rmd 0) s m args below meth c s.heap [] 0 0 Q (F0 m 0 ls [])
  have J29 : ∀ (v1_29 : Int32) (v2_29 : Int32) (s0_29 : Int32) (H : Heap) (locs : List Loc) (ls : Array Slot), Wd D A s.heap (oc_X3 T a_o x_o ++ Z) H locs → lv_has ls 4 [(0, .ref (a_o 0)), (1, .int v1_29), (2, .int v2_29)] → f_X3_featuresIn_J29 x_o v1_29 v2_29 s0_29 = some r → W p l e (rmd 0) s m args below meth c H locs 0 0 Q (F0 m 29 ls [.int s0_29]) := by
    intro v1_29 v2_29 s0_29 H locs ls hW hl h
    rw [f_X3_featuresIn_J29] at h
    refine lv_istore_n (lv' := [(3, .int s0_29), (0, .ref (a_o 0)), (1, .int v1_29), (2, .int v2_29)]) hx hb dX3_featuresIn_29 rfl hl (by decide) rfl (fun ls hl => ?_)
    refine lv_iload_n hx hb dX3_featuresIn_30 rfl (lv_at hl 0 rfl) ?_
    refine lv_if_eq (tgt := 47) hx hb dX3_featuresIn_31 (by decide) (fun c2 => ?_) (fun c2 => ?_)
    · have h := ite_t c2 h
      refine lv_iconst (v := 0) hx hb dX3_featuresIn_47 (by decide) ?_
      obtain rfl := ret1 h
      rw [hQ]
      exact g_reti hx hb hr hlk hW dX3_featuresIn_48
    · have h := ite_f c2 h
      refine lv_aload_n hx hb dX3_featuresIn_34 rfl (lv_at hl 1 rfl) ?_
      refine fg_X3_28 (v := .ref (a_o 5)) hx hb hts hown hK hW 0 rfl rfl dX3_featuresIn_35 ?_
      refine lv_iload_n hx hb dX3_featuresIn_38 rfl (lv_at hl 2 rfl) ?_
      refine lv_iconst (v := 4) hx hb dX3_featuresIn_39 (by decide) ?_
      refine lv_imul hx hb dX3_featuresIn_40 ?_
      refine lv_iload_n hx hb dX3_featuresIn_41 rfl (lv_at hl 3 rfl) ?_
      refine lv_iadd hx hb dX3_featuresIn_42 ?_
      obtain ⟨g3, h⟩ := grd_s h
      refine g_iald hx hb hK hW 5 rfl g3 dX3_featuresIn_43 ?_
      refine lv_goto (tgt := 48) hx hb dX3_featuresIn_44 (by decide) ?_
      obtain rfl := ret1 h
      rw [hQ]
      exact g_reti hx hb hr hlk hW dX3_featuresIn_48
  have J28 : ∀ (v1_28 : Int32) (v2_28 : Int32) (H : Heap) (locs : List Loc) (ls : Array Slot), Wd D A s.heap (oc_X3 T a_o x_o ++ Z) H locs → lv_has ls 4 [(0, .ref (a_o 0)), (1, .int v1_28), (2, .int v2_28)] → f_X3_featuresIn_J28 x_o v1_28 v2_28 = some r → W p l e (rmd 0) s m args below meth c H locs 0 0 Q (F0 m 28 ls []) := by
    intro v1_28 v2_28 H locs ls hW hl h
    rw [f_X3_featuresIn_J28] at h
    refine lv_iconst (v := 0) hx hb dX3_featuresIn_28 (by decide) ?_
    exact J29 _ _ _ H locs ls hW (lv_sub hl [0, 1, 2] rfl) h
  rw [f_X3_featuresIn] at h
  suffices hm : ∀ (H : Heap) (locs : List Loc), Wd D A s.heap (oc_X3 T a_o x_o ++ Z) H locs → W p l e (rmd 0) s m args below meth c H locs 0 0 Q (F0 m 0 ls []) from hm _ _ hW
  intro H locs hW
  refine lv_iload_n hx hb dX3_featuresIn_0 rfl (lv_at hl 1 rfl) ?_
  refine lv_if_lt (tgt := 28) hx hb dX3_featuresIn_1 (by decide) (fun c1 => ?_) (fun c1 => ?_)
  · have h := ite_t c1 h
    exact J28 _ _ H locs ls hW (lv_sub hl [0, 1, 2] rfl) h
  · have h := ite_f c1 h
    refine lv_iload_n hx hb dX3_featuresIn_4 rfl (lv_at hl 1 rfl) ?_
    refine lv_bipush (v := 50) hx hb dX3_featuresIn_5 (by decide) ?_
    refine lv_icmp_ge (tgt := 28) hx hb dX3_featuresIn_7 (by decide) (fun c4 => ?_) (fun c4 => ?_)
    · have h := ite_t c4 h
      exact J28 _ _ H locs ls hW (lv_sub hl [0, 1, 2] rfl) h
    · have h := ite_f c4 h
      refine lv_iload_n hx hb dX3_featuresIn_10 rfl (lv_at hl 2 rfl) ?_
      refine lv_if_lt (tgt := 28) hx hb dX3_featuresIn_11 (by decide) (fun c5 => ?_) (fun c5 => ?_)
      · have h := ite_t c5 h
        exact J28 _ _ H locs ls hW (lv_sub hl [0, 1, 2] rfl) h
      · have h := ite_f c5 h
        refine lv_iload_n hx hb dX3_featuresIn_14 rfl (lv_at hl 2 rfl) ?_
        refine lv_aload_n hx hb dX3_featuresIn_15 rfl (lv_at hl 0 rfl) ?_
        refine fg_X3_19 (v := .ref (a_o 2)) hx hb hts hown hK hW 0 rfl rfl dX3_featuresIn_16 ?_
        refine lv_iload_n hx hb dX3_featuresIn_19 rfl (lv_at hl 1 rfl) ?_
        obtain ⟨g6, h⟩ := grd_s h
        refine g_iald hx hb hK hW 2 rfl g6 dX3_featuresIn_20 ?_
        refine lv_icmp_ge (tgt := 28) hx hb dX3_featuresIn_21 (by decide) (fun c7 => ?_) (fun c7 => ?_)
        · have h := ite_t c7 h
          exact J28 _ _ H locs ls hW (lv_sub hl [0, 1, 2] rfl) h
        · have h := ite_f c7 h
          refine lv_iconst (v := 1) hx hb dX3_featuresIn_24 (by decide) ?_
          refine lv_goto (tgt := 29) hx hb dX3_featuresIn_25 (by decide) ?_
          exact J29 _ _ _ H locs ls hW (lv_sub hl [0, 1, 2] rfl) h
set_option maxHeartbeats 4000000 in
set_option maxRecDepth 100000 in
theorem c_X3_lemmaOf (l : Launch) (D : va_G) (T : Nat → ClassId) (A : Nat → Prop) (a_o : Nat → Nat) (Z : va_W)  (x_o : Ob) (p1 : Int32) (p2 : Int32) (r : Int32) (h : f_X3_lemmaOf x_o p1 p2 = some r) : Met l yX3_lemmaOf (Cond.code yX3_lemmaOf cX3_lemmaOf 4 (some .int) :: wsL_law) (rmd 1) (Pg D T A (oc_X3 T a_o x_o ++ Z) [.ref (a_o 0), .int p1, .int p2]) (Qgi D A (oc_X3 T a_o x_o ++ Z) r) 0 0 A := by
  refine Met.ofW (cc := cX3_lemmaOf) (maxL := 4) (ret := (some .int)) (by decide +kernel) rfl ?_
  intro p e s m args below meth c s₁ B hml hv
  obtain ⟨ha, hP, hK, hD, hN⟩ := hv
  have hx := B.exec
  have hb := B.bytes
  have hr := B.returns
  have hlk := B.notSynchronized
  have hts : ∀ w ∈ wsL_law, w.before args s = true := fun w hw => atoms_spec B.pre w (List.mem_cons_of_mem _ hw)
  have hown : s.vm.findClass RX3 = some m.cls := findClass_of_methodNamed B.named
  have hW : Wd D A s.heap (oc_X3 T a_o x_o ++ Z) s.heap [] := ⟨hP, hD, va_S.rf⟩
  have hl := lv_entry [.ref (a_o 0), .int p1, .int p2] (n := 4) (Nat.le_of_ble_eq_true rfl)
  refine W.eq (en_eq ha) ?_
  generalize (lg_sl [.ref (a_o 0), .int p1, .int p2] ++ List.replicate (4 - (lg_sl [.ref (a_o 0), .int p1, .int p2]).length) Slot.unset).toArray = ls at hl ⊢
  have hl : lv_has ls 4 [(0, .ref (a_o 0)), (1, .int p1), (2, .int p2)] := hl
  clear hP hD B ha
  obtain ⟨Q, hQ⟩ : ∃ Q, Q = MQ below (Qgi D A (oc_X3 T a_o x_o ++ Z) r) args s 0 0 A := ⟨_, rfl⟩
  rw [← hQ]
  change W p l e (rmd 1) s m args below meth c s.heap [] 0 0 Q (F0 m 0 ls [])
  rw [f_X3_lemmaOf] at h
  suffices hm : ∀ (H : Heap) (locs : List Loc), Wd D A s.heap (oc_X3 T a_o x_o ++ Z) H locs → W p l e (rmd 1) s m args below meth c H locs 0 0 Q (F0 m 0 ls []) from hm _ _ hW
  intro H locs hW
  refine lv_aload_n hx hb dX3_lemmaOf_0 rfl (lv_at hl 0 rfl) ?_
  refine lv_iload_n hx hb dX3_lemmaOf_1 rfl (lv_at hl 1 rfl) ?_
  obtain ⟨r1, q2, h⟩ := bnd1_s h
  refine cl_X3_39 hx hb hml hown hts hK hN hW (c_X3_rowOf l D T A a_o (Z) x_o p1 r1 q2) ⟨Nat.le_of_ble_eq_true rfl, Nat.le_of_ble_eq_true rfl⟩ hl.1 rfl (Nat.le_of_ble_eq_true rfl) dX3_lemmaOf_2 ⟨Nat.zero_le _, Nat.zero_le _⟩ rfl (fun H locs hW => ?_)
  refine lv_istore_n (lv' := [(3, .int r1), (0, .ref (a_o 0)), (1, .int p1), (2, .int p2)]) hx hb dX3_lemmaOf_5 rfl hl (by decide) rfl (fun ls hl => ?_)
  refine lv_iload_n hx hb dX3_lemmaOf_6 rfl (lv_at hl 0 rfl) ?_
  refine lv_iload_n hx hb dX3_lemmaOf_7 rfl (lv_at hl 2 rfl) ?_
  refine lv_icmp_eq (tgt := 16) hx hb dX3_lemmaOf_8 (by decide) (fun c3 => ?_) (fun c3 => ?_)
  · have h := ite_t c3 h
    refine lv_iload_n hx hb dX3_lemmaOf_16 rfl (lv_at hl 3 rfl) ?_
    refine lv_if_lt (tgt := 42) hx hb dX3_lemmaOf_17 (by decide) (fun c4 => ?_) (fun c4 => ?_)
    · have h := ite_t c4 h
      refine lv_iconst (v := (-1)) hx hb dX3_lemmaOf_42 (by decide) ?_
      obtain rfl := ret1 h
      rw [hQ]
      exact g_reti hx hb hr hlk hW dX3_lemmaOf_43
    · have h := ite_f c4 h
      refine lv_iload_n hx hb dX3_lemmaOf_20 rfl (lv_at hl 3 rfl) ?_
      refine lv_aload_n hx hb dX3_lemmaOf_21 rfl (lv_at hl 1 rfl) ?_
      refine lv_iload_n hx hb dX3_lemmaOf_22 rfl (lv_at hl 0 rfl) ?_
      obtain ⟨r5, q6, h⟩ := bnd1_s h
      refine cl_X3_43 hx hb hml hown hts hK hN hW (c_X3_filledIn l D T A a_o (Z) x_o r1 r5 q6) ⟨Nat.le_of_ble_eq_true rfl, Nat.le_of_ble_eq_true rfl⟩ hl.1 rfl (Nat.le_of_ble_eq_true rfl) dX3_lemmaOf_23 ⟨Nat.zero_le _, Nat.zero_le _⟩ rfl (fun H locs hW => ?_)
      refine lv_icmp_ge (tgt := 42) hx hb dX3_lemmaOf_26 (by decide) (fun c7 => ?_) (fun c7 => ?_)
      · have h := ite_t c7 h
        refine lv_iconst (v := (-1)) hx hb dX3_lemmaOf_42 (by decide) ?_
        obtain rfl := ret1 h
        rw [hQ]
        exact g_reti hx hb hr hlk hW dX3_lemmaOf_43
      · have h := ite_f c7 h
        refine lv_aload_n hx hb dX3_lemmaOf_29 rfl (lv_at hl 1 rfl) ?_
        refine fg_X3_22 (v := .ref (a_o 3)) hx hb hts hown hK hW 0 rfl rfl dX3_lemmaOf_30 ?_
        refine lv_iload_n hx hb dX3_lemmaOf_33 rfl (lv_at hl 0 rfl) ?_
        refine lv_iconst (v := 4) hx hb dX3_lemmaOf_34 (by decide) ?_
        refine lv_imul hx hb dX3_lemmaOf_35 ?_
        refine lv_iload_n hx hb dX3_lemmaOf_36 rfl (lv_at hl 3 rfl) ?_
        refine lv_iadd hx hb dX3_lemmaOf_37 ?_
        obtain ⟨g8, h⟩ := grd_s h
        refine g_iald hx hb hK hW 3 rfl g8 dX3_lemmaOf_38 ?_
        refine lv_goto (tgt := 43) hx hb dX3_lemmaOf_39 (by decide) ?_
        obtain rfl := ret1 h
        rw [hQ]
        exact g_reti hx hb hr hlk hW dX3_lemmaOf_43
  · have h := ite_f c3 h
    refine lv_bipush (v := 100) hx hb dX3_lemmaOf_11 (by decide) ?_
    refine lv_iload_n hx hb dX3_lemmaOf_13 rfl (lv_at hl 2 rfl) ?_
    refine lv_iadd hx hb dX3_lemmaOf_14 ?_
    obtain rfl := ret1 h
    rw [hQ]
    exact g_reti hx hb hr hlk hW dX3_lemmaOf_15
set_option maxHeartbeats 4000000 in
set_option maxRecDepth 100000 in
theorem c_X3_lowestTold (l : Launch) (D : va_G) (T : Nat → ClassId) (A : Nat → Prop) (a_o : Nat → Nat) (Z : va_W)  (x_o : Ob) (p1 : Int32) (p2 : Int32) (p3 : Int32) (r : Int32) (h : f_X3_lowestTold x_o p1 p2 p3 = some r) : Met l yX3_lowestTold (Cond.code yX3_lowestTold cX3_lowestTold 7 (some .int) :: wsL_law) (rmd 0) (Pg D T A (oc_X3 T a_o x_o ++ Z) [.ref (a_o 0), .int p1, .int p2, .int p3]) (Qgi D A (oc_X3 T a_o x_o ++ Z) r) 0 0 A := by
  refine Met.ofW (cc := cX3_lowestTold) (maxL := 7) (ret := (some .int)) (by decide +kernel) rfl ?_
  intro p e s m args below meth c s₁ B hml hv
  obtain ⟨ha, hP, hK, hD, hN⟩ := hv
  have hx := B.exec
  have hb := B.bytes
  have hr := B.returns
  have hlk := B.notSynchronized
  have hts : ∀ w ∈ wsL_law, w.before args s = true := fun w hw => atoms_spec B.pre w (List.mem_cons_of_mem _ hw)
  have hown : s.vm.findClass RX3 = some m.cls := findClass_of_methodNamed B.named
  have hW : Wd D A s.heap (oc_X3 T a_o x_o ++ Z) s.heap [] := ⟨hP, hD, va_S.rf⟩
  have hl := lv_entry [.ref (a_o 0), .int p1, .int p2, .int p3] (n := 7) (Nat.le_of_ble_eq_true rfl)
  refine W.eq (en_eq ha) ?_
  generalize (lg_sl [.ref (a_o 0), .int p1, .int p2, .int p3] ++ List.replicate (7 - (lg_sl [.ref (a_o 0), .int p1, .int p2, .int p3]).length) Slot.unset).toArray = ls at hl ⊢
  have hl : lv_has ls 7 [(0, .ref (a_o 0)), (1, .int p1), (2, .int p2), (3, .int p3)] := hl
  clear hP hD B ha
  obtain ⟨Q, hQ⟩ : ∃ Q, Q = MQ below (Qgi D A (oc_X3 T a_o x_o ++ Z) r) args s 0 0 A := ⟨_, rfl⟩
  rw [← hQ]
  change W p l e (rmd 0) s m args below meth c s.heap [] 0 0 Q (F0 m 0 ls [])
  have L15 : ∀ (n : Nat) (v1_15 : Int32) (v2_15 : Int32) (v3_15 : Int32) (v4_15 : Int32) (v5_15 : Int32) (H : Heap) (locs : List Loc) (ls : Array Slot) (code : Nat) (o5_15r : Int32), Wd D A s.heap (oc_X3 T a_o x_o ++ Z) H locs → lv_has ls 7 [(0, .ref (a_o 0)), (1, .int v1_15), (2, .int v2_15), (3, .int v3_15), (4, .int v4_15), (5, .int v5_15)] → f_X3_lowestTold_L15 n x_o v1_15 v2_15 v3_15 v4_15 v5_15 = some (code, o5_15r) → (code = 1 → ∀ (H : Heap) (locs : List Loc) (ls : Array Slot), Wd D A s.heap (oc_X3 T a_o x_o ++ Z) H locs → lv_has ls 7 [(0, .ref (a_o 0)), (1, .int v1_15), (2, .int v2_15), (3, .int v3_15), (4, .int v4_15)] → W p l e (rmd 0) s m args below meth c H locs 0 0 Q (F0 m 78 ls [])) → (code = 2 → ∀ (H : Heap) (locs : List Loc) (ls : Array Slot), Wd D A s.heap (oc_X3 T a_o x_o ++ Z) H locs → lv_has ls 7 [(4, .int v4_15)] → W p l e (rmd 0) s m args below meth c H locs 0 0 Q (F0 m 69 ls [])) → W p l e (rmd 0) s m args below meth c H locs 0 0 Q (F0 m 15 ls []) := by
    intro n
    induction n with
    | zero =>
      intro v1_15 v2_15 v3_15 v4_15 v5_15 H locs ls code o5_15r hW hl h k1 k2
      rw [f_X3_lowestTold_L15] at h
      cases h
    | succ n ih =>
      intro v1_15 v2_15 v3_15 v4_15 v5_15 H locs ls code o5_15r hW hl h k1 k2
      rw [f_X3_lowestTold_L15] at h
      refine lv_iload hx hb dX3_lowestTold_15 (lv_at hl 5 rfl) ?_
      refine lv_aload_n hx hb dX3_lowestTold_17 rfl (lv_at hl 0 rfl) ?_
      refine fg_X3_19 (v := .ref (a_o 2)) hx hb hts hown hK hW 0 rfl rfl dX3_lowestTold_18 ?_
      refine lv_iload hx hb dX3_lowestTold_21 (lv_at hl 4 rfl) ?_
      obtain ⟨g2, h⟩ := grd_s h
      refine g_iald hx hb hK hW 2 rfl g2 dX3_lowestTold_23 ?_
      refine lv_icmp_ge (tgt := 78) hx hb dX3_lowestTold_24 (by decide) (fun c3 => ?_) (fun c3 => ?_)
      · have h := ite_t c3 h
        obtain ⟨rfl, rfl⟩ := ret2 h
        exact k1 rfl H locs ls hW (lv_sub hl [0, 1, 2, 3, 4] rfl)
      · have h := ite_f c3 h
        refine lv_iload hx hb dX3_lowestTold_27 (lv_at hl 4 rfl) ?_
        refine lv_iconst (v := 4) hx hb dX3_lowestTold_29 (by decide) ?_
        refine lv_imul hx hb dX3_lowestTold_30 ?_
        refine lv_iload hx hb dX3_lowestTold_31 (lv_at hl 5 rfl) ?_
        refine lv_iadd hx hb dX3_lowestTold_33 ?_
        refine lv_topi (fun w6_4 ew6_4 => ?_)
        have h := lb_at ew6_4 h
        refine lv_istore (lv' := [(6, .int w6_4), (0, .ref (a_o 0)), (1, .int v1_15), (2, .int v2_15), (3, .int v3_15), (4, .int v4_15), (5, .int v5_15)]) hx hb dX3_lowestTold_34 hl (by decide) rfl (fun ls hl => ?_)
        refine lv_aload_n hx hb dX3_lowestTold_36 rfl (lv_at hl 1 rfl) ?_
        refine fg_X3_22 (v := .ref (a_o 3)) hx hb hts hown hK hW 0 rfl rfl dX3_lowestTold_37 ?_
        refine lv_iload hx hb dX3_lowestTold_40 (lv_at hl 0 rfl) ?_
        obtain ⟨g5, h⟩ := grd_s h
        refine g_iald hx hb hK hW 3 rfl g5 dX3_lowestTold_42 ?_
        refine lv_iload_n hx hb dX3_lowestTold_43 rfl (lv_at hl 2 rfl) ?_
        refine lv_icmp_ne (tgt := 72) hx hb dX3_lowestTold_44 (by decide) (fun c6 => ?_) (fun c6 => ?_)
        · have h := ite_f c6 h
          obtain ⟨w5_7, ew5_7⟩ : ∃ y : Int32, y = v5_15 + 1 := ⟨_, rfl⟩
          have h := lb_at ew5_7 h
          refine lv_iinc (v := w5_7) (lv' := [(5, .int w5_7), (6, .int w6_4), (0, .ref (a_o 0)), (1, .int v1_15), (2, .int v2_15), (3, .int v3_15), (4, .int v4_15)]) hx hb dX3_lowestTold_72 hl (k := 6) rfl (by rw [ew5_7]; rfl) (by decide) rfl (fun ls hl => ?_)
          refine lv_goto (tgt := 15) hx hb dX3_lowestTold_75 (by decide) ?_
          exact ih _ _ _ _ _ H locs ls _ _ hW (lv_sub hl [2, 3, 4, 5, 6, 0] rfl) h k1 k2
        · have h := ite_t c6 h
          refine lv_aload_n hx hb dX3_lowestTold_47 rfl (lv_at hl 1 rfl) ?_
          refine fg_X3_25 (v := .ref (a_o 4)) hx hb hts hown hK hW 0 rfl rfl dX3_lowestTold_48 ?_
          refine lv_iload hx hb dX3_lowestTold_51 (lv_at hl 0 rfl) ?_
          obtain ⟨g8, h⟩ := grd_s h
          refine g_iald hx hb hK hW 4 rfl g8 dX3_lowestTold_53 ?_
          refine lv_iload_n hx hb dX3_lowestTold_54 rfl (lv_at hl 3 rfl) ?_
          refine lv_icmp_ne (tgt := 72) hx hb dX3_lowestTold_55 (by decide) (fun c9 => ?_) (fun c9 => ?_)
          · have h := ite_f c9 h
            obtain ⟨w5_10, ew5_10⟩ : ∃ y : Int32, y = v5_15 + 1 := ⟨_, rfl⟩
            have h := lb_at ew5_10 h
            refine lv_iinc (v := w5_10) (lv' := [(5, .int w5_10), (6, .int w6_4), (0, .ref (a_o 0)), (1, .int v1_15), (2, .int v2_15), (3, .int v3_15), (4, .int v4_15)]) hx hb dX3_lowestTold_72 hl (k := 6) rfl (by rw [ew5_10]; rfl) (by decide) rfl (fun ls hl => ?_)
            refine lv_goto (tgt := 15) hx hb dX3_lowestTold_75 (by decide) ?_
            exact ih _ _ _ _ _ H locs ls _ _ hW (lv_sub hl [2, 3, 4, 5, 6, 0] rfl) h k1 k2
          · have h := ite_t c9 h
            refine lv_aload_n hx hb dX3_lowestTold_58 rfl (lv_at hl 1 rfl) ?_
            refine fg_X3_28 (v := .ref (a_o 5)) hx hb hts hown hK hW 0 rfl rfl dX3_lowestTold_59 ?_
            refine lv_iload hx hb dX3_lowestTold_62 (lv_at hl 0 rfl) ?_
            obtain ⟨g11, h⟩ := grd_s h
            refine g_iald hx hb hK hW 5 rfl g11 dX3_lowestTold_64 ?_
            refine lv_iload_n hx hb dX3_lowestTold_65 rfl (lv_at hl 4 rfl) ?_
            refine lv_icmp_ne (tgt := 72) hx hb dX3_lowestTold_66 (by decide) (fun c12 => ?_) (fun c12 => ?_)
            · have h := ite_f c12 h
              obtain ⟨w5_13, ew5_13⟩ : ∃ y : Int32, y = v5_15 + 1 := ⟨_, rfl⟩
              have h := lb_at ew5_13 h
              refine lv_iinc (v := w5_13) (lv' := [(5, .int w5_13), (6, .int w6_4), (0, .ref (a_o 0)), (1, .int v1_15), (2, .int v2_15), (3, .int v3_15), (4, .int v4_15)]) hx hb dX3_lowestTold_72 hl (k := 6) rfl (by rw [ew5_13]; rfl) (by decide) rfl (fun ls hl => ?_)
              refine lv_goto (tgt := 15) hx hb dX3_lowestTold_75 (by decide) ?_
              exact ih _ _ _ _ _ H locs ls _ _ hW (lv_sub hl [2, 3, 4, 5, 6, 0] rfl) h k1 k2
            · have h := ite_t c12 h
              obtain ⟨rfl, rfl⟩ := ret2 h
              exact k2 rfl H locs ls hW (lv_sub hl [5] rfl)
  have L3 : ∀ (n : Nat) (v1_3 : Int32) (v2_3 : Int32) (v3_3 : Int32) (v4_3 : Int32) (H : Heap) (locs : List Loc) (ls : Array Slot) (code : Nat) (o4_3r : Int32), Wd D A s.heap (oc_X3 T a_o x_o ++ Z) H locs → lv_has ls 7 [(0, .ref (a_o 0)), (1, .int v1_3), (2, .int v2_3), (3, .int v3_3), (4, .int v4_3)] → f_X3_lowestTold_L3 n x_o v1_3 v2_3 v3_3 v4_3 = some (code, o4_3r) → (code = 1 → ∀ (H : Heap) (locs : List Loc) (ls : Array Slot), Wd D A s.heap (oc_X3 T a_o x_o ++ Z) H locs → lv_has ls 7 [] → W p l e (rmd 0) s m args below meth c H locs 0 0 Q (F0 m 84 ls [])) → (code = 2 → ∀ (H : Heap) (locs : List Loc) (ls : Array Slot), Wd D A s.heap (oc_X3 T a_o x_o ++ Z) H locs → lv_has ls 7 [(4, .int o4_3r)] → W p l e (rmd 0) s m args below meth c H locs 0 0 Q (F0 m 69 ls [])) → W p l e (rmd 0) s m args below meth c H locs 0 0 Q (F0 m 3 ls []) := by
    intro n
    induction n with
    | zero =>
      intro v1_3 v2_3 v3_3 v4_3 H locs ls code o4_3r hW hl h k1 k2
      rw [f_X3_lowestTold_L3] at h
      cases h
    | succ n ih =>
      intro v1_3 v2_3 v3_3 v4_3 H locs ls code o4_3r hW hl h k1 k2
      rw [f_X3_lowestTold_L3] at h
      refine lv_iload hx hb dX3_lowestTold_3 (lv_at hl 4 rfl) ?_
      refine lv_aload_n hx hb dX3_lowestTold_5 rfl (lv_at hl 0 rfl) ?_
      refine fg_X3_9 (v := .int (x_o 0 0)) hx hb hts hown hK hW 0 rfl rfl dX3_lowestTold_6 ?_
      refine lv_icmp_ge (tgt := 84) hx hb dX3_lowestTold_9 (by decide) (fun c1 => ?_) (fun c1 => ?_)
      · have h := ite_t c1 h
        obtain ⟨rfl, rfl⟩ := ret2 h
        exact k1 rfl H locs ls hW (lv_sub hl [] rfl)
      · have h := ite_f c1 h
        refine lv_iconst (v := 0) hx hb dX3_lowestTold_12 (by decide) ?_
        refine lv_istore (lv' := [(5, .int 0), (0, .ref (a_o 0)), (1, .int v1_3), (2, .int v2_3), (3, .int v3_3), (4, .int v4_3)]) hx hb dX3_lowestTold_13 hl (by decide) rfl (fun ls hl => ?_)
        obtain ⟨code15, o5_u14, q16, h⟩ := bnd2_s h
        refine L15 200 _ _ _ _ _ H locs ls code15 o5_u14 hW (lv_sub hl [1, 2, 3, 4, 5, 0] rfl) q16 (fun hc H locs ls hW hl => ?_) (fun hc H locs ls hW hl => ?_)
        · have h := ite_t hc h
          obtain ⟨w4_17, ew4_17⟩ : ∃ y : Int32, y = v4_3 + 1 := ⟨_, rfl⟩
          have h := lb_at ew4_17 h
          refine lv_iinc (v := w4_17) (lv' := [(4, .int w4_17), (0, .ref (a_o 0)), (1, .int v1_3), (2, .int v2_3), (3, .int v3_3)]) hx hb dX3_lowestTold_78 hl (k := 4) rfl (by rw [ew4_17]; rfl) (by decide) rfl (fun ls hl => ?_)
          refine lv_goto (tgt := 3) hx hb dX3_lowestTold_81 (by decide) ?_
          exact ih _ _ _ _ H locs ls _ _ hW (lv_sub hl [1, 2, 3, 4, 0] rfl) h k1 k2
        · have h := ite_f (by rw [hc]; decide) h
          obtain ⟨rfl, rfl⟩ := ret2 h
          exact k2 rfl H locs ls hW (lv_sub hl [0] rfl)
  rw [f_X3_lowestTold] at h
  suffices hm : ∀ (H : Heap) (locs : List Loc), Wd D A s.heap (oc_X3 T a_o x_o ++ Z) H locs → W p l e (rmd 0) s m args below meth c H locs 0 0 Q (F0 m 0 ls []) from hm _ _ hW
  intro H locs hW
  refine lv_iconst (v := 0) hx hb dX3_lowestTold_0 (by decide) ?_
  refine lv_istore (lv' := [(4, .int 0), (0, .ref (a_o 0)), (1, .int p1), (2, .int p2), (3, .int p3)]) hx hb dX3_lowestTold_1 hl (by decide) rfl (fun ls hl => ?_)
  obtain ⟨code19, o4_u18, q20, h⟩ := bnd2_s h
  refine L3 200 _ _ _ _ H locs ls code19 o4_u18 hW (lv_sub hl [1, 2, 3, 4, 0] rfl) q20 (fun hc H locs ls hW hl => ?_) (fun hc H locs ls hW hl => ?_)
  · have h := ite_t hc h
    refine lv_iconst (v := (-1)) hx hb dX3_lowestTold_84 (by decide) ?_
    obtain rfl := ret1 h
    rw [hQ]
    exact g_reti hx hb hr hlk hW dX3_lowestTold_85
  · have h := ite_f (by rw [hc]; decide) h
    refine lv_iload hx hb dX3_lowestTold_69 (lv_at hl 0 rfl) ?_
    obtain rfl := ret1 h
    rw [hQ]
    exact g_reti hx hb hr hlk hW dX3_lowestTold_71
set_option maxHeartbeats 4000000 in
set_option maxRecDepth 100000 in
theorem c_X6_isLeft (l : Launch) (D : va_G) (T : Nat → ClassId) (A : Nat → Prop) (a_o : Nat → Nat) (Z : va_W)  (x_o : Ob) (p1 : Int32) (p2 : Int32) (r : Int32) (h : f_X6_isLeft x_o p1 p2 = some r) : Met l yX6_isLeft (Cond.code yX6_isLeft cX6_isLeft 4 (some .boolean) :: wsL_law) (rmd 0) (Pg D T A (oc_X6 T a_o x_o ++ Z) [.ref (a_o 0), .int p1, .int p2]) (Qgi D A (oc_X6 T a_o x_o ++ Z) r) 0 0 A := by
  refine Met.ofW (cc := cX6_isLeft) (maxL := 4) (ret := (some .boolean)) (by decide +kernel) rfl ?_
  intro p e s m args below meth c s₁ B hml hv
  obtain ⟨ha, hP, hK, hD, hN⟩ := hv
  have hx := B.exec
  have hb := B.bytes
  have hr := B.returns
  have hlk := B.notSynchronized
  have hts : ∀ w ∈ wsL_law, w.before args s = true := fun w hw => atoms_spec B.pre w (List.mem_cons_of_mem _ hw)
  have hown : s.vm.findClass RX6 = some m.cls := findClass_of_methodNamed B.named
  have hW : Wd D A s.heap (oc_X6 T a_o x_o ++ Z) s.heap [] := ⟨hP, hD, va_S.rf⟩
  have hl := lv_entry [.ref (a_o 0), .int p1, .int p2] (n := 4) (Nat.le_of_ble_eq_true rfl)
  refine W.eq (en_eq ha) ?_
  generalize (lg_sl [.ref (a_o 0), .int p1, .int p2] ++ List.replicate (4 - (lg_sl [.ref (a_o 0), .int p1, .int p2]).length) Slot.unset).toArray = ls at hl ⊢
  have hl : lv_has ls 4 [(0, .ref (a_o 0)), (1, .int p1), (2, .int p2)] := hl
  clear hP hD B ha
  obtain ⟨Q, hQ⟩ : ∃ Q, Q = MQ below (Qgi D A (oc_X6 T a_o x_o ++ Z) r) args s 0 0 A := ⟨_, rfl⟩
  rw [← hQ]
  change W p l e (rmd 0) s m args below meth c s.heap [] 0 0 Q (F0 m 0 ls [])
  have J26 : ∀ (v1_26 : Int32) (v2_26 : Int32) (s0_26 : Int32) (H : Heap) (locs : List Loc) (ls : Array Slot), Wd D A s.heap (oc_X6 T a_o x_o ++ Z) H locs → lv_has ls 4 [(0, .ref (a_o 0)), (1, .int v1_26), (2, .int v2_26)] → f_X6_isLeft_J26 x_o v1_26 v2_26 s0_26 = some r → W p l e (rmd 0) s m args below meth c H locs 0 0 Q (F0 m 26 ls [.int s0_26]) := by
    intro v1_26 v2_26 s0_26 H locs ls hW hl h
    rw [f_X6_isLeft_J26] at h
    refine lv_istore_n (lv' := [(3, .int s0_26), (0, .ref (a_o 0)), (1, .int v1_26), (2, .int v2_26)]) hx hb dX6_isLeft_26 rfl hl (by decide) rfl (fun ls hl => ?_)
    refine lv_iload_n hx hb dX6_isLeft_27 rfl (lv_at hl 0 rfl) ?_
    refine lv_if_eq (tgt := 48) hx hb dX6_isLeft_28 (by decide) (fun c2 => ?_) (fun c2 => ?_)
    · have h := ite_t c2 h
      refine lv_iconst (v := 0) hx hb dX6_isLeft_48 (by decide) ?_
      obtain rfl := ret1 h
      rw [hQ]
      exact g_retz hx hb hr hlk hW (by decide) dX6_isLeft_49
    · have h := ite_f c2 h
      refine lv_aload_n hx hb dX6_isLeft_31 rfl (lv_at hl 1 rfl) ?_
      refine fg_X6_19 (v := .ref (a_o 2)) hx hb hts hown hK hW 0 rfl rfl dX6_isLeft_32 ?_
      refine lv_iload_n hx hb dX6_isLeft_35 rfl (lv_at hl 2 rfl) ?_
      obtain ⟨g3, h⟩ := grd_s h
      refine g_iald hx hb hK hW 2 rfl g3 dX6_isLeft_36 ?_
      refine lv_iload_n hx hb dX6_isLeft_37 rfl (lv_at hl 3 rfl) ?_
      refine lv_ishr hx hb dX6_isLeft_38 ?_
      refine lv_iconst (v := 1) hx hb dX6_isLeft_39 (by decide) ?_
      refine lv_iand hx hb dX6_isLeft_40 ?_
      refine lv_if_eq (tgt := 48) hx hb dX6_isLeft_41 (by decide) (fun c4 => ?_) (fun c4 => ?_)
      · have h := ite_t c4 h
        refine lv_iconst (v := 0) hx hb dX6_isLeft_48 (by decide) ?_
        obtain rfl := ret1 h
        rw [hQ]
        exact g_retz hx hb hr hlk hW (by decide) dX6_isLeft_49
      · have h := ite_f c4 h
        refine lv_iconst (v := 1) hx hb dX6_isLeft_44 (by decide) ?_
        refine lv_goto (tgt := 49) hx hb dX6_isLeft_45 (by decide) ?_
        obtain rfl := ret1 h
        rw [hQ]
        exact g_retz hx hb hr hlk hW (by decide) dX6_isLeft_49
  have J25 : ∀ (v1_25 : Int32) (v2_25 : Int32) (H : Heap) (locs : List Loc) (ls : Array Slot), Wd D A s.heap (oc_X6 T a_o x_o ++ Z) H locs → lv_has ls 4 [(0, .ref (a_o 0)), (1, .int v1_25), (2, .int v2_25)] → f_X6_isLeft_J25 x_o v1_25 v2_25 = some r → W p l e (rmd 0) s m args below meth c H locs 0 0 Q (F0 m 25 ls []) := by
    intro v1_25 v2_25 H locs ls hW hl h
    rw [f_X6_isLeft_J25] at h
    refine lv_iconst (v := 0) hx hb dX6_isLeft_25 (by decide) ?_
    exact J26 _ _ _ H locs ls hW (lv_sub hl [0, 1, 2] rfl) h
  rw [f_X6_isLeft] at h
  suffices hm : ∀ (H : Heap) (locs : List Loc), Wd D A s.heap (oc_X6 T a_o x_o ++ Z) H locs → W p l e (rmd 0) s m args below meth c H locs 0 0 Q (F0 m 0 ls []) from hm _ _ hW
  intro H locs hW
  refine lv_iload_n hx hb dX6_isLeft_0 rfl (lv_at hl 1 rfl) ?_
  refine lv_if_lt (tgt := 25) hx hb dX6_isLeft_1 (by decide) (fun c1 => ?_) (fun c1 => ?_)
  · have h := ite_t c1 h
    exact J25 _ _ H locs ls hW (lv_sub hl [0, 1, 2] rfl) h
  · have h := ite_f c1 h
    refine lv_iload_n hx hb dX6_isLeft_4 rfl (lv_at hl 1 rfl) ?_
    refine lv_aload_n hx hb dX6_isLeft_5 rfl (lv_at hl 0 rfl) ?_
    refine fg_X6_9 (v := .int (x_o 0 0)) hx hb hts hown hK hW 0 rfl rfl dX6_isLeft_6 ?_
    refine lv_icmp_ge (tgt := 25) hx hb dX6_isLeft_9 (by decide) (fun c5 => ?_) (fun c5 => ?_)
    · have h := ite_t c5 h
      exact J25 _ _ H locs ls hW (lv_sub hl [0, 1, 2] rfl) h
    · have h := ite_f c5 h
      refine lv_iload_n hx hb dX6_isLeft_12 rfl (lv_at hl 2 rfl) ?_
      refine lv_if_lt (tgt := 25) hx hb dX6_isLeft_13 (by decide) (fun c6 => ?_) (fun c6 => ?_)
      · have h := ite_t c6 h
        exact J25 _ _ H locs ls hW (lv_sub hl [0, 1, 2] rfl) h
      · have h := ite_f c6 h
        refine lv_iload_n hx hb dX6_isLeft_16 rfl (lv_at hl 2 rfl) ?_
        refine lv_iconst (v := 4) hx hb dX6_isLeft_17 (by decide) ?_
        refine lv_icmp_ge (tgt := 25) hx hb dX6_isLeft_18 (by decide) (fun c7 => ?_) (fun c7 => ?_)
        · have h := ite_t c7 h
          exact J25 _ _ H locs ls hW (lv_sub hl [0, 1, 2] rfl) h
        · have h := ite_f c7 h
          refine lv_iconst (v := 1) hx hb dX6_isLeft_21 (by decide) ?_
          refine lv_goto (tgt := 26) hx hb dX6_isLeft_22 (by decide) ?_
          exact J26 _ _ _ H locs ls hW (lv_sub hl [0, 1, 2] rfl) h
set_option maxHeartbeats 4000000 in
set_option maxRecDepth 100000 in
theorem c_X6_featuresAsGiven (l : Launch) (D : va_G) (T : Nat → ClassId) (A : Nat → Prop) (a_o : Nat → Nat) (Z : va_W)  (x_o : Ob) (p1 : Int32) (p2 : Int32) (r : Int32) (h : f_X6_featuresAsGiven x_o p1 p2 = some r) : Met l yX6_featuresAsGiven (Cond.code yX6_featuresAsGiven cX6_featuresAsGiven 5 (some .int) :: wsL_law) (rmd 0) (Pg D T A (oc_X6 T a_o x_o ++ Z) [.ref (a_o 0), .int p1, .int p2]) (Qgi D A (oc_X6 T a_o x_o ++ Z) r) 0 0 A := by
  refine Met.ofW (cc := cX6_featuresAsGiven) (maxL := 5) (ret := (some .int)) (by decide +kernel) rfl ?_
  intro p e s m args below meth c s₁ B hml hv
  obtain ⟨ha, hP, hK, hD, hN⟩ := hv
  have hx := B.exec
  have hb := B.bytes
  have hr := B.returns
  have hlk := B.notSynchronized
  have hts : ∀ w ∈ wsL_law, w.before args s = true := fun w hw => atoms_spec B.pre w (List.mem_cons_of_mem _ hw)
  have hown : s.vm.findClass RX6 = some m.cls := findClass_of_methodNamed B.named
  have hW : Wd D A s.heap (oc_X6 T a_o x_o ++ Z) s.heap [] := ⟨hP, hD, va_S.rf⟩
  have hl := lv_entry [.ref (a_o 0), .int p1, .int p2] (n := 5) (Nat.le_of_ble_eq_true rfl)
  refine W.eq (en_eq ha) ?_
  generalize (lg_sl [.ref (a_o 0), .int p1, .int p2] ++ List.replicate (5 - (lg_sl [.ref (a_o 0), .int p1, .int p2]).length) Slot.unset).toArray = ls at hl ⊢
  have hl : lv_has ls 5 [(0, .ref (a_o 0)), (1, .int p1), (2, .int p2)] := hl
  clear hP hD B ha
  obtain ⟨Q, hQ⟩ : ∃ Q, Q = MQ below (Qgi D A (oc_X6 T a_o x_o ++ Z) r) args s 0 0 A := ⟨_, rfl⟩
  rw [← hQ]
  change W p l e (rmd 0) s m args below meth c s.heap [] 0 0 Q (F0 m 0 ls [])
  have J68 : ∀ (v1_68 : Int32) (s0_68 : Int32) (s1_68 : Int32) (H : Heap) (locs : List Loc) (ls : Array Slot), Wd D A s.heap (oc_X6 T a_o x_o ++ Z) H locs → lv_has ls 5 [(0, .ref (a_o 0)), (1, .int v1_68)] → f_X6_featuresAsGiven_J68 x_o v1_68 s0_68 s1_68 = some r → W p l e (rmd 0) s m args below meth c H locs 0 0 Q (F0 m 68 ls [.int s1_68, .int s0_68]) := by
    intro v1_68 s0_68 s1_68 H locs ls hW hl h
    rw [f_X6_featuresAsGiven_J68] at h
    refine lv_ior hx hb dX6_featuresAsGiven_68 ?_
    refine lv_topi (fun w4_11 ew4_11 => ?_)
    have h := lb_at ew4_11 h
    refine lv_istore (lv' := [(4, .int w4_11), (0, .ref (a_o 0)), (1, .int v1_68)]) hx hb dX6_featuresAsGiven_69 hl (by decide) rfl (fun ls hl => ?_)
    refine lv_iload hx hb dX6_featuresAsGiven_71 (lv_at hl 0 rfl) ?_
    refine lv_iload hx hb dX6_featuresAsGiven_73 (lv_at hl 0 rfl) ?_
    refine lv_bipush (v := 12) hx hb dX6_featuresAsGiven_75 (by decide) ?_
    refine lv_iand hx hb dX6_featuresAsGiven_77 ?_
    refine lv_if_ne (tgt := 93) hx hb dX6_featuresAsGiven_78 (by decide) (fun c12 => ?_) (fun c12 => ?_)
    · have h := ite_f c12 h
      refine lv_iconst (v := 0) hx hb dX6_featuresAsGiven_93 (by decide) ?_
      refine lv_ior hx hb dX6_featuresAsGiven_94 ?_
      refine lv_topi (fun w4_13 ew4_13 => ?_)
      have h := lb_at ew4_13 h
      refine lv_istore (lv' := [(4, .int w4_13), (0, .ref (a_o 0)), (1, .int v1_68)]) hx hb dX6_featuresAsGiven_95 hl (by decide) rfl (fun ls hl => ?_)
      refine lv_iload hx hb dX6_featuresAsGiven_97 (lv_at hl 0 rfl) ?_
      obtain rfl := ret1 h
      rw [hQ]
      exact g_reti hx hb hr hlk hW dX6_featuresAsGiven_99
    · have h := ite_t c12 h
      refine lv_aload_n hx hb dX6_featuresAsGiven_81 rfl (lv_at hl 1 rfl) ?_
      refine fg_X6_22 (v := .ref (a_o 3)) hx hb hts hown hK hW 0 rfl rfl dX6_featuresAsGiven_82 ?_
      refine lv_iload_n hx hb dX6_featuresAsGiven_85 rfl (lv_at hl 2 rfl) ?_
      obtain ⟨g14, h⟩ := grd_s h
      refine g_iald hx hb hK hW 3 rfl g14 dX6_featuresAsGiven_86 ?_
      refine lv_bipush (v := 12) hx hb dX6_featuresAsGiven_87 (by decide) ?_
      refine lv_iand hx hb dX6_featuresAsGiven_89 ?_
      refine lv_goto (tgt := 94) hx hb dX6_featuresAsGiven_90 (by decide) ?_
      refine lv_ior hx hb dX6_featuresAsGiven_94 ?_
      refine lv_topi (fun w4_15 ew4_15 => ?_)
      have h := lb_at ew4_15 h
      refine lv_istore (lv' := [(4, .int w4_15), (0, .ref (a_o 0)), (1, .int v1_68)]) hx hb dX6_featuresAsGiven_95 hl (by decide) rfl (fun ls hl => ?_)
      refine lv_iload hx hb dX6_featuresAsGiven_97 (lv_at hl 0 rfl) ?_
      obtain rfl := ret1 h
      rw [hQ]
      exact g_reti hx hb hr hlk hW dX6_featuresAsGiven_99
  rw [f_X6_featuresAsGiven] at h
  suffices hm : ∀ (H : Heap) (locs : List Loc), Wd D A s.heap (oc_X6 T a_o x_o ++ Z) H locs → W p l e (rmd 0) s m args below meth c H locs 0 0 Q (F0 m 0 ls []) from hm _ _ hW
  intro H locs hW
  refine lv_iload_n hx hb dX6_featuresAsGiven_0 rfl (lv_at hl 1 rfl) ?_
  refine lv_if_lt (tgt := 21) hx hb dX6_featuresAsGiven_1 (by decide) (fun c1 => ?_) (fun c1 => ?_)
  · have h := ite_t c1 h
    refine lv_iconst (v := 0) hx hb dX6_featuresAsGiven_21 (by decide) ?_
    obtain rfl := ret1 h
    rw [hQ]
    exact g_reti hx hb hr hlk hW dX6_featuresAsGiven_22
  · have h := ite_f c1 h
    refine lv_iload_n hx hb dX6_featuresAsGiven_4 rfl (lv_at hl 1 rfl) ?_
    refine lv_aload_n hx hb dX6_featuresAsGiven_5 rfl (lv_at hl 0 rfl) ?_
    refine fg_X6_9 (v := .int (x_o 0 0)) hx hb hts hown hK hW 0 rfl rfl dX6_featuresAsGiven_6 ?_
    refine lv_icmp_ge (tgt := 21) hx hb dX6_featuresAsGiven_9 (by decide) (fun c2 => ?_) (fun c2 => ?_)
    · have h := ite_t c2 h
      refine lv_iconst (v := 0) hx hb dX6_featuresAsGiven_21 (by decide) ?_
      obtain rfl := ret1 h
      rw [hQ]
      exact g_reti hx hb hr hlk hW dX6_featuresAsGiven_22
    · have h := ite_f c2 h
      refine lv_iload_n hx hb dX6_featuresAsGiven_12 rfl (lv_at hl 2 rfl) ?_
      refine lv_if_lt (tgt := 21) hx hb dX6_featuresAsGiven_13 (by decide) (fun c3 => ?_) (fun c3 => ?_)
      · have h := ite_t c3 h
        refine lv_iconst (v := 0) hx hb dX6_featuresAsGiven_21 (by decide) ?_
        obtain rfl := ret1 h
        rw [hQ]
        exact g_reti hx hb hr hlk hW dX6_featuresAsGiven_22
      · have h := ite_f c3 h
        refine lv_iload_n hx hb dX6_featuresAsGiven_16 rfl (lv_at hl 2 rfl) ?_
        refine lv_iconst (v := 4) hx hb dX6_featuresAsGiven_17 (by decide) ?_
        refine lv_icmp_lt (tgt := 23) hx hb dX6_featuresAsGiven_18 (by decide) (fun c4 => ?_) (fun c4 => ?_)
        · have h := ite_t c4 h
          refine lv_iload_n hx hb dX6_featuresAsGiven_23 rfl (lv_at hl 1 rfl) ?_
          refine lv_iconst (v := 4) hx hb dX6_featuresAsGiven_24 (by decide) ?_
          refine lv_imul hx hb dX6_featuresAsGiven_25 ?_
          refine lv_iload_n hx hb dX6_featuresAsGiven_26 rfl (lv_at hl 2 rfl) ?_
          refine lv_iadd hx hb dX6_featuresAsGiven_27 ?_
          refine lv_topi (fun w3_5 ew3_5 => ?_)
          have h := lb_at ew3_5 h
          refine lv_istore_n (lv' := [(3, .int w3_5), (0, .ref (a_o 0)), (1, .int p1), (2, .int p2)]) hx hb dX6_featuresAsGiven_28 rfl hl (by decide) rfl (fun ls hl => ?_)
          refine lv_aload_n hx hb dX6_featuresAsGiven_29 rfl (lv_at hl 1 rfl) ?_
          refine fg_X6_28 (v := .ref (a_o 5)) hx hb hts hown hK hW 0 rfl rfl dX6_featuresAsGiven_30 ?_
          refine lv_iload_n hx hb dX6_featuresAsGiven_33 rfl (lv_at hl 0 rfl) ?_
          obtain ⟨g6, h⟩ := grd_s h
          refine g_iald hx hb hK hW 5 rfl g6 dX6_featuresAsGiven_34 ?_
          refine lv_topi (fun w4_7 ew4_7 => ?_)
          have h := lb_at ew4_7 h
          refine lv_istore (lv' := [(4, .int w4_7), (3, .int w3_5), (0, .ref (a_o 0)), (1, .int p1), (2, .int p2)]) hx hb dX6_featuresAsGiven_35 hl (by decide) rfl (fun ls hl => ?_)
          refine lv_aload_n hx hb dX6_featuresAsGiven_37 rfl (lv_at hl 2 rfl) ?_
          refine fg_X6_25 (v := .ref (a_o 4)) hx hb hts hown hK hW 0 rfl rfl dX6_featuresAsGiven_38 ?_
          refine lv_iload_n hx hb dX6_featuresAsGiven_41 rfl (lv_at hl 1 rfl) ?_
          obtain ⟨g8, h⟩ := grd_s h
          refine g_iald hx hb hK hW 4 rfl g8 dX6_featuresAsGiven_42 ?_
          refine lv_iconst (v := 1) hx hb dX6_featuresAsGiven_43 (by decide) ?_
          refine lv_icmp_ne (tgt := 97) hx hb dX6_featuresAsGiven_44 (by decide) (fun c9 => ?_) (fun c9 => ?_)
          · have h := ite_f c9 h
            refine lv_iload hx hb dX6_featuresAsGiven_97 (lv_at hl 0 rfl) ?_
            obtain rfl := ret1 h
            rw [hQ]
            exact g_reti hx hb hr hlk hW dX6_featuresAsGiven_99
          · have h := ite_t c9 h
            refine lv_iload hx hb dX6_featuresAsGiven_47 (lv_at hl 0 rfl) ?_
            refine lv_iload hx hb dX6_featuresAsGiven_49 (lv_at hl 0 rfl) ?_
            refine lv_iconst (v := 3) hx hb dX6_featuresAsGiven_51 (by decide) ?_
            refine lv_iand hx hb dX6_featuresAsGiven_52 ?_
            refine lv_if_ne (tgt := 67) hx hb dX6_featuresAsGiven_53 (by decide) (fun c10 => ?_) (fun c10 => ?_)
            · have h := ite_f c10 h
              refine lv_iconst (v := 0) hx hb dX6_featuresAsGiven_67 (by decide) ?_
              exact J68 _ _ _ H locs ls hW (lv_sub hl [2, 3] rfl) h
            · have h := ite_t c10 h
              refine lv_aload_n hx hb dX6_featuresAsGiven_56 rfl (lv_at hl 2 rfl) ?_
              refine fg_X6_22 (v := .ref (a_o 3)) hx hb hts hown hK hW 0 rfl rfl dX6_featuresAsGiven_57 ?_
              refine lv_iload_n hx hb dX6_featuresAsGiven_60 rfl (lv_at hl 3 rfl) ?_
              obtain ⟨g16, h⟩ := grd_s h
              refine g_iald hx hb hK hW 3 rfl g16 dX6_featuresAsGiven_61 ?_
              refine lv_iconst (v := 3) hx hb dX6_featuresAsGiven_62 (by decide) ?_
              refine lv_iand hx hb dX6_featuresAsGiven_63 ?_
              refine lv_goto (tgt := 68) hx hb dX6_featuresAsGiven_64 (by decide) ?_
              exact J68 _ _ _ H locs ls hW (lv_sub hl [2, 3] rfl) h
        · have h := ite_f c4 h
          refine lv_iconst (v := 0) hx hb dX6_featuresAsGiven_21 (by decide) ?_
          obtain rfl := ret1 h
          rw [hQ]
          exact g_reti hx hb hr hlk hW dX6_featuresAsGiven_22
set_option maxHeartbeats 4000000 in
set_option maxRecDepth 100000 in
theorem c_X6_categoryOf (l : Launch) (D : va_G) (T : Nat → ClassId) (A : Nat → Prop) (a_o : Nat → Nat) (Z : va_W)  (x_o : Ob) (p1 : Int32) (p2 : Int32) (r : Int32) (h : f_X6_categoryOf x_o p1 p2 = some r) : Met l yX6_categoryOf (Cond.code yX6_categoryOf cX6_categoryOf 4 (some .int) :: wsL_law) (rmd 0) (Pg D T A (oc_X6 T a_o x_o ++ Z) [.ref (a_o 0), .int p1, .int p2]) (Qgi D A (oc_X6 T a_o x_o ++ Z) r) 0 0 A := by
  refine Met.ofW (cc := cX6_categoryOf) (maxL := 4) (ret := (some .int)) (by decide +kernel) rfl ?_
  intro p e s m args below meth c s₁ B hml hv
  obtain ⟨ha, hP, hK, hD, hN⟩ := hv
  have hx := B.exec
  have hb := B.bytes
  have hr := B.returns
  have hlk := B.notSynchronized
  have hts : ∀ w ∈ wsL_law, w.before args s = true := fun w hw => atoms_spec B.pre w (List.mem_cons_of_mem _ hw)
  have hown : s.vm.findClass RX6 = some m.cls := findClass_of_methodNamed B.named
  have hW : Wd D A s.heap (oc_X6 T a_o x_o ++ Z) s.heap [] := ⟨hP, hD, va_S.rf⟩
  have hl := lv_entry [.ref (a_o 0), .int p1, .int p2] (n := 4) (Nat.le_of_ble_eq_true rfl)
  refine W.eq (en_eq ha) ?_
  generalize (lg_sl [.ref (a_o 0), .int p1, .int p2] ++ List.replicate (4 - (lg_sl [.ref (a_o 0), .int p1, .int p2]).length) Slot.unset).toArray = ls at hl ⊢
  have hl : lv_has ls 4 [(0, .ref (a_o 0)), (1, .int p1), (2, .int p2)] := hl
  clear hP hD B ha
  obtain ⟨Q, hQ⟩ : ∃ Q, Q = MQ below (Qgi D A (oc_X6 T a_o x_o ++ Z) r) args s 0 0 A := ⟨_, rfl⟩
  rw [← hQ]
  change W p l e (rmd 0) s m args below meth c s.heap [] 0 0 Q (F0 m 0 ls [])
  have J26 : ∀ (v1_26 : Int32) (v2_26 : Int32) (s0_26 : Int32) (H : Heap) (locs : List Loc) (ls : Array Slot), Wd D A s.heap (oc_X6 T a_o x_o ++ Z) H locs → lv_has ls 4 [(0, .ref (a_o 0)), (1, .int v1_26), (2, .int v2_26)] → f_X6_categoryOf_J26 x_o v1_26 v2_26 s0_26 = some r → W p l e (rmd 0) s m args below meth c H locs 0 0 Q (F0 m 26 ls [.int s0_26]) := by
    intro v1_26 v2_26 s0_26 H locs ls hW hl h
    rw [f_X6_categoryOf_J26] at h
    refine lv_istore_n (lv' := [(3, .int s0_26), (0, .ref (a_o 0)), (1, .int v1_26), (2, .int v2_26)]) hx hb dX6_categoryOf_26 rfl hl (by decide) rfl (fun ls hl => ?_)
    refine lv_iload_n hx hb dX6_categoryOf_27 rfl (lv_at hl 0 rfl) ?_
    refine lv_if_eq (tgt := 44) hx hb dX6_categoryOf_28 (by decide) (fun c2 => ?_) (fun c2 => ?_)
    · have h := ite_t c2 h
      refine lv_iconst (v := (-1)) hx hb dX6_categoryOf_44 (by decide) ?_
      obtain rfl := ret1 h
      rw [hQ]
      exact g_reti hx hb hr hlk hW dX6_categoryOf_45
    · have h := ite_f c2 h
      refine lv_aload_n hx hb dX6_categoryOf_31 rfl (lv_at hl 1 rfl) ?_
      refine fg_X6_25 (v := .ref (a_o 4)) hx hb hts hown hK hW 0 rfl rfl dX6_categoryOf_32 ?_
      refine lv_iload_n hx hb dX6_categoryOf_35 rfl (lv_at hl 2 rfl) ?_
      refine lv_iconst (v := 4) hx hb dX6_categoryOf_36 (by decide) ?_
      refine lv_imul hx hb dX6_categoryOf_37 ?_
      refine lv_iload_n hx hb dX6_categoryOf_38 rfl (lv_at hl 3 rfl) ?_
      refine lv_iadd hx hb dX6_categoryOf_39 ?_
      obtain ⟨g3, h⟩ := grd_s h
      refine g_iald hx hb hK hW 4 rfl g3 dX6_categoryOf_40 ?_
      refine lv_goto (tgt := 45) hx hb dX6_categoryOf_41 (by decide) ?_
      obtain rfl := ret1 h
      rw [hQ]
      exact g_reti hx hb hr hlk hW dX6_categoryOf_45
  have J25 : ∀ (v1_25 : Int32) (v2_25 : Int32) (H : Heap) (locs : List Loc) (ls : Array Slot), Wd D A s.heap (oc_X6 T a_o x_o ++ Z) H locs → lv_has ls 4 [(0, .ref (a_o 0)), (1, .int v1_25), (2, .int v2_25)] → f_X6_categoryOf_J25 x_o v1_25 v2_25 = some r → W p l e (rmd 0) s m args below meth c H locs 0 0 Q (F0 m 25 ls []) := by
    intro v1_25 v2_25 H locs ls hW hl h
    rw [f_X6_categoryOf_J25] at h
    refine lv_iconst (v := 0) hx hb dX6_categoryOf_25 (by decide) ?_
    exact J26 _ _ _ H locs ls hW (lv_sub hl [0, 1, 2] rfl) h
  rw [f_X6_categoryOf] at h
  suffices hm : ∀ (H : Heap) (locs : List Loc), Wd D A s.heap (oc_X6 T a_o x_o ++ Z) H locs → W p l e (rmd 0) s m args below meth c H locs 0 0 Q (F0 m 0 ls []) from hm _ _ hW
  intro H locs hW
  refine lv_iload_n hx hb dX6_categoryOf_0 rfl (lv_at hl 1 rfl) ?_
  refine lv_if_lt (tgt := 25) hx hb dX6_categoryOf_1 (by decide) (fun c1 => ?_) (fun c1 => ?_)
  · have h := ite_t c1 h
    exact J25 _ _ H locs ls hW (lv_sub hl [0, 1, 2] rfl) h
  · have h := ite_f c1 h
    refine lv_iload_n hx hb dX6_categoryOf_4 rfl (lv_at hl 1 rfl) ?_
    refine lv_aload_n hx hb dX6_categoryOf_5 rfl (lv_at hl 0 rfl) ?_
    refine fg_X6_9 (v := .int (x_o 0 0)) hx hb hts hown hK hW 0 rfl rfl dX6_categoryOf_6 ?_
    refine lv_icmp_ge (tgt := 25) hx hb dX6_categoryOf_9 (by decide) (fun c4 => ?_) (fun c4 => ?_)
    · have h := ite_t c4 h
      exact J25 _ _ H locs ls hW (lv_sub hl [0, 1, 2] rfl) h
    · have h := ite_f c4 h
      refine lv_iload_n hx hb dX6_categoryOf_12 rfl (lv_at hl 2 rfl) ?_
      refine lv_if_lt (tgt := 25) hx hb dX6_categoryOf_13 (by decide) (fun c5 => ?_) (fun c5 => ?_)
      · have h := ite_t c5 h
        exact J25 _ _ H locs ls hW (lv_sub hl [0, 1, 2] rfl) h
      · have h := ite_f c5 h
        refine lv_iload_n hx hb dX6_categoryOf_16 rfl (lv_at hl 2 rfl) ?_
        refine lv_iconst (v := 4) hx hb dX6_categoryOf_17 (by decide) ?_
        refine lv_icmp_ge (tgt := 25) hx hb dX6_categoryOf_18 (by decide) (fun c6 => ?_) (fun c6 => ?_)
        · have h := ite_t c6 h
          exact J25 _ _ H locs ls hW (lv_sub hl [0, 1, 2] rfl) h
        · have h := ite_f c6 h
          refine lv_iconst (v := 1) hx hb dX6_categoryOf_21 (by decide) ?_
          refine lv_goto (tgt := 26) hx hb dX6_categoryOf_22 (by decide) ?_
          exact J26 _ _ _ H locs ls hW (lv_sub hl [0, 1, 2] rfl) h
set_option maxHeartbeats 4000000 in
set_option maxRecDepth 100000 in
theorem c_X4_readWord (l : Launch) (D : va_G) (T : Nat → ClassId) (A : Nat → Prop) (a_q1 : Nat → Nat) (a_q1c : Nat → Nat) (Z : va_W) (hac_q1 : a_q1 106 = a_q1c 0) (x_q1 : Ob) (x_q1c : Ob) (p2 : Int32) (x_q1c9 : Ob) (h : f_X4_readWord x_q1 x_q1c p2 = some x_q1c9) : Met l yX4_readWord (Cond.code yX4_readWord cX4_readWord 5 none :: wsL_law) (rmd 1) (Pg D T A (oc_X6 T a_q1 x_q1 ++ (oc_X0 T a_q1c x_q1c ++ Z)) [.ref (a_q1 0), .int p2]) (Qgv D A (oc_X6 T a_q1 x_q1 ++ (oc_X0 T a_q1c x_q1c9 ++ Z))) 0 0 A := by
  refine Met.ofW (cc := cX4_readWord) (maxL := 5) (ret := none) (by decide +kernel) rfl ?_
  intro p e s m args below meth c s₁ B hml hv
  obtain ⟨ha, hP, hK, hD, hN⟩ := hv
  have hx := B.exec
  have hb := B.bytes
  have hr := B.returns
  have hlk := B.notSynchronized
  have hts : ∀ w ∈ wsL_law, w.before args s = true := fun w hw => atoms_spec B.pre w (List.mem_cons_of_mem _ hw)
  have hown : s.vm.findClass RX4 = some m.cls := findClass_of_methodNamed B.named
  have hW : Wd D A s.heap (oc_X6 T a_q1 x_q1 ++ (oc_X0 T a_q1c x_q1c ++ Z)) s.heap [] := ⟨hP, hD, va_S.rf⟩
  have hl := lv_entry [.ref (a_q1 0), .int p2] (n := 5) (Nat.le_of_ble_eq_true rfl)
  refine W.eq (en_eq ha) ?_
  generalize (lg_sl [.ref (a_q1 0), .int p2] ++ List.replicate (5 - (lg_sl [.ref (a_q1 0), .int p2]).length) Slot.unset).toArray = ls at hl ⊢
  have hl : lv_has ls 5 [(0, .ref (a_q1 0)), (1, .int p2)] := hl
  clear hP hD B ha
  obtain ⟨Q, hQ⟩ : ∃ Q, Q = MQ below (Qgv D A (oc_X6 T a_q1 x_q1 ++ (oc_X0 T a_q1c x_q1c9 ++ Z))) args s 0 0 A := ⟨_, rfl⟩
  rw [← hQ]
  change W p l e (rmd 1) s m args below meth c s.heap [] 0 0 Q (F0 m 0 ls [])
  have L2 : ∀ (n : Nat) (x_q1c_2 : Ob) (v1_2 : Int32) (v2_2 : Int32) (H : Heap) (locs : List Loc) (ls : Array Slot) (o2_2r : Int32) (y_q1c_2r : Ob), Wd D A s.heap (oc_X6 T a_q1 x_q1 ++ (oc_X0 T a_q1c x_q1c_2 ++ Z)) H locs → lv_has ls 5 [(0, .ref (a_q1 0)), (1, .int v1_2), (2, .int v2_2)] → f_X4_readWord_L2 n x_q1 x_q1c_2 v1_2 v2_2 = some (o2_2r, y_q1c_2r) → (∀ (H : Heap) (locs : List Loc) (ls : Array Slot), Wd D A s.heap (oc_X6 T a_q1 x_q1 ++ (oc_X0 T a_q1c y_q1c_2r ++ Z)) H locs → lv_has ls 5 [] → W p l e (rmd 1) s m args below meth c H locs 0 0 Q (F0 m 64 ls [])) → W p l e (rmd 1) s m args below meth c H locs 0 0 Q (F0 m 2 ls []) := by
    intro n
    induction n with
    | zero =>
      intro x_q1c_2 v1_2 v2_2 H locs ls o2_2r y_q1c_2r hW hl h k1
      rw [f_X4_readWord_L2] at h
      cases h
    | succ n ih =>
      intro x_q1c_2 v1_2 v2_2 H locs ls o2_2r y_q1c_2r hW hl h k1
      rw [f_X4_readWord_L2] at h
      refine lv_iload_n hx hb dX4_readWord_2 rfl (lv_at hl 2 rfl) ?_
      refine lv_iconst (v := 4) hx hb dX4_readWord_3 (by decide) ?_
      refine lv_icmp_ge (tgt := 64) hx hb dX4_readWord_4 (by decide) (fun c1 => ?_) (fun c1 => ?_)
      · have h := ite_t c1 h
        obtain ⟨rfl, rfl⟩ := ret2 h
        exact k1 H locs ls hW (lv_sub hl [] rfl)
      · have h := ite_f c1 h
        refine lv_aload_n hx hb dX4_readWord_7 rfl (lv_at hl 0 rfl) ?_
        refine lv_iload_n hx hb dX4_readWord_8 rfl (lv_at hl 1 rfl) ?_
        refine lv_iload_n hx hb dX4_readWord_9 rfl (lv_at hl 2 rfl) ?_
        obtain ⟨r2, q3, h⟩ := bnd1_s h
        refine cl_X4_56 hx hb hml hown hts hK hN hW (c_X6_isLeft l D T A a_q1 (oc_X0 T a_q1c x_q1c_2 ++ Z) x_q1 v1_2 v2_2 r2 q3) ⟨Nat.le_of_ble_eq_true rfl, Nat.le_of_ble_eq_true rfl⟩ hl.1 rfl (Nat.le_of_ble_eq_true rfl) dX4_readWord_10 ⟨Nat.zero_le _, Nat.zero_le _⟩ rfl (fun H locs hW => ?_)
        refine lv_if_eq (tgt := 58) hx hb dX4_readWord_13 (by decide) (fun c4 => ?_) (fun c4 => ?_)
        · have h := ite_t c4 h
          obtain ⟨w2_5, ew2_5⟩ : ∃ y : Int32, y = v2_2 + 1 := ⟨_, rfl⟩
          have h := lb_at ew2_5 h
          refine lv_iinc (v := w2_5) (lv' := [(2, .int w2_5), (0, .ref (a_q1 0)), (1, .int v1_2)]) hx hb dX4_readWord_58 hl (k := 2) rfl (by rw [ew2_5]; rfl) (by decide) rfl (fun ls hl => ?_)
          refine lv_goto (tgt := 2) hx hb dX4_readWord_61 (by decide) ?_
          exact ih _ _ _ H locs ls _ _ hW (lv_sub hl [1, 2, 0] rfl) h k1
        · have h := ite_f c4 h
          refine lv_aload_n hx hb dX4_readWord_16 rfl (lv_at hl 0 rfl) ?_
          refine lv_iload_n hx hb dX4_readWord_17 rfl (lv_at hl 1 rfl) ?_
          refine lv_iload_n hx hb dX4_readWord_18 rfl (lv_at hl 2 rfl) ?_
          obtain ⟨r6, q7, h⟩ := bnd1_s h
          refine cl_X4_60 hx hb hml hown hts hK hN hW (c_X6_featuresAsGiven l D T A a_q1 (oc_X0 T a_q1c x_q1c_2 ++ Z) x_q1 v1_2 v2_2 r6 q7) ⟨Nat.le_of_ble_eq_true rfl, Nat.le_of_ble_eq_true rfl⟩ hl.1 rfl (Nat.le_of_ble_eq_true rfl) dX4_readWord_19 ⟨Nat.zero_le _, Nat.zero_le _⟩ rfl (fun H locs hW => ?_)
          refine lv_istore_n (lv' := [(3, .int r6), (0, .ref (a_q1 0)), (1, .int v1_2), (2, .int v2_2)]) hx hb dX4_readWord_22 rfl hl (by decide) rfl (fun ls hl => ?_)
          refine lv_aload_n hx hb dX4_readWord_23 rfl (lv_at hl 1 rfl) ?_
          refine fg_X4_9 (v := .ref (a_q1c 0)) hx hb hts hN hown hK hW 0 rfl (by rw [← hac_q1]; rfl) dX4_readWord_24 ?_
          refine lv_iload_n hx hb dX4_readWord_27 rfl (lv_at hl 2 rfl) ?_
          refine lv_iconst (v := 1) hx hb dX4_readWord_28 (by decide) ?_
          obtain ⟨r8, q9, h⟩ := bnd1_s h
          refine cl_X4_25 hx hb hml hown hts hK hN hW (c_X10_spanOf l D T A (oc_X6 T a_q1 x_q1 ++ (oc_X0 T a_q1c x_q1c_2 ++ Z)) v1_2 1 r8 q9) ⟨Nat.le_of_ble_eq_true rfl, Nat.le_of_ble_eq_true rfl⟩ hl.1 rfl (Nat.le_of_ble_eq_true rfl) dX4_readWord_29 ⟨Nat.zero_le _, Nat.zero_le _⟩ rfl (fun H locs hW => ?_)
          refine lv_aload_n hx hb dX4_readWord_32 rfl (lv_at hl 1 rfl) ?_
          refine lv_iload_n hx hb dX4_readWord_33 rfl (lv_at hl 2 rfl) ?_
          refine lv_iload_n hx hb dX4_readWord_34 rfl (lv_at hl 3 rfl) ?_
          obtain ⟨r10, q11, h⟩ := bnd1_s h
          refine cl_X4_63 hx hb hml hown hts hK hN hW (c_X6_categoryOf l D T A a_q1 (oc_X0 T a_q1c x_q1c_2 ++ Z) x_q1 v1_2 v2_2 r10 q11) ⟨Nat.le_of_ble_eq_true rfl, Nat.le_of_ble_eq_true rfl⟩ hl.1 rfl (Nat.le_of_ble_eq_true rfl) dX4_readWord_35 ⟨Nat.zero_le _, Nat.zero_le _⟩ rfl (fun H locs hW => ?_)
          refine lv_iload_n hx hb dX4_readWord_38 rfl (lv_at hl 0 rfl) ?_
          refine lv_iconst (v := 0) hx hb dX4_readWord_39 (by decide) ?_
          have hW := hW.perm pf1
          obtain ⟨r12, x_q1c13, q14, h⟩ := bnd2_s h
          refine cl_X4_66 hx hb hml hown hts hK hN hW (c_X0_add l D T A a_q1c (oc_X6 T a_q1 x_q1 ++ Z) x_q1c_2 r8 r10 r6 0 r12 x_q1c13 q14) ⟨Nat.le_of_ble_eq_true rfl, Nat.le_of_ble_eq_true rfl⟩ hl.1 rfl (Nat.le_of_ble_eq_true rfl) dX4_readWord_40 ⟨Nat.zero_le _, Nat.zero_le _⟩ rfl (fun H locs hW => ?_)
          have hW := hW.perm pf1
          refine lv_istore (lv' := [(4, .int r12), (3, .int r6), (0, .ref (a_q1 0)), (1, .int v1_2), (2, .int v2_2)]) hx hb dX4_readWord_43 hl (by decide) rfl (fun ls hl => ?_)
          refine lv_aload_n hx hb dX4_readWord_45 rfl (lv_at hl 2 rfl) ?_
          refine fg_X4_9 (v := .ref (a_q1c 0)) hx hb hts hN hown hK hW 0 rfl (by rw [← hac_q1]; rfl) dX4_readWord_46 ?_
          refine lv_iload hx hb dX4_readWord_49 (lv_at hl 0 rfl) ?_
          refine lv_iconst (v := (-1)) hx hb dX4_readWord_51 (by decide) ?_
          refine lv_iload_n hx hb dX4_readWord_52 rfl (lv_at hl 4 rfl) ?_
          refine lv_iconst (v := (-1)) hx hb dX4_readWord_53 (by decide) ?_
          refine lv_iconst (v := 0) hx hb dX4_readWord_54 (by decide) ?_
          have hW := hW.perm pf1
          obtain ⟨x_q1c15, q16, h⟩ := bnd1_s h
          refine cl_X4_70 hx hb hml hown hts hK hN hW (c_X0_tellUse l D T A a_q1c (oc_X6 T a_q1 x_q1 ++ Z) x_q1c13 r12 (-1) v2_2 (-1) 0 x_q1c15 q16) ⟨Nat.le_of_ble_eq_true rfl, Nat.le_of_ble_eq_true rfl⟩ hl.1 rfl (Nat.le_of_ble_eq_true rfl) dX4_readWord_55 ⟨Nat.zero_le _, Nat.zero_le _⟩ rfl (fun H locs hW => ?_)
          have hW := hW.perm pf1
          obtain ⟨w2_17, ew2_17⟩ : ∃ y : Int32, y = v2_2 + 1 := ⟨_, rfl⟩
          have h := lb_at ew2_17 h
          refine lv_iinc (v := w2_17) (lv' := [(2, .int w2_17), (4, .int r12), (3, .int r6), (0, .ref (a_q1 0)), (1, .int v1_2)]) hx hb dX4_readWord_58 hl (k := 4) rfl (by rw [ew2_17]; rfl) (by decide) rfl (fun ls hl => ?_)
          refine lv_goto (tgt := 2) hx hb dX4_readWord_61 (by decide) ?_
          exact ih _ _ _ H locs ls _ _ hW (lv_sub hl [3, 4, 0] rfl) h k1
  rw [f_X4_readWord] at h
  suffices hm : ∀ (H : Heap) (locs : List Loc), Wd D A s.heap (oc_X6 T a_q1 x_q1 ++ (oc_X0 T a_q1c x_q1c ++ Z)) H locs → W p l e (rmd 1) s m args below meth c H locs 0 0 Q (F0 m 0 ls []) from hm _ _ hW
  intro H locs hW
  refine lv_iconst (v := 0) hx hb dX4_readWord_0 (by decide) ?_
  refine lv_istore_n (lv' := [(2, .int 0), (0, .ref (a_q1 0)), (1, .int p2)]) hx hb dX4_readWord_1 rfl hl (by decide) rfl (fun ls hl => ?_)
  obtain ⟨o2_u18, y_q1c_u18, q19, h⟩ := bnd2_s h
  refine L2 200 _ _ _ H locs ls o2_u18 y_q1c_u18 hW (lv_sub hl [1, 2, 0] rfl) q19 (fun H locs ls hW hl => ?_)
  obtain rfl := ret1 h
  rw [hQ]
  exact g_retv hx hb hr hlk hW dX4_readWord_64
set_option maxHeartbeats 4000000 in
set_option maxRecDepth 100000 in
theorem c_X4_use (l : Launch) (D : va_G) (T : Nat → ClassId) (A : Nat → Prop) (a_q1 : Nat → Nat) (a_q3 : Nat → Nat) (Z : va_W)  (x_q1 : Ob) (x_q3 : Ob) (p2 : Int32) (p4 : Int32) (p5 : Int32) (p6 : Int32) (x_q19 : Ob) (x_q39 : Ob) (h : f_X4_use x_q1 x_q3 p2 p4 p5 p6 = some (x_q19, x_q39)) : Met l yX4_use (Cond.code yX4_use cX4_use 14 none :: wsL_law) (rmd 2) (Pg D T A (oc_X2 T a_q1 x_q1 ++ (oc_X0 T a_q3 x_q3 ++ Z)) [.ref (a_q1 0), .int p2, .ref (a_q3 0), .int p4, .int p5, .int p6]) (Qgv D A (oc_X2 T a_q1 x_q19 ++ (oc_X0 T a_q3 x_q39 ++ Z))) 0 0 A := by
  refine Met.ofW (cc := cX4_use) (maxL := 14) (ret := none) (by decide +kernel) rfl ?_
  intro p e s m args below meth c s₁ B hml hv
  obtain ⟨ha, hP, hK, hD, hN⟩ := hv
  have hx := B.exec
  have hb := B.bytes
  have hr := B.returns
  have hlk := B.notSynchronized
  have hts : ∀ w ∈ wsL_law, w.before args s = true := fun w hw => atoms_spec B.pre w (List.mem_cons_of_mem _ hw)
  have hown : s.vm.findClass RX4 = some m.cls := findClass_of_methodNamed B.named
  have hW : Wd D A s.heap (oc_X2 T a_q1 x_q1 ++ (oc_X0 T a_q3 x_q3 ++ Z)) s.heap [] := ⟨hP, hD, va_S.rf⟩
  have hl := lv_entry [.ref (a_q1 0), .int p2, .ref (a_q3 0), .int p4, .int p5, .int p6] (n := 14) (Nat.le_of_ble_eq_true rfl)
  refine W.eq (en_eq ha) ?_
  generalize (lg_sl [.ref (a_q1 0), .int p2, .ref (a_q3 0), .int p4, .int p5, .int p6] ++ List.replicate (14 - (lg_sl [.ref (a_q1 0), .int p2, .ref (a_q3 0), .int p4, .int p5, .int p6]).length) Slot.unset).toArray = ls at hl ⊢
  have hl : lv_has ls 14 [(0, .ref (a_q1 0)), (1, .int p2), (2, .ref (a_q3 0)), (3, .int p4), (4, .int p5), (5, .int p6)] := hl
  clear hP hD B ha
  obtain ⟨Q, hQ⟩ : ∃ Q, Q = MQ below (Qgv D A (oc_X2 T a_q1 x_q19 ++ (oc_X0 T a_q3 x_q39 ++ Z))) args s 0 0 A := ⟨_, rfl⟩
  rw [← hQ]
  change W p l e (rmd 2) s m args below meth c s.heap [] 0 0 Q (F0 m 0 ls [])
  have J88 : ∀ (x_q1_88 : Ob) (x_q3_88 : Ob) (v1_88 : Int32) (v3_88 : Int32) (v4_88 : Int32) (v5_88 : Int32) (v6_88 : Int32) (v7_88 : Int32) (v8_88 : Int32) (v9_88 : Int32) (v10_88 : Int32) (s0_88 : Int32) (H : Heap) (locs : List Loc) (ls : Array Slot) (code : Nat) (o10j : Int32) (y_q1j : Ob) (y_q3j : Ob), Wd D A s.heap (oc_X2 T a_q1 x_q1_88 ++ (oc_X0 T a_q3 x_q3_88 ++ Z)) H locs → lv_has ls 14 [(0, .ref (a_q1 0)), (1, .int v1_88), (2, .ref (a_q3 0)), (3, .int v3_88), (4, .int v4_88), (5, .int v5_88), (6, .int v6_88), (7, .int v7_88), (8, .int v8_88), (9, .int v9_88), (10, .int v10_88)] → f_X4_use_J88 x_q1_88 x_q3_88 v1_88 v3_88 v4_88 v5_88 v6_88 v7_88 v8_88 v9_88 v10_88 s0_88 = some (code, o10j, y_q1j, y_q3j) → (code = 0 → ∀ (H : Heap) (locs : List Loc) (ls : Array Slot), Wd D A s.heap (oc_X2 T a_q1 y_q1j ++ (oc_X0 T a_q3 y_q3j ++ Z)) H locs → lv_has ls 14 [(0, .ref (a_q1 0)), (1, .int v1_88), (2, .ref (a_q3 0)), (3, .int v3_88), (4, .int v4_88), (5, .int v5_88), (6, .int v6_88), (7, .int v7_88), (8, .int v8_88), (9, .int v9_88), (10, .int o10j)] → W p l e (rmd 2) s m args below meth c H locs 0 0 Q (F0 m 63 ls [])) → (code = 1 → ∀ (H : Heap) (locs : List Loc) (ls : Array Slot), Wd D A s.heap (oc_X2 T a_q1 y_q1j ++ (oc_X0 T a_q3 y_q3j ++ Z)) H locs → lv_has ls 14 [(0, .ref (a_q1 0)), (1, .int v1_88), (2, .ref (a_q3 0)), (3, .int v3_88), (4, .int v4_88), (5, .int v5_88), (6, .int v6_88), (7, .int v7_88), (8, .int v8_88)] → W p l e (rmd 2) s m args below meth c H locs 0 0 Q (F0 m 183 ls [])) → W p l e (rmd 2) s m args below meth c H locs 0 0 Q (F0 m 88 ls [.int s0_88]) := by
    intro x_q1_88 x_q3_88 v1_88 v3_88 v4_88 v5_88 v6_88 v7_88 v8_88 v9_88 v10_88 s0_88 H locs ls code o10j y_q1j y_q3j hW hl h k0 k1
    rw [f_X4_use_J88] at h
    refine lv_istore (lv' := [(11, .int s0_88), (0, .ref (a_q1 0)), (1, .int v1_88), (2, .ref (a_q3 0)), (3, .int v3_88), (4, .int v4_88), (5, .int v5_88), (6, .int v6_88), (7, .int v7_88), (8, .int v8_88), (9, .int v9_88), (10, .int v10_88)]) hx hb dX4_use_88 hl (by decide) rfl (fun ls hl => ?_)
    refine lv_aload_n hx hb dX4_use_90 rfl (lv_at hl 3 rfl) ?_
    refine lv_iload hx hb dX4_use_91 (lv_at hl 0 rfl) ?_
    have hW := hW.perm pf1
    obtain ⟨r16, q17, h⟩ := bnd1_s h
    refine cl_X4_77 hx hb hml hown hts hK hN hW (c_X0_categoryOf l D T A a_q3 (oc_X2 T a_q1 x_q1_88 ++ Z) x_q3_88 s0_88 r16 q17) ⟨Nat.le_of_ble_eq_true rfl, Nat.le_of_ble_eq_true rfl⟩ hl.1 rfl (Nat.le_of_ble_eq_true rfl) dX4_use_93 ⟨Nat.zero_le _, Nat.zero_le _⟩ rfl (fun H locs hW => ?_)
    have hW := hW.perm pf1
    refine lv_aload_n hx hb dX4_use_96 rfl (lv_at hl 1 rfl) ?_
    refine lv_iload_n hx hb dX4_use_97 rfl (lv_at hl 2 rfl) ?_
    obtain ⟨r18, q19, h⟩ := bnd1_s h
    refine cl_X4_38 hx hb hml hown hts hK hN hW (c_X2_rightOf l D T A a_q1 (oc_X0 T a_q3 x_q3_88 ++ Z) x_q1_88 v1_88 r18 q19) ⟨Nat.le_of_ble_eq_true rfl, Nat.le_of_ble_eq_true rfl⟩ hl.1 rfl (Nat.le_of_ble_eq_true rfl) dX4_use_98 ⟨Nat.zero_le _, Nat.zero_le _⟩ rfl (fun H locs hW => ?_)
    refine lv_icmp_ne (tgt := 177) hx hb dX4_use_101 (by decide) (fun c20 => ?_) (fun c20 => ?_)
    · have h := ite_f c20 h
      obtain ⟨w10_21, ew10_21⟩ : ∃ y : Int32, y = v10_88 + 1 := ⟨_, rfl⟩
      have h := lb_at ew10_21 h
      refine lv_iinc (v := w10_21) (lv' := [(10, .int w10_21), (11, .int s0_88), (0, .ref (a_q1 0)), (1, .int v1_88), (2, .ref (a_q3 0)), (3, .int v3_88), (4, .int v4_88), (5, .int v5_88), (6, .int v6_88), (7, .int v7_88), (8, .int v8_88), (9, .int v9_88)]) hx hb dX4_use_177 hl (k := 11) rfl (by rw [ew10_21]; rfl) (by decide) rfl (fun ls hl => ?_)
      refine lv_goto (tgt := 63) hx hb dX4_use_180 (by decide) ?_
      obtain ⟨rfl, rfl, rfl, rfl⟩ := ret4 h
      exact k0 rfl H locs ls hW (lv_sub hl [2, 3, 4, 5, 6, 7, 8, 9, 10, 11, 0] rfl)
    · have h := ite_t c20 h
      refine lv_aload_n hx hb dX4_use_104 rfl (lv_at hl 1 rfl) ?_
      refine lv_iload_n hx hb dX4_use_105 rfl (lv_at hl 2 rfl) ?_
      refine lv_aload_n hx hb dX4_use_106 rfl (lv_at hl 3 rfl) ?_
      refine lv_iload hx hb dX4_use_107 (lv_at hl 10 rfl) ?_
      have hW := hW.perm pf1
      obtain ⟨r22, q23, h⟩ := bnd1_s h
      refine cl_X4_82 hx hb hml hown hts hK hN hW (c_X0_featuresOf l D T A a_q3 (oc_X2 T a_q1 x_q1_88 ++ Z) x_q3_88 v9_88 r22 q23) ⟨Nat.le_of_ble_eq_true rfl, Nat.le_of_ble_eq_true rfl⟩ hl.1 rfl (Nat.le_of_ble_eq_true rfl) dX4_use_109 ⟨Nat.zero_le _, Nat.zero_le _⟩ rfl (fun H locs hW => ?_)
      have hW := hW.perm pf1
      refine lv_aload_n hx hb dX4_use_112 rfl (lv_at hl 3 rfl) ?_
      refine lv_iload hx hb dX4_use_113 (lv_at hl 0 rfl) ?_
      have hW := hW.perm pf1
      obtain ⟨r24, q25, h⟩ := bnd1_s h
      refine cl_X4_82 hx hb hml hown hts hK hN hW (c_X0_featuresOf l D T A a_q3 (oc_X2 T a_q1 x_q1_88 ++ Z) x_q3_88 s0_88 r24 q25) ⟨Nat.le_of_ble_eq_true rfl, Nat.le_of_ble_eq_true rfl⟩ hl.1 rfl (Nat.le_of_ble_eq_true rfl) dX4_use_115 ⟨Nat.zero_le _, Nat.zero_le _⟩ rfl (fun H locs hW => ?_)
      have hW := hW.perm pf1
      obtain ⟨r26, x_q127, q28, h⟩ := bnd2_s h
      refine cl_X4_85 hx hb hml hown hts hK hN hW (c_X2_unify l D T A a_q1 (oc_X0 T a_q3 x_q3_88 ++ Z) x_q1_88 v1_88 r22 r24 r26 x_q127 q28) ⟨Nat.le_of_ble_eq_true rfl, Nat.le_of_ble_eq_true rfl⟩ hl.1 rfl (Nat.le_of_ble_eq_true rfl) dX4_use_118 ⟨Nat.zero_le _, Nat.zero_le _⟩ rfl (fun H locs hW => ?_)
      refine lv_if_eq (tgt := 177) hx hb dX4_use_121 (by decide) (fun c29 => ?_) (fun c29 => ?_)
      · have h := ite_t c29 h
        obtain ⟨w10_30, ew10_30⟩ : ∃ y : Int32, y = v10_88 + 1 := ⟨_, rfl⟩
        have h := lb_at ew10_30 h
        refine lv_iinc (v := w10_30) (lv' := [(10, .int w10_30), (11, .int s0_88), (0, .ref (a_q1 0)), (1, .int v1_88), (2, .ref (a_q3 0)), (3, .int v3_88), (4, .int v4_88), (5, .int v5_88), (6, .int v6_88), (7, .int v7_88), (8, .int v8_88), (9, .int v9_88)]) hx hb dX4_use_177 hl (k := 11) rfl (by rw [ew10_30]; rfl) (by decide) rfl (fun ls hl => ?_)
        refine lv_goto (tgt := 63) hx hb dX4_use_180 (by decide) ?_
        obtain ⟨rfl, rfl, rfl, rfl⟩ := ret4 h
        exact k0 rfl H locs ls hW (lv_sub hl [2, 3, 4, 5, 6, 7, 8, 9, 10, 11, 0] rfl)
      · have h := ite_f c29 h
        refine lv_aload_n hx hb dX4_use_124 rfl (lv_at hl 3 rfl) ?_
        refine lv_iload hx hb dX4_use_125 (lv_at hl 10 rfl) ?_
        have hW := hW.perm pf1
        obtain ⟨r31, q32, h⟩ := bnd1_s h
        refine cl_X4_89 hx hb hml hown hts hK hN hW (c_X0_priceOf l D T A a_q3 (oc_X2 T a_q1 x_q127 ++ Z) x_q3_88 v9_88 r31 q32) ⟨Nat.le_of_ble_eq_true rfl, Nat.le_of_ble_eq_true rfl⟩ hl.1 rfl (Nat.le_of_ble_eq_true rfl) dX4_use_127 ⟨Nat.zero_le _, Nat.zero_le _⟩ rfl (fun H locs hW => ?_)
        have hW := hW.perm pf1
        refine lv_aload_n hx hb dX4_use_130 rfl (lv_at hl 3 rfl) ?_
        refine lv_iload hx hb dX4_use_131 (lv_at hl 0 rfl) ?_
        have hW := hW.perm pf1
        obtain ⟨r33, q34, h⟩ := bnd1_s h
        refine cl_X4_89 hx hb hml hown hts hK hN hW (c_X0_priceOf l D T A a_q3 (oc_X2 T a_q1 x_q127 ++ Z) x_q3_88 s0_88 r33 q34) ⟨Nat.le_of_ble_eq_true rfl, Nat.le_of_ble_eq_true rfl⟩ hl.1 rfl (Nat.le_of_ble_eq_true rfl) dX4_use_133 ⟨Nat.zero_le _, Nat.zero_le _⟩ rfl (fun H locs hW => ?_)
        have hW := hW.perm pf1
        refine lv_iadd hx hb dX4_use_136 ?_
        refine lv_aload_n hx hb dX4_use_137 rfl (lv_at hl 1 rfl) ?_
        refine fg_X4_92 (v := .int (x_q127 13 0)) hx hb hts hN hown hK hW 0 rfl rfl dX4_use_138 ?_
        refine lv_iadd hx hb dX4_use_141 ?_
        refine lv_topi (fun w12_35 ew12_35 => ?_)
        have h := lb_at ew12_35 h
        refine lv_istore (lv' := [(12, .int w12_35), (11, .int s0_88), (0, .ref (a_q1 0)), (1, .int v1_88), (2, .ref (a_q3 0)), (3, .int v3_88), (4, .int v4_88), (5, .int v5_88), (6, .int v6_88), (7, .int v7_88), (8, .int v8_88), (9, .int v9_88), (10, .int v10_88)]) hx hb dX4_use_142 hl (by decide) rfl (fun ls hl => ?_)
        refine lv_aload_n hx hb dX4_use_144 rfl (lv_at hl 4 rfl) ?_
        refine lv_iload_n hx hb dX4_use_145 rfl (lv_at hl 5 rfl) ?_
        refine lv_aload_n hx hb dX4_use_146 rfl (lv_at hl 2 rfl) ?_
        refine lv_iload_n hx hb dX4_use_147 rfl (lv_at hl 3 rfl) ?_
        obtain ⟨r36, q37, h⟩ := bnd1_s h
        refine cl_X4_95 hx hb hml hown hts hK hN hW (c_X2_parentOf l D T A a_q1 (oc_X0 T a_q3 x_q3_88 ++ Z) x_q127 v1_88 r36 q37) ⟨Nat.le_of_ble_eq_true rfl, Nat.le_of_ble_eq_true rfl⟩ hl.1 rfl (Nat.le_of_ble_eq_true rfl) dX4_use_148 ⟨Nat.zero_le _, Nat.zero_le _⟩ rfl (fun H locs hW => ?_)
        refine lv_aload_n hx hb dX4_use_151 rfl (lv_at hl 2 rfl) ?_
        obtain ⟨r38, q39, h⟩ := bnd1_s h
        refine cl_X4_98 hx hb hml hown hts hK hN hW (c_X2_parentFeatures l D T A a_q1 (oc_X0 T a_q3 x_q3_88 ++ Z) x_q127 r38 q39) ⟨Nat.le_of_ble_eq_true rfl, Nat.le_of_ble_eq_true rfl⟩ hl.1 rfl (Nat.le_of_ble_eq_true rfl) dX4_use_152 ⟨Nat.zero_le _, Nat.zero_le _⟩ rfl (fun H locs hW => ?_)
        refine lv_iload hx hb dX4_use_155 (lv_at hl 0 rfl) ?_
        have hW := hW.perm pf1
        obtain ⟨r40, x_q341, q42, h⟩ := bnd2_s h
        refine cl_X4_66 hx hb hml hown hts hK hN hW (c_X0_add l D T A a_q3 (oc_X2 T a_q1 x_q127 ++ Z) x_q3_88 v3_88 r36 r38 w12_35 r40 x_q341 q42) ⟨Nat.le_of_ble_eq_true rfl, Nat.le_of_ble_eq_true rfl⟩ hl.1 rfl (Nat.le_of_ble_eq_true rfl) dX4_use_157 ⟨Nat.zero_le _, Nat.zero_le _⟩ rfl (fun H locs hW => ?_)
        have hW := hW.perm pf1
        refine lv_istore (lv' := [(13, .int r40), (12, .int w12_35), (11, .int s0_88), (0, .ref (a_q1 0)), (1, .int v1_88), (2, .ref (a_q3 0)), (3, .int v3_88), (4, .int v4_88), (5, .int v5_88), (6, .int v6_88), (7, .int v7_88), (8, .int v8_88), (9, .int v9_88), (10, .int v10_88)]) hx hb dX4_use_160 hl (by decide) rfl (fun ls hl => ?_)
        refine lv_aload_n hx hb dX4_use_162 rfl (lv_at hl 5 rfl) ?_
        refine lv_iload hx hb dX4_use_163 (lv_at hl 0 rfl) ?_
        refine lv_iload_n hx hb dX4_use_165 rfl (lv_at hl 4 rfl) ?_
        refine lv_iload hx hb dX4_use_166 (lv_at hl 12 rfl) ?_
        refine lv_iload hx hb dX4_use_168 (lv_at hl 2 rfl) ?_
        refine lv_aload_n hx hb dX4_use_170 rfl (lv_at hl 3 rfl) ?_
        refine fg_X4_102 (v := .int (x_q127 14 0)) hx hb hts hN hown hK hW 0 rfl rfl dX4_use_171 ?_
        have hW := hW.perm pf1
        obtain ⟨x_q343, q44, h⟩ := bnd1_s h
        refine cl_X4_70 hx hb hml hown hts hK hN hW (c_X0_tellUse l D T A a_q3 (oc_X2 T a_q1 x_q127 ++ Z) x_q341 r40 v1_88 v9_88 s0_88 (x_q127 14 0) x_q343 q44) ⟨Nat.le_of_ble_eq_true rfl, Nat.le_of_ble_eq_true rfl⟩ hl.1 rfl (Nat.le_of_ble_eq_true rfl) dX4_use_174 ⟨Nat.zero_le _, Nat.zero_le _⟩ rfl (fun H locs hW => ?_)
        have hW := hW.perm pf1
        obtain ⟨w10_45, ew10_45⟩ : ∃ y : Int32, y = v10_88 + 1 := ⟨_, rfl⟩
        have h := lb_at ew10_45 h
        refine lv_iinc (v := w10_45) (lv' := [(10, .int w10_45), (13, .int r40), (12, .int w12_35), (11, .int s0_88), (0, .ref (a_q1 0)), (1, .int v1_88), (2, .ref (a_q3 0)), (3, .int v3_88), (4, .int v4_88), (5, .int v5_88), (6, .int v6_88), (7, .int v7_88), (8, .int v8_88), (9, .int v9_88)]) hx hb dX4_use_177 hl (k := 13) rfl (by rw [ew10_45]; rfl) (by decide) rfl (fun ls hl => ?_)
        refine lv_goto (tgt := 63) hx hb dX4_use_180 (by decide) ?_
        obtain ⟨rfl, rfl, rfl, rfl⟩ := ret4 h
        exact k0 rfl H locs ls hW (lv_sub hl [4, 5, 6, 7, 8, 9, 10, 11, 12, 13, 0] rfl)
  have L63 : ∀ (n : Nat) (x_q1_63 : Ob) (x_q3_63 : Ob) (v1_63 : Int32) (v3_63 : Int32) (v4_63 : Int32) (v5_63 : Int32) (v6_63 : Int32) (v7_63 : Int32) (v8_63 : Int32) (v9_63 : Int32) (v10_63 : Int32) (H : Heap) (locs : List Loc) (ls : Array Slot) (o10_63r : Int32) (y_q1_63r : Ob) (y_q3_63r : Ob), Wd D A s.heap (oc_X2 T a_q1 x_q1_63 ++ (oc_X0 T a_q3 x_q3_63 ++ Z)) H locs → lv_has ls 14 [(0, .ref (a_q1 0)), (1, .int v1_63), (2, .ref (a_q3 0)), (3, .int v3_63), (4, .int v4_63), (5, .int v5_63), (6, .int v6_63), (7, .int v7_63), (8, .int v8_63), (9, .int v9_63), (10, .int v10_63)] → f_X4_use_L63 n x_q1_63 x_q3_63 v1_63 v3_63 v4_63 v5_63 v6_63 v7_63 v8_63 v9_63 v10_63 = some (o10_63r, y_q1_63r, y_q3_63r) → (∀ (H : Heap) (locs : List Loc) (ls : Array Slot), Wd D A s.heap (oc_X2 T a_q1 y_q1_63r ++ (oc_X0 T a_q3 y_q3_63r ++ Z)) H locs → lv_has ls 14 [(0, .ref (a_q1 0)), (1, .int v1_63), (2, .ref (a_q3 0)), (3, .int v3_63), (4, .int v4_63), (5, .int v5_63), (6, .int v6_63), (7, .int v7_63), (8, .int v8_63)] → W p l e (rmd 2) s m args below meth c H locs 0 0 Q (F0 m 183 ls [])) → W p l e (rmd 2) s m args below meth c H locs 0 0 Q (F0 m 63 ls []) := by
    intro n
    induction n with
    | zero =>
      intro x_q1_63 x_q3_63 v1_63 v3_63 v4_63 v5_63 v6_63 v7_63 v8_63 v9_63 v10_63 H locs ls o10_63r y_q1_63r y_q3_63r hW hl h k1
      rw [f_X4_use_L63] at h
      cases h
    | succ n ih =>
      intro x_q1_63 x_q3_63 v1_63 v3_63 v4_63 v5_63 v6_63 v7_63 v8_63 v9_63 v10_63 H locs ls o10_63r y_q1_63r y_q3_63r hW hl h k1
      rw [f_X4_use_L63] at h
      refine lv_iload hx hb dX4_use_63 (lv_at hl 10 rfl) ?_
      refine lv_iload hx hb dX4_use_65 (lv_at hl 7 rfl) ?_
      refine lv_icmp_ge (tgt := 183) hx hb dX4_use_67 (by decide) (fun c14 => ?_) (fun c14 => ?_)
      · have h := ite_t c14 h
        obtain ⟨rfl, rfl, rfl⟩ := ret3 h
        exact k1 H locs ls hW (lv_sub hl [0, 1, 2, 3, 4, 5, 6, 7, 8] rfl)
      · have h := ite_f c14 h
        refine lv_iload hx hb dX4_use_70 (lv_at hl 5 rfl) ?_
        refine lv_iconst (v := (-1)) hx hb dX4_use_72 (by decide) ?_
        refine lv_icmp_ne (tgt := 80) hx hb dX4_use_73 (by decide) (fun c15 => ?_) (fun c15 => ?_)
        · have h := ite_f c15 h
          refine lv_iload hx hb dX4_use_80 (lv_at hl 5 rfl) ?_
          refine lv_bipush (v := 8) hx hb dX4_use_82 (by decide) ?_
          refine lv_imul hx hb dX4_use_84 ?_
          refine lv_iload hx hb dX4_use_85 (lv_at hl 10 rfl) ?_
          refine lv_iadd hx hb dX4_use_87 ?_
          obtain ⟨code47, o10_t46, y_q1_t46, y_q3_t46, q48, h⟩ := bnd4_s h
          refine J88 _ _ _ _ _ _ _ _ _ _ _ _ H locs ls code47 o10_t46 y_q1_t46 y_q3_t46 hW (lv_sub hl [0, 1, 2, 3, 4, 5, 6, 7, 8, 9, 10] rfl) q48 (fun hc H locs ls hW hl => ?_) (fun hc H locs ls hW hl => ?_)
          · have h := ite_t hc h
            exact ih _ _ _ _ _ _ _ _ _ _ _ H locs ls _ _ _ hW (lv_sub hl [0, 1, 2, 3, 4, 5, 6, 7, 8, 9, 10] rfl) h k1
          · have h := ite_f (by rw [hc]; decide) h
            obtain ⟨rfl, rfl, rfl⟩ := ret3 h
            exact k1 H locs ls hW hl
        · have h := ite_t c15 h
          refine lv_iconst (v := (-1)) hx hb dX4_use_76 (by decide) ?_
          refine lv_goto (tgt := 88) hx hb dX4_use_77 (by decide) ?_
          obtain ⟨code50, o10_t49, y_q1_t49, y_q3_t49, q51, h⟩ := bnd4_s h
          refine J88 _ _ _ _ _ _ _ _ _ _ _ _ H locs ls code50 o10_t49 y_q1_t49 y_q3_t49 hW (lv_sub hl [0, 1, 2, 3, 4, 5, 6, 7, 8, 9, 10] rfl) q51 (fun hc H locs ls hW hl => ?_) (fun hc H locs ls hW hl => ?_)
          · have h := ite_t hc h
            exact ih _ _ _ _ _ _ _ _ _ _ _ H locs ls _ _ _ hW (lv_sub hl [0, 1, 2, 3, 4, 5, 6, 7, 8, 9, 10] rfl) h k1
          · have h := ite_f (by rw [hc]; decide) h
            obtain ⟨rfl, rfl, rfl⟩ := ret3 h
            exact k1 H locs ls hW hl
  have L29 : ∀ (n : Nat) (x_q1_29 : Ob) (x_q3_29 : Ob) (v1_29 : Int32) (v3_29 : Int32) (v4_29 : Int32) (v5_29 : Int32) (v6_29 : Int32) (v7_29 : Int32) (v8_29 : Int32) (H : Heap) (locs : List Loc) (ls : Array Slot) (o8_29r : Int32) (y_q1_29r : Ob) (y_q3_29r : Ob), Wd D A s.heap (oc_X2 T a_q1 x_q1_29 ++ (oc_X0 T a_q3 x_q3_29 ++ Z)) H locs → lv_has ls 14 [(0, .ref (a_q1 0)), (1, .int v1_29), (2, .ref (a_q3 0)), (3, .int v3_29), (4, .int v4_29), (5, .int v5_29), (6, .int v6_29), (7, .int v7_29), (8, .int v8_29)] → f_X4_use_L29 n x_q1_29 x_q3_29 v1_29 v3_29 v4_29 v5_29 v6_29 v7_29 v8_29 = some (o8_29r, y_q1_29r, y_q3_29r) → (∀ (H : Heap) (locs : List Loc) (ls : Array Slot), Wd D A s.heap (oc_X2 T a_q1 y_q1_29r ++ (oc_X0 T a_q3 y_q3_29r ++ Z)) H locs → lv_has ls 14 [] → W p l e (rmd 2) s m args below meth c H locs 0 0 Q (F0 m 189 ls [])) → W p l e (rmd 2) s m args below meth c H locs 0 0 Q (F0 m 29 ls []) := by
    intro n
    induction n with
    | zero =>
      intro x_q1_29 x_q3_29 v1_29 v3_29 v4_29 v5_29 v6_29 v7_29 v8_29 H locs ls o8_29r y_q1_29r y_q3_29r hW hl h k1
      rw [f_X4_use_L29] at h
      cases h
    | succ n ih =>
      intro x_q1_29 x_q3_29 v1_29 v3_29 v4_29 v5_29 v6_29 v7_29 v8_29 H locs ls o8_29r y_q1_29r y_q3_29r hW hl h k1
      rw [f_X4_use_L29] at h
      refine lv_iload hx hb dX4_use_29 (lv_at hl 8 rfl) ?_
      refine lv_iload hx hb dX4_use_31 (lv_at hl 6 rfl) ?_
      refine lv_icmp_ge (tgt := 189) hx hb dX4_use_33 (by decide) (fun c6 => ?_) (fun c6 => ?_)
      · have h := ite_t c6 h
        obtain ⟨rfl, rfl, rfl⟩ := ret3 h
        exact k1 H locs ls hW (lv_sub hl [] rfl)
      · have h := ite_f c6 h
        refine lv_iload hx hb dX4_use_36 (lv_at hl 4 rfl) ?_
        refine lv_bipush (v := 8) hx hb dX4_use_38 (by decide) ?_
        refine lv_imul hx hb dX4_use_40 ?_
        refine lv_iload hx hb dX4_use_41 (lv_at hl 8 rfl) ?_
        refine lv_iadd hx hb dX4_use_43 ?_
        refine lv_topi (fun w9_7 ew9_7 => ?_)
        have h := lb_at ew9_7 h
        refine lv_istore (lv' := [(9, .int w9_7), (0, .ref (a_q1 0)), (1, .int v1_29), (2, .ref (a_q3 0)), (3, .int v3_29), (4, .int v4_29), (5, .int v5_29), (6, .int v6_29), (7, .int v7_29), (8, .int v8_29)]) hx hb dX4_use_44 hl (by decide) rfl (fun ls hl => ?_)
        refine lv_aload_n hx hb dX4_use_46 rfl (lv_at hl 3 rfl) ?_
        refine lv_iload hx hb dX4_use_47 (lv_at hl 0 rfl) ?_
        have hW := hW.perm pf1
        obtain ⟨r8, q9, h⟩ := bnd1_s h
        refine cl_X4_77 hx hb hml hown hts hK hN hW (c_X0_categoryOf l D T A a_q3 (oc_X2 T a_q1 x_q1_29 ++ Z) x_q3_29 w9_7 r8 q9) ⟨Nat.le_of_ble_eq_true rfl, Nat.le_of_ble_eq_true rfl⟩ hl.1 rfl (Nat.le_of_ble_eq_true rfl) dX4_use_49 ⟨Nat.zero_le _, Nat.zero_le _⟩ rfl (fun H locs hW => ?_)
        have hW := hW.perm pf1
        refine lv_aload_n hx hb dX4_use_52 rfl (lv_at hl 1 rfl) ?_
        refine lv_iload_n hx hb dX4_use_53 rfl (lv_at hl 2 rfl) ?_
        obtain ⟨r10, q11, h⟩ := bnd1_s h
        refine cl_X4_79 hx hb hml hown hts hK hN hW (c_X2_leftOf l D T A a_q1 (oc_X0 T a_q3 x_q3_29 ++ Z) x_q1_29 v1_29 r10 q11) ⟨Nat.le_of_ble_eq_true rfl, Nat.le_of_ble_eq_true rfl⟩ hl.1 rfl (Nat.le_of_ble_eq_true rfl) dX4_use_54 ⟨Nat.zero_le _, Nat.zero_le _⟩ rfl (fun H locs hW => ?_)
        refine lv_icmp_ne (tgt := 183) hx hb dX4_use_57 (by decide) (fun c12 => ?_) (fun c12 => ?_)
        · have h := ite_f c12 h
          obtain ⟨w8_13, ew8_13⟩ : ∃ y : Int32, y = v8_29 + 1 := ⟨_, rfl⟩
          have h := lb_at ew8_13 h
          refine lv_iinc (v := w8_13) (lv' := [(8, .int w8_13), (9, .int w9_7), (0, .ref (a_q1 0)), (1, .int v1_29), (2, .ref (a_q3 0)), (3, .int v3_29), (4, .int v4_29), (5, .int v5_29), (6, .int v6_29), (7, .int v7_29)]) hx hb dX4_use_183 hl (k := 9) rfl (by rw [ew8_13]; rfl) (by decide) rfl (fun ls hl => ?_)
          refine lv_goto (tgt := 29) hx hb dX4_use_186 (by decide) ?_
          exact ih _ _ _ _ _ _ _ _ _ H locs ls _ _ _ hW (lv_sub hl [2, 3, 4, 5, 6, 7, 8, 9, 0] rfl) h k1
        · have h := ite_t c12 h
          refine lv_iconst (v := 0) hx hb dX4_use_60 (by decide) ?_
          refine lv_istore (lv' := [(10, .int 0), (9, .int w9_7), (0, .ref (a_q1 0)), (1, .int v1_29), (2, .ref (a_q3 0)), (3, .int v3_29), (4, .int v4_29), (5, .int v5_29), (6, .int v6_29), (7, .int v7_29), (8, .int v8_29)]) hx hb dX4_use_61 hl (by decide) rfl (fun ls hl => ?_)
          obtain ⟨o10_u52, y_q1_u52, y_q3_u52, q53, h⟩ := bnd3_s h
          refine L63 200 _ _ _ _ _ _ _ _ _ _ _ H locs ls o10_u52 y_q1_u52 y_q3_u52 hW (lv_sub hl [2, 3, 4, 5, 6, 7, 8, 9, 10, 1, 0] rfl) q53 (fun H locs ls hW hl => ?_)
          obtain ⟨w8_54, ew8_54⟩ : ∃ y : Int32, y = v8_29 + 1 := ⟨_, rfl⟩
          have h := lb_at ew8_54 h
          refine lv_iinc (v := w8_54) (lv' := [(8, .int w8_54), (0, .ref (a_q1 0)), (1, .int v1_29), (2, .ref (a_q3 0)), (3, .int v3_29), (4, .int v4_29), (5, .int v5_29), (6, .int v6_29), (7, .int v7_29)]) hx hb dX4_use_183 hl (k := 8) rfl (by rw [ew8_54]; rfl) (by decide) rfl (fun ls hl => ?_)
          refine lv_goto (tgt := 29) hx hb dX4_use_186 (by decide) ?_
          exact ih _ _ _ _ _ _ _ _ _ H locs ls _ _ _ hW (lv_sub hl [1, 2, 3, 4, 5, 6, 7, 8, 0] rfl) h k1
  have J24 : ∀ (x_q1_24 : Ob) (x_q3_24 : Ob) (v1_24 : Int32) (v3_24 : Int32) (v4_24 : Int32) (v5_24 : Int32) (v6_24 : Int32) (s0_24 : Int32) (H : Heap) (locs : List Loc) (ls : Array Slot), Wd D A s.heap (oc_X2 T a_q1 x_q1_24 ++ (oc_X0 T a_q3 x_q3_24 ++ Z)) H locs → lv_has ls 14 [(0, .ref (a_q1 0)), (1, .int v1_24), (2, .ref (a_q3 0)), (3, .int v3_24), (4, .int v4_24), (5, .int v5_24), (6, .int v6_24)] → f_X4_use_J24 x_q1_24 x_q3_24 v1_24 v3_24 v4_24 v5_24 v6_24 s0_24 = some (x_q19, x_q39) → W p l e (rmd 2) s m args below meth c H locs 0 0 Q (F0 m 24 ls [.int s0_24]) := by
    intro x_q1_24 x_q3_24 v1_24 v3_24 v4_24 v5_24 v6_24 s0_24 H locs ls hW hl h
    rw [f_X4_use_J24] at h
    refine lv_istore (lv' := [(7, .int s0_24), (0, .ref (a_q1 0)), (1, .int v1_24), (2, .ref (a_q3 0)), (3, .int v3_24), (4, .int v4_24), (5, .int v5_24), (6, .int v6_24)]) hx hb dX4_use_24 hl (by decide) rfl (fun ls hl => ?_)
    refine lv_iconst (v := 0) hx hb dX4_use_26 (by decide) ?_
    refine lv_istore (lv' := [(8, .int 0), (7, .int s0_24), (0, .ref (a_q1 0)), (1, .int v1_24), (2, .ref (a_q3 0)), (3, .int v3_24), (4, .int v4_24), (5, .int v5_24), (6, .int v6_24)]) hx hb dX4_use_27 hl (by decide) rfl (fun ls hl => ?_)
    obtain ⟨o8_u55, y_q1_u55, y_q3_u55, q56, h⟩ := bnd3_s h
    refine L29 200 _ _ _ _ _ _ _ _ _ H locs ls o8_u55 y_q1_u55 y_q3_u55 hW (lv_sub hl [2, 3, 4, 5, 6, 7, 8, 1, 0] rfl) q56 (fun H locs ls hW hl => ?_)
    obtain ⟨rfl, rfl⟩ := ret2 h
    rw [hQ]
    exact g_retv hx hb hr hlk hW dX4_use_189
  rw [f_X4_use] at h
  suffices hm : ∀ (H : Heap) (locs : List Loc), Wd D A s.heap (oc_X2 T a_q1 x_q1 ++ (oc_X0 T a_q3 x_q3 ++ Z)) H locs → W p l e (rmd 2) s m args below meth c H locs 0 0 Q (F0 m 0 ls []) from hm _ _ hW
  intro H locs hW
  refine lv_aload_n hx hb dX4_use_0 rfl (lv_at hl 2 rfl) ?_
  refine lv_iload hx hb dX4_use_1 (lv_at hl 4 rfl) ?_
  have hW := hW.perm pf1
  obtain ⟨r1, q2, h⟩ := bnd1_s h
  refine cl_X4_74 hx hb hml hown hts hK hN hW (c_X0_edgesOf l D T A a_q3 (oc_X2 T a_q1 x_q1 ++ Z) x_q3 p5 r1 q2) ⟨Nat.le_of_ble_eq_true rfl, Nat.le_of_ble_eq_true rfl⟩ hl.1 rfl (Nat.le_of_ble_eq_true rfl) dX4_use_3 ⟨Nat.zero_le _, Nat.zero_le _⟩ rfl (fun H locs hW => ?_)
  have hW := hW.perm pf1
  refine lv_istore (lv' := [(6, .int r1), (0, .ref (a_q1 0)), (1, .int p2), (2, .ref (a_q3 0)), (3, .int p4), (4, .int p5), (5, .int p6)]) hx hb dX4_use_6 hl (by decide) rfl (fun ls hl => ?_)
  refine lv_iload hx hb dX4_use_8 (lv_at hl 6 rfl) ?_
  refine lv_iconst (v := (-1)) hx hb dX4_use_10 (by decide) ?_
  refine lv_icmp_ne (tgt := 18) hx hb dX4_use_11 (by decide) (fun c3 => ?_) (fun c3 => ?_)
  · have h := ite_f c3 h
    refine lv_aload_n hx hb dX4_use_18 rfl (lv_at hl 3 rfl) ?_
    refine lv_iload hx hb dX4_use_19 (lv_at hl 6 rfl) ?_
    have hW := hW.perm pf1
    obtain ⟨r4, q5, h⟩ := bnd1_s h
    refine cl_X4_74 hx hb hml hown hts hK hN hW (c_X0_edgesOf l D T A a_q3 (oc_X2 T a_q1 x_q1 ++ Z) x_q3 p6 r4 q5) ⟨Nat.le_of_ble_eq_true rfl, Nat.le_of_ble_eq_true rfl⟩ hl.1 rfl (Nat.le_of_ble_eq_true rfl) dX4_use_21 ⟨Nat.zero_le _, Nat.zero_le _⟩ rfl (fun H locs hW => ?_)
    have hW := hW.perm pf1
    exact J24 _ _ _ _ _ _ _ _ H locs ls hW (lv_sub hl [1, 2, 3, 4, 5, 6, 0] rfl) h
  · have h := ite_t c3 h
    refine lv_iconst (v := 1) hx hb dX4_use_14 (by decide) ?_
    refine lv_goto (tgt := 24) hx hb dX4_use_15 (by decide) ?_
    exact J24 _ _ _ _ _ _ _ _ H locs ls hW (lv_sub hl [1, 2, 3, 4, 5, 6, 0] rfl) h
set_option maxHeartbeats 4000000 in
set_option maxRecDepth 100000 in
theorem c_X4_read (l : Launch) (D : va_G) (T : Nat → ClassId) (A : Nat → Prop) (a_o : Nat → Nat) (a_q1 : Nat → Nat) (a_q2 : Nat → Nat) (a_q2c : Nat → Nat) (Z : va_W) (hac_q2 : a_q2 106 = a_q2c 0) (x_q1 : Ob) (x_q2 : Ob) (x_q2c : Ob) (x_q19 : Ob) (x_q29 : Ob) (x_q2c9 : Ob) (h : f_X4_read x_q1 x_q2 x_q2c = some (x_q19, x_q29, x_q2c9)) : Met l yX4_read (Cond.code yX4_read cX4_read 9 none :: wsL_law) (rmd 3) (Pg D T A (oc_X4 T a_o xz ++ (oc_X2 T a_q1 x_q1 ++ (oc_X6 T a_q2 x_q2 ++ (oc_X0 T a_q2c x_q2c ++ Z)))) [.ref (a_o 0), .ref (a_q1 0), .ref (a_q2 0)]) (Qgv D A (oc_X4 T a_o xz ++ (oc_X2 T a_q1 x_q19 ++ (oc_X6 T a_q2 x_q29 ++ (oc_X0 T a_q2c x_q2c9 ++ Z))))) 0 0 A := by
  refine Met.ofW (cc := cX4_read) (maxL := 9) (ret := none) (by decide +kernel) rfl ?_
  intro p e s m args below meth c s₁ B hml hv
  obtain ⟨ha, hP, hK, hD, hN⟩ := hv
  have hx := B.exec
  have hb := B.bytes
  have hr := B.returns
  have hlk := B.notSynchronized
  have hts : ∀ w ∈ wsL_law, w.before args s = true := fun w hw => atoms_spec B.pre w (List.mem_cons_of_mem _ hw)
  have hown : s.vm.findClass RX4 = some m.cls := findClass_of_methodNamed B.named
  have hW : Wd D A s.heap (oc_X4 T a_o xz ++ (oc_X2 T a_q1 x_q1 ++ (oc_X6 T a_q2 x_q2 ++ (oc_X0 T a_q2c x_q2c ++ Z)))) s.heap [] := ⟨hP, hD, va_S.rf⟩
  have hl := lv_entry [.ref (a_o 0), .ref (a_q1 0), .ref (a_q2 0)] (n := 9) (Nat.le_of_ble_eq_true rfl)
  refine W.eq (en_eq ha) ?_
  generalize (lg_sl [.ref (a_o 0), .ref (a_q1 0), .ref (a_q2 0)] ++ List.replicate (9 - (lg_sl [.ref (a_o 0), .ref (a_q1 0), .ref (a_q2 0)]).length) Slot.unset).toArray = ls at hl ⊢
  have hl : lv_has ls 9 [(0, .ref (a_o 0)), (1, .ref (a_q1 0)), (2, .ref (a_q2 0))] := hl
  clear hP hD B ha
  obtain ⟨Q, hQ⟩ : ∃ Q, Q = MQ below (Qgv D A (oc_X4 T a_o xz ++ (oc_X2 T a_q1 x_q19 ++ (oc_X6 T a_q2 x_q29 ++ (oc_X0 T a_q2c x_q2c9 ++ Z))))) args s 0 0 A := ⟨_, rfl⟩
  rw [← hQ]
  change W p l e (rmd 3) s m args below meth c s.heap [] 0 0 Q (F0 m 0 ls [])
  have L74 : ∀ (n : Nat) (x_q1_74 : Ob) (x_q2_74 : Ob) (x_q2c_74 : Ob) (v4_74 : Int32) (v5_74 : Int32) (v6_74 : Int32) (v7_74 : Int32) (v8_74 : Int32) (H : Heap) (locs : List Loc) (ls : Array Slot) (o8_74r : Int32) (y_q1_74r : Ob) (y_q2c_74r : Ob), Wd D A s.heap (oc_X4 T a_o xz ++ (oc_X2 T a_q1 x_q1_74 ++ (oc_X6 T a_q2 x_q2_74 ++ (oc_X0 T a_q2c x_q2c_74 ++ Z)))) H locs → lv_has ls 9 [(1, .ref (a_q1 0)), (2, .ref (a_q2 0)), (3, .ref (a_q2c 0)), (4, .int v4_74), (5, .int v5_74), (6, .int v6_74), (7, .int v7_74), (8, .int v8_74)] → f_X4_read_L74 n x_q1_74 x_q2_74 x_q2c_74 v4_74 v5_74 v6_74 v7_74 v8_74 = some (o8_74r, y_q1_74r, y_q2c_74r) → (∀ (H : Heap) (locs : List Loc) (ls : Array Slot), Wd D A s.heap (oc_X4 T a_o xz ++ (oc_X2 T a_q1 y_q1_74r ++ (oc_X6 T a_q2 x_q2_74 ++ (oc_X0 T a_q2c y_q2c_74r ++ Z)))) H locs → lv_has ls 9 [(1, .ref (a_q1 0)), (2, .ref (a_q2 0)), (3, .ref (a_q2c 0)), (4, .int v4_74), (5, .int v5_74), (6, .int v6_74), (7, .int v7_74)] → W p l e (rmd 3) s m args below meth c H locs 0 0 Q (F0 m 128 ls [])) → W p l e (rmd 3) s m args below meth c H locs 0 0 Q (F0 m 74 ls []) := by
    intro n
    induction n with
    | zero =>
      intro x_q1_74 x_q2_74 x_q2c_74 v4_74 v5_74 v6_74 v7_74 v8_74 H locs ls o8_74r y_q1_74r y_q2c_74r hW hl h k1
      rw [f_X4_read_L74] at h
      cases h
    | succ n ih =>
      intro x_q1_74 x_q2_74 x_q2c_74 v4_74 v5_74 v6_74 v7_74 v8_74 H locs ls o8_74r y_q1_74r y_q2c_74r hW hl h k1
      rw [f_X4_read_L74] at h
      refine lv_iload hx hb dX4_read_74 (lv_at hl 7 rfl) ?_
      refine lv_aload_n hx hb dX4_read_76 rfl (lv_at hl 0 rfl) ?_
      refine fg_X4_35 (v := .int (x_q1_74 0 0)) hx hb hts hN hown hK hW 1 rfl rfl dX4_read_77 ?_
      refine lv_icmp_ge (tgt := 128) hx hb dX4_read_80 (by decide) (fun c9 => ?_) (fun c9 => ?_)
      · have h := ite_t c9 h
        obtain ⟨rfl, rfl, rfl⟩ := ret3 h
        exact k1 H locs ls hW (lv_sub hl [0, 1, 2, 3, 4, 5, 6] rfl)
      · have h := ite_f c9 h
        refine lv_aload_n hx hb dX4_read_83 rfl (lv_at hl 0 rfl) ?_
        refine lv_iload hx hb dX4_read_84 (lv_at hl 7 rfl) ?_
        have hW := hW.perm pf1
        obtain ⟨r10, q11, h⟩ := bnd1_s h
        refine cl_X4_38 hx hb hml hown hts hK hN hW (c_X2_rightOf l D T A a_q1 (oc_X4 T a_o xz ++ (oc_X6 T a_q2 x_q2_74 ++ (oc_X0 T a_q2c x_q2c_74 ++ Z))) x_q1_74 v8_74 r10 q11) ⟨Nat.le_of_ble_eq_true rfl, Nat.le_of_ble_eq_true rfl⟩ hl.1 rfl (Nat.le_of_ble_eq_true rfl) dX4_read_86 ⟨Nat.zero_le _, Nat.zero_le _⟩ rfl (fun H locs hW => ?_)
        have hW := hW.perm pf3
        have hW := hW.perm pf3
        have hW := hW.perm pf2
        have hW := hW.perm pf3
        refine lv_iconst (v := (-1)) hx hb dX4_read_89 (by decide) ?_
        refine lv_icmp_eq (tgt := 122) hx hb dX4_read_90 (by decide) (fun c12 => ?_) (fun c12 => ?_)
        · have h := ite_t c12 h
          obtain ⟨w8_13, ew8_13⟩ : ∃ y : Int32, y = v8_74 + 1 := ⟨_, rfl⟩
          have h := lb_at ew8_13 h
          refine lv_iinc (v := w8_13) (lv' := [(8, .int w8_13), (1, .ref (a_q1 0)), (2, .ref (a_q2 0)), (3, .ref (a_q2c 0)), (4, .int v4_74), (5, .int v5_74), (6, .int v6_74), (7, .int v7_74)]) hx hb dX4_read_122 hl (k := 7) rfl (by rw [ew8_13]; rfl) (by decide) rfl (fun ls hl => ?_)
          refine lv_goto (tgt := 74) hx hb dX4_read_125 (by decide) ?_
          exact ih _ _ _ _ _ _ _ _ H locs ls _ _ _ hW (lv_sub hl [1, 2, 3, 4, 5, 6, 7, 0] rfl) h k1
        · have h := ite_f c12 h
          refine lv_aload_n hx hb dX4_read_93 rfl (lv_at hl 0 rfl) ?_
          refine lv_iload hx hb dX4_read_94 (lv_at hl 7 rfl) ?_
          refine lv_aload_n hx hb dX4_read_96 rfl (lv_at hl 2 rfl) ?_
          refine lv_iload hx hb dX4_read_97 (lv_at hl 5 rfl) ?_
          refine lv_iload hx hb dX4_read_99 (lv_at hl 4 rfl) ?_
          refine lv_iload hx hb dX4_read_101 (lv_at hl 6 rfl) ?_
          obtain ⟨r14, q15, h⟩ := bnd1_s h
          refine cl_X4_25 hx hb hml hown hts hK hN hW (c_X10_spanOf l D T A (oc_X4 T a_o xz ++ (oc_X2 T a_q1 x_q1_74 ++ (oc_X6 T a_q2 x_q2_74 ++ (oc_X0 T a_q2c x_q2c_74 ++ Z)))) v5_74 v7_74 r14 q15) ⟨Nat.le_of_ble_eq_true rfl, Nat.le_of_ble_eq_true rfl⟩ hl.1 rfl (Nat.le_of_ble_eq_true rfl) dX4_read_103 ⟨Nat.zero_le _, Nat.zero_le _⟩ rfl (fun H locs hW => ?_)
          refine lv_iload hx hb dX4_read_106 (lv_at hl 4 rfl) ?_
          refine lv_iload hx hb dX4_read_108 (lv_at hl 6 rfl) ?_
          refine lv_iadd hx hb dX4_read_110 ?_
          refine lv_iload hx hb dX4_read_111 (lv_at hl 3 rfl) ?_
          refine lv_iload hx hb dX4_read_113 (lv_at hl 6 rfl) ?_
          refine lv_isub hx hb dX4_read_115 ?_
          obtain ⟨r16, q17, h⟩ := bnd1_s h
          refine cl_X4_25 hx hb hml hown hts hK hN hW (c_X10_spanOf l D T A (oc_X4 T a_o xz ++ (oc_X2 T a_q1 x_q1_74 ++ (oc_X6 T a_q2 x_q2_74 ++ (oc_X0 T a_q2c x_q2c_74 ++ Z)))) (v5_74 + v7_74) (v4_74 - v7_74) r16 q17) ⟨Nat.le_of_ble_eq_true rfl, Nat.le_of_ble_eq_true rfl⟩ hl.1 rfl (Nat.le_of_ble_eq_true rfl) dX4_read_116 ⟨Nat.zero_le _, Nat.zero_le _⟩ rfl (fun H locs hW => ?_)
          have hW := hW.perm pf3
          have hW := hW.perm pf2
          obtain ⟨x_q118, x_q2c19, q20, h⟩ := bnd2_s h
          refine cl_X4_42 hx hb hml hown hts hK hN hW (c_X4_use l D T A a_q1 a_q2c (oc_X4 T a_o xz ++ (oc_X6 T a_q2 x_q2_74 ++ Z)) x_q1_74 x_q2c_74 v8_74 v6_74 r14 r16 x_q118 x_q2c19 q20) ⟨Nat.le_of_ble_eq_true rfl, Nat.le_of_ble_eq_true rfl⟩ hl.1 rfl (Nat.le_of_ble_eq_true rfl) dX4_read_119 ⟨Nat.zero_le _, Nat.zero_le _⟩ rfl (fun H locs hW => ?_)
          have hW := hW.perm pf1
          have hW := hW.perm pf3
          have hW := hW.perm pf2
          have hW := hW.perm pf3
          obtain ⟨w8_21, ew8_21⟩ : ∃ y : Int32, y = v8_74 + 1 := ⟨_, rfl⟩
          have h := lb_at ew8_21 h
          refine lv_iinc (v := w8_21) (lv' := [(8, .int w8_21), (1, .ref (a_q1 0)), (2, .ref (a_q2 0)), (3, .ref (a_q2c 0)), (4, .int v4_74), (5, .int v5_74), (6, .int v6_74), (7, .int v7_74)]) hx hb dX4_read_122 hl (k := 7) rfl (by rw [ew8_21]; rfl) (by decide) rfl (fun ls hl => ?_)
          refine lv_goto (tgt := 74) hx hb dX4_read_125 (by decide) ?_
          exact ih _ _ _ _ _ _ _ _ H locs ls _ _ _ hW (lv_sub hl [1, 2, 3, 4, 5, 6, 7, 0] rfl) h k1
  have L64 : ∀ (n : Nat) (x_q1_64 : Ob) (x_q2_64 : Ob) (x_q2c_64 : Ob) (v4_64 : Int32) (v5_64 : Int32) (v6_64 : Int32) (v7_64 : Int32) (H : Heap) (locs : List Loc) (ls : Array Slot) (o7_64r : Int32) (y_q1_64r : Ob) (y_q2c_64r : Ob), Wd D A s.heap (oc_X4 T a_o xz ++ (oc_X2 T a_q1 x_q1_64 ++ (oc_X6 T a_q2 x_q2_64 ++ (oc_X0 T a_q2c x_q2c_64 ++ Z)))) H locs → lv_has ls 9 [(1, .ref (a_q1 0)), (2, .ref (a_q2 0)), (3, .ref (a_q2c 0)), (4, .int v4_64), (5, .int v5_64), (6, .int v6_64), (7, .int v7_64)] → f_X4_read_L64 n x_q1_64 x_q2_64 x_q2c_64 v4_64 v5_64 v6_64 v7_64 = some (o7_64r, y_q1_64r, y_q2c_64r) → (∀ (H : Heap) (locs : List Loc) (ls : Array Slot), Wd D A s.heap (oc_X4 T a_o xz ++ (oc_X2 T a_q1 y_q1_64r ++ (oc_X6 T a_q2 x_q2_64 ++ (oc_X0 T a_q2c y_q2c_64r ++ Z)))) H locs → lv_has ls 9 [(1, .ref (a_q1 0)), (2, .ref (a_q2 0)), (3, .ref (a_q2c 0)), (4, .int v4_64), (5, .int v5_64), (6, .int v6_64)] → W p l e (rmd 3) s m args below meth c H locs 0 0 Q (F0 m 134 ls [])) → W p l e (rmd 3) s m args below meth c H locs 0 0 Q (F0 m 64 ls []) := by
    intro n
    induction n with
    | zero =>
      intro x_q1_64 x_q2_64 x_q2c_64 v4_64 v5_64 v6_64 v7_64 H locs ls o7_64r y_q1_64r y_q2c_64r hW hl h k1
      rw [f_X4_read_L64] at h
      cases h
    | succ n ih =>
      intro x_q1_64 x_q2_64 x_q2c_64 v4_64 v5_64 v6_64 v7_64 H locs ls o7_64r y_q1_64r y_q2c_64r hW hl h k1
      rw [f_X4_read_L64] at h
      refine lv_iload hx hb dX4_read_64 (lv_at hl 6 rfl) ?_
      refine lv_iload hx hb dX4_read_66 (lv_at hl 3 rfl) ?_
      refine lv_icmp_ge (tgt := 134) hx hb dX4_read_68 (by decide) (fun c8 => ?_) (fun c8 => ?_)
      · have h := ite_t c8 h
        obtain ⟨rfl, rfl, rfl⟩ := ret3 h
        exact k1 H locs ls hW (lv_sub hl [0, 1, 2, 3, 4, 5] rfl)
      · have h := ite_f c8 h
        refine lv_iconst (v := 0) hx hb dX4_read_71 (by decide) ?_
        refine lv_istore (lv' := [(8, .int 0), (1, .ref (a_q1 0)), (2, .ref (a_q2 0)), (3, .ref (a_q2c 0)), (4, .int v4_64), (5, .int v5_64), (6, .int v6_64), (7, .int v7_64)]) hx hb dX4_read_72 hl (by decide) rfl (fun ls hl => ?_)
        obtain ⟨o8_u22, y_q1_u22, y_q2c_u22, q23, h⟩ := bnd3_s h
        refine L74 200 _ _ _ _ _ _ _ _ H locs ls o8_u22 y_q1_u22 y_q2c_u22 hW (lv_sub hl [1, 2, 3, 4, 5, 6, 7, 0] rfl) q23 (fun H locs ls hW hl => ?_)
        obtain ⟨w7_24, ew7_24⟩ : ∃ y : Int32, y = v7_64 + 1 := ⟨_, rfl⟩
        have h := lb_at ew7_24 h
        refine lv_iinc (v := w7_24) (lv' := [(7, .int w7_24), (1, .ref (a_q1 0)), (2, .ref (a_q2 0)), (3, .ref (a_q2c 0)), (4, .int v4_64), (5, .int v5_64), (6, .int v6_64)]) hx hb dX4_read_128 hl (k := 6) rfl (by rw [ew7_24]; rfl) (by decide) rfl (fun ls hl => ?_)
        refine lv_goto (tgt := 64) hx hb dX4_read_131 (by decide) ?_
        exact ih _ _ _ _ _ _ _ H locs ls _ _ _ hW (lv_sub hl [1, 2, 3, 4, 5, 6, 0] rfl) h k1
  have L137 : ∀ (n : Nat) (x_q1_137 : Ob) (x_q2_137 : Ob) (x_q2c_137 : Ob) (v4_137 : Int32) (v5_137 : Int32) (v6_137 : Int32) (v7_137 : Int32) (H : Heap) (locs : List Loc) (ls : Array Slot) (o7_137r : Int32) (y_q1_137r : Ob) (y_q2c_137r : Ob), Wd D A s.heap (oc_X4 T a_o xz ++ (oc_X2 T a_q1 x_q1_137 ++ (oc_X6 T a_q2 x_q2_137 ++ (oc_X0 T a_q2c x_q2c_137 ++ Z)))) H locs → lv_has ls 9 [(1, .ref (a_q1 0)), (2, .ref (a_q2 0)), (3, .ref (a_q2c 0)), (4, .int v4_137), (5, .int v5_137), (6, .int v6_137), (7, .int v7_137)] → f_X4_read_L137 n x_q1_137 x_q2_137 x_q2c_137 v4_137 v5_137 v6_137 v7_137 = some (o7_137r, y_q1_137r, y_q2c_137r) → (∀ (H : Heap) (locs : List Loc) (ls : Array Slot), Wd D A s.heap (oc_X4 T a_o xz ++ (oc_X2 T a_q1 y_q1_137r ++ (oc_X6 T a_q2 x_q2_137 ++ (oc_X0 T a_q2c y_q2c_137r ++ Z)))) H locs → lv_has ls 9 [(1, .ref (a_q1 0)), (2, .ref (a_q2 0)), (3, .ref (a_q2c 0)), (4, .int v4_137), (5, .int v5_137)] → W p l e (rmd 3) s m args below meth c H locs 0 0 Q (F0 m 168 ls [])) → W p l e (rmd 3) s m args below meth c H locs 0 0 Q (F0 m 137 ls []) := by
    intro n
    induction n with
    | zero =>
      intro x_q1_137 x_q2_137 x_q2c_137 v4_137 v5_137 v6_137 v7_137 H locs ls o7_137r y_q1_137r y_q2c_137r hW hl h k1
      rw [f_X4_read_L137] at h
      cases h
    | succ n ih =>
      intro x_q1_137 x_q2_137 x_q2c_137 v4_137 v5_137 v6_137 v7_137 H locs ls o7_137r y_q1_137r y_q2c_137r hW hl h k1
      rw [f_X4_read_L137] at h
      refine lv_iload hx hb dX4_read_137 (lv_at hl 6 rfl) ?_
      refine lv_aload_n hx hb dX4_read_139 rfl (lv_at hl 0 rfl) ?_
      refine fg_X4_46 (v := .int (x_q1_137 5 0)) hx hb hts hN hown hK hW 1 rfl rfl dX4_read_140 ?_
      refine lv_icmp_ge (tgt := 168) hx hb dX4_read_143 (by decide) (fun c27 => ?_) (fun c27 => ?_)
      · have h := ite_t c27 h
        obtain ⟨rfl, rfl, rfl⟩ := ret3 h
        exact k1 H locs ls hW (lv_sub hl [0, 1, 2, 3, 4] rfl)
      · have h := ite_f c27 h
        refine lv_aload_n hx hb dX4_read_146 rfl (lv_at hl 0 rfl) ?_
        refine lv_aload_n hx hb dX4_read_147 rfl (lv_at hl 0 rfl) ?_
        refine lv_iload hx hb dX4_read_148 (lv_at hl 6 rfl) ?_
        have hW := hW.perm pf1
        obtain ⟨r28, q29, h⟩ := bnd1_s h
        refine cl_X4_49 hx hb hml hown hts hK hN hW (c_X2_singleAt l D T A a_q1 (oc_X4 T a_o xz ++ (oc_X6 T a_q2 x_q2_137 ++ (oc_X0 T a_q2c x_q2c_137 ++ Z))) x_q1_137 v7_137 r28 q29) ⟨Nat.le_of_ble_eq_true rfl, Nat.le_of_ble_eq_true rfl⟩ hl.1 rfl (Nat.le_of_ble_eq_true rfl) dX4_read_150 ⟨Nat.zero_le _, Nat.zero_le _⟩ rfl (fun H locs hW => ?_)
        have hW := hW.perm pf3
        have hW := hW.perm pf3
        have hW := hW.perm pf2
        have hW := hW.perm pf3
        refine lv_aload_n hx hb dX4_read_153 rfl (lv_at hl 2 rfl) ?_
        refine lv_iload hx hb dX4_read_154 (lv_at hl 5 rfl) ?_
        refine lv_iload hx hb dX4_read_156 (lv_at hl 5 rfl) ?_
        refine lv_iconst (v := (-1)) hx hb dX4_read_158 (by decide) ?_
        have hW := hW.perm pf3
        have hW := hW.perm pf2
        obtain ⟨x_q130, x_q2c31, q32, h⟩ := bnd2_s h
        refine cl_X4_42 hx hb hml hown hts hK hN hW (c_X4_use l D T A a_q1 a_q2c (oc_X4 T a_o xz ++ (oc_X6 T a_q2 x_q2_137 ++ Z)) x_q1_137 x_q2c_137 r28 v6_137 v6_137 (-1) x_q130 x_q2c31 q32) ⟨Nat.le_of_ble_eq_true rfl, Nat.le_of_ble_eq_true rfl⟩ hl.1 rfl (Nat.le_of_ble_eq_true rfl) dX4_read_159 ⟨Nat.zero_le _, Nat.zero_le _⟩ rfl (fun H locs hW => ?_)
        have hW := hW.perm pf1
        have hW := hW.perm pf3
        have hW := hW.perm pf2
        have hW := hW.perm pf3
        obtain ⟨w7_33, ew7_33⟩ : ∃ y : Int32, y = v7_137 + 1 := ⟨_, rfl⟩
        have h := lb_at ew7_33 h
        refine lv_iinc (v := w7_33) (lv' := [(7, .int w7_33), (1, .ref (a_q1 0)), (2, .ref (a_q2 0)), (3, .ref (a_q2c 0)), (4, .int v4_137), (5, .int v5_137), (6, .int v6_137)]) hx hb dX4_read_162 hl (k := 6) rfl (by rw [ew7_33]; rfl) (by decide) rfl (fun ls hl => ?_)
        refine lv_goto (tgt := 137) hx hb dX4_read_165 (by decide) ?_
        exact ih _ _ _ _ _ _ _ H locs ls _ _ _ hW (lv_sub hl [1, 2, 3, 4, 5, 6, 0] rfl) h k1
  have J61 : ∀ (x_q1_61 : Ob) (x_q2_61 : Ob) (x_q2c_61 : Ob) (v4_61 : Int32) (v5_61 : Int32) (v6_61 : Int32) (H : Heap) (locs : List Loc) (ls : Array Slot) (code : Nat) (o5j : Int32) (y_q1j : Ob) (y_q2cj : Ob), Wd D A s.heap (oc_X4 T a_o xz ++ (oc_X2 T a_q1 x_q1_61 ++ (oc_X6 T a_q2 x_q2_61 ++ (oc_X0 T a_q2c x_q2c_61 ++ Z)))) H locs → lv_has ls 9 [(1, .ref (a_q1 0)), (2, .ref (a_q2 0)), (3, .ref (a_q2c 0)), (4, .int v4_61), (5, .int v5_61), (6, .int v6_61)] → f_X4_read_J61 x_q1_61 x_q2_61 x_q2c_61 v4_61 v5_61 v6_61 = some (code, o5j, y_q1j, y_q2cj) → (code = 0 → ∀ (H : Heap) (locs : List Loc) (ls : Array Slot), Wd D A s.heap (oc_X4 T a_o xz ++ (oc_X2 T a_q1 y_q1j ++ (oc_X6 T a_q2 x_q2_61 ++ (oc_X0 T a_q2c y_q2cj ++ Z)))) H locs → lv_has ls 9 [(1, .ref (a_q1 0)), (2, .ref (a_q2 0)), (3, .ref (a_q2c 0)), (4, .int v4_61), (5, .int o5j)] → W p l e (rmd 3) s m args below meth c H locs 0 0 Q (F0 m 28 ls [])) → (code = 1 → ∀ (H : Heap) (locs : List Loc) (ls : Array Slot), Wd D A s.heap (oc_X4 T a_o xz ++ (oc_X2 T a_q1 y_q1j ++ (oc_X6 T a_q2 x_q2_61 ++ (oc_X0 T a_q2c y_q2cj ++ Z)))) H locs → lv_has ls 9 [(1, .ref (a_q1 0)), (2, .ref (a_q2 0)), (3, .ref (a_q2c 0)), (4, .int v4_61)] → W p l e (rmd 3) s m args below meth c H locs 0 0 Q (F0 m 174 ls [])) → W p l e (rmd 3) s m args below meth c H locs 0 0 Q (F0 m 61 ls []) := by
    intro x_q1_61 x_q2_61 x_q2c_61 v4_61 v5_61 v6_61 H locs ls code o5j y_q1j y_q2cj hW hl h k0 k1
    rw [f_X4_read_J61] at h
    refine lv_iconst (v := 1) hx hb dX4_read_61 (by decide) ?_
    refine lv_istore (lv' := [(7, .int 1), (1, .ref (a_q1 0)), (2, .ref (a_q2 0)), (3, .ref (a_q2c 0)), (4, .int v4_61), (5, .int v5_61), (6, .int v6_61)]) hx hb dX4_read_62 hl (by decide) rfl (fun ls hl => ?_)
    obtain ⟨o7_u25, y_q1_u25, y_q2c_u25, q26, h⟩ := bnd3_s h
    refine L64 200 _ _ _ _ _ _ _ H locs ls o7_u25 y_q1_u25 y_q2c_u25 hW (lv_sub hl [1, 2, 3, 4, 5, 6, 0] rfl) q26 (fun H locs ls hW hl => ?_)
    refine lv_iconst (v := 0) hx hb dX4_read_134 (by decide) ?_
    refine lv_istore (lv' := [(7, .int 0), (1, .ref (a_q1 0)), (2, .ref (a_q2 0)), (3, .ref (a_q2c 0)), (4, .int v4_61), (5, .int v5_61), (6, .int v6_61)]) hx hb dX4_read_135 hl (by decide) rfl (fun ls hl => ?_)
    obtain ⟨o7_u34, y_q1_u34, y_q2c_u34, q35, h⟩ := bnd3_s h
    refine L137 200 _ _ _ _ _ _ _ H locs ls o7_u34 y_q1_u34 y_q2c_u34 hW (lv_sub hl [1, 2, 3, 4, 5, 6, 0] rfl) q35 (fun H locs ls hW hl => ?_)
    obtain ⟨w5_36, ew5_36⟩ : ∃ y : Int32, y = v5_61 + 1 := ⟨_, rfl⟩
    have h := lb_at ew5_36 h
    refine lv_iinc (v := w5_36) (lv' := [(5, .int w5_36), (1, .ref (a_q1 0)), (2, .ref (a_q2 0)), (3, .ref (a_q2c 0)), (4, .int v4_61)]) hx hb dX4_read_168 hl (k := 4) rfl (by rw [ew5_36]; rfl) (by decide) rfl (fun ls hl => ?_)
    refine lv_goto (tgt := 28) hx hb dX4_read_171 (by decide) ?_
    obtain ⟨rfl, rfl, rfl, rfl⟩ := ret4 h
    exact k0 rfl H locs ls hW (lv_sub hl [1, 2, 3, 4, 0] rfl)
  have L28 : ∀ (n : Nat) (x_q1_28 : Ob) (x_q2_28 : Ob) (x_q2c_28 : Ob) (v4_28 : Int32) (v5_28 : Int32) (H : Heap) (locs : List Loc) (ls : Array Slot) (o5_28r : Int32) (y_q1_28r : Ob) (y_q2c_28r : Ob), Wd D A s.heap (oc_X4 T a_o xz ++ (oc_X2 T a_q1 x_q1_28 ++ (oc_X6 T a_q2 x_q2_28 ++ (oc_X0 T a_q2c x_q2c_28 ++ Z)))) H locs → lv_has ls 9 [(1, .ref (a_q1 0)), (2, .ref (a_q2 0)), (3, .ref (a_q2c 0)), (4, .int v4_28), (5, .int v5_28)] → f_X4_read_L28 n x_q1_28 x_q2_28 x_q2c_28 v4_28 v5_28 = some (o5_28r, y_q1_28r, y_q2c_28r) → (∀ (H : Heap) (locs : List Loc) (ls : Array Slot), Wd D A s.heap (oc_X4 T a_o xz ++ (oc_X2 T a_q1 y_q1_28r ++ (oc_X6 T a_q2 x_q2_28 ++ (oc_X0 T a_q2c y_q2c_28r ++ Z)))) H locs → lv_has ls 9 [(1, .ref (a_q1 0)), (2, .ref (a_q2 0)), (3, .ref (a_q2c 0)), (4, .int v4_28)] → W p l e (rmd 3) s m args below meth c H locs 0 0 Q (F0 m 174 ls [])) → W p l e (rmd 3) s m args below meth c H locs 0 0 Q (F0 m 28 ls []) := by
    intro n
    induction n with
    | zero =>
      intro x_q1_28 x_q2_28 x_q2c_28 v4_28 v5_28 H locs ls o5_28r y_q1_28r y_q2c_28r hW hl h k1
      rw [f_X4_read_L28] at h
      cases h
    | succ n ih =>
      intro x_q1_28 x_q2_28 x_q2c_28 v4_28 v5_28 H locs ls o5_28r y_q1_28r y_q2c_28r hW hl h k1
      rw [f_X4_read_L28] at h
      refine lv_iload hx hb dX4_read_28 (lv_at hl 4 rfl) ?_
      refine lv_iload hx hb dX4_read_30 (lv_at hl 3 rfl) ?_
      refine lv_iadd hx hb dX4_read_32 ?_
      refine lv_aload_n hx hb dX4_read_33 rfl (lv_at hl 1 rfl) ?_
      refine fg_X4_15 (v := .int (x_q2_28 0 0)) hx hb hts hN hown hK hW 13 rfl rfl dX4_read_34 ?_
      refine lv_icmp_gt (tgt := 174) hx hb dX4_read_37 (by decide) (fun c4 => ?_) (fun c4 => ?_)
      · have h := ite_t c4 h
        obtain ⟨rfl, rfl, rfl⟩ := ret3 h
        exact k1 H locs ls hW (lv_sub hl [0, 1, 2, 3] rfl)
      · have h := ite_f c4 h
        refine lv_iload hx hb dX4_read_40 (lv_at hl 4 rfl) ?_
        refine lv_iload hx hb dX4_read_42 (lv_at hl 3 rfl) ?_
        obtain ⟨r5, q6, h⟩ := bnd1_s h
        refine cl_X4_25 hx hb hml hown hts hK hN hW (c_X10_spanOf l D T A (oc_X4 T a_o xz ++ (oc_X2 T a_q1 x_q1_28 ++ (oc_X6 T a_q2 x_q2_28 ++ (oc_X0 T a_q2c x_q2c_28 ++ Z)))) v5_28 v4_28 r5 q6) ⟨Nat.le_of_ble_eq_true rfl, Nat.le_of_ble_eq_true rfl⟩ hl.1 rfl (Nat.le_of_ble_eq_true rfl) dX4_read_44 ⟨Nat.zero_le _, Nat.zero_le _⟩ rfl (fun H locs hW => ?_)
        refine lv_istore (lv' := [(6, .int r5), (1, .ref (a_q1 0)), (2, .ref (a_q2 0)), (3, .ref (a_q2c 0)), (4, .int v4_28), (5, .int v5_28)]) hx hb dX4_read_47 hl (by decide) rfl (fun ls hl => ?_)
        refine lv_iload hx hb dX4_read_49 (lv_at hl 4 rfl) ?_
        refine lv_iconst (v := 1) hx hb dX4_read_51 (by decide) ?_
        refine lv_icmp_ne (tgt := 61) hx hb dX4_read_52 (by decide) (fun c7 => ?_) (fun c7 => ?_)
        · have h := ite_f c7 h
          obtain ⟨code38, o5_t37, y_q1_t37, y_q2c_t37, q39, h⟩ := bnd4_s h
          refine J61 _ _ _ _ _ _ H locs ls code38 o5_t37 y_q1_t37 y_q2c_t37 hW (lv_sub hl [1, 2, 3, 4, 5, 0] rfl) q39 (fun hc H locs ls hW hl => ?_) (fun hc H locs ls hW hl => ?_)
          · have h := ite_t hc h
            exact ih _ _ _ _ _ H locs ls _ _ _ hW (lv_sub hl [0, 1, 2, 3, 4] rfl) h k1
          · have h := ite_f (by rw [hc]; decide) h
            obtain ⟨rfl, rfl, rfl⟩ := ret3 h
            exact k1 H locs ls hW hl
        · have h := ite_t c7 h
          refine lv_aload_n hx hb dX4_read_55 rfl (lv_at hl 2 rfl) ?_
          refine lv_iload hx hb dX4_read_56 (lv_at hl 5 rfl) ?_
          have hW := hW.perm pf3
          have hW := hW.perm pf3
          obtain ⟨x_q2c40, q41, h⟩ := bnd1_s h
          refine cl_X4_29 hx hb hml hown hts hK hN hW (c_X4_readWord l D T A a_q2 a_q2c (oc_X4 T a_o xz ++ (oc_X2 T a_q1 x_q1_28 ++ Z)) hac_q2 x_q2_28 x_q2c_28 v5_28 x_q2c40 q41) ⟨Nat.le_of_ble_eq_true rfl, Nat.le_of_ble_eq_true rfl⟩ hl.1 rfl (Nat.le_of_ble_eq_true rfl) dX4_read_58 ⟨Nat.zero_le _, Nat.zero_le _⟩ rfl (fun H locs hW => ?_)
          have hW := hW.perm pf1
          have hW := hW.perm pf1
          have hW := hW.perm pf3
          have hW := hW.perm pf3
          obtain ⟨code43, o5_t42, y_q1_t42, y_q2c_t42, q44, h⟩ := bnd4_s h
          refine J61 _ _ _ _ _ _ H locs ls code43 o5_t42 y_q1_t42 y_q2c_t42 hW (lv_sub hl [1, 2, 3, 4, 5, 0] rfl) q44 (fun hc H locs ls hW hl => ?_) (fun hc H locs ls hW hl => ?_)
          · have h := ite_t hc h
            exact ih _ _ _ _ _ H locs ls _ _ _ hW (lv_sub hl [0, 1, 2, 3, 4] rfl) h k1
          · have h := ite_f (by rw [hc]; decide) h
            obtain ⟨rfl, rfl, rfl⟩ := ret3 h
            exact k1 H locs ls hW hl
  have L16 : ∀ (n : Nat) (x_q1_16 : Ob) (x_q2_16 : Ob) (x_q2c_16 : Ob) (v4_16 : Int32) (H : Heap) (locs : List Loc) (ls : Array Slot) (o4_16r : Int32) (y_q1_16r : Ob) (y_q2c_16r : Ob), Wd D A s.heap (oc_X4 T a_o xz ++ (oc_X2 T a_q1 x_q1_16 ++ (oc_X6 T a_q2 x_q2_16 ++ (oc_X0 T a_q2c x_q2c_16 ++ Z)))) H locs → lv_has ls 9 [(1, .ref (a_q1 0)), (2, .ref (a_q2 0)), (3, .ref (a_q2c 0)), (4, .int v4_16)] → f_X4_read_L16 n x_q1_16 x_q2_16 x_q2c_16 v4_16 = some (o4_16r, y_q1_16r, y_q2c_16r) → (∀ (H : Heap) (locs : List Loc) (ls : Array Slot), Wd D A s.heap (oc_X4 T a_o xz ++ (oc_X2 T a_q1 y_q1_16r ++ (oc_X6 T a_q2 x_q2_16 ++ (oc_X0 T a_q2c y_q2c_16r ++ Z)))) H locs → lv_has ls 9 [(2, .ref (a_q2 0))] → W p l e (rmd 3) s m args below meth c H locs 0 0 Q (F0 m 180 ls [])) → W p l e (rmd 3) s m args below meth c H locs 0 0 Q (F0 m 16 ls []) := by
    intro n
    induction n with
    | zero =>
      intro x_q1_16 x_q2_16 x_q2c_16 v4_16 H locs ls o4_16r y_q1_16r y_q2c_16r hW hl h k1
      rw [f_X4_read_L16] at h
      cases h
    | succ n ih =>
      intro x_q1_16 x_q2_16 x_q2c_16 v4_16 H locs ls o4_16r y_q1_16r y_q2c_16r hW hl h k1
      rw [f_X4_read_L16] at h
      refine lv_iload hx hb dX4_read_16 (lv_at hl 3 rfl) ?_
      refine lv_aload_n hx hb dX4_read_18 rfl (lv_at hl 1 rfl) ?_
      refine fg_X4_15 (v := .int (x_q2_16 0 0)) hx hb hts hN hown hK hW 13 rfl rfl dX4_read_19 ?_
      refine lv_icmp_gt (tgt := 180) hx hb dX4_read_22 (by decide) (fun c3 => ?_) (fun c3 => ?_)
      · have h := ite_t c3 h
        obtain ⟨rfl, rfl, rfl⟩ := ret3 h
        exact k1 H locs ls hW (lv_sub hl [1] rfl)
      · have h := ite_f c3 h
        refine lv_iconst (v := 0) hx hb dX4_read_25 (by decide) ?_
        refine lv_istore (lv' := [(5, .int 0), (1, .ref (a_q1 0)), (2, .ref (a_q2 0)), (3, .ref (a_q2c 0)), (4, .int v4_16)]) hx hb dX4_read_26 hl (by decide) rfl (fun ls hl => ?_)
        obtain ⟨o5_u45, y_q1_u45, y_q2c_u45, q46, h⟩ := bnd3_s h
        refine L28 200 _ _ _ _ _ H locs ls o5_u45 y_q1_u45 y_q2c_u45 hW (lv_sub hl [1, 2, 3, 4, 0] rfl) q46 (fun H locs ls hW hl => ?_)
        obtain ⟨w4_47, ew4_47⟩ : ∃ y : Int32, y = v4_16 + 1 := ⟨_, rfl⟩
        have h := lb_at ew4_47 h
        refine lv_iinc (v := w4_47) (lv' := [(4, .int w4_47), (1, .ref (a_q1 0)), (2, .ref (a_q2 0)), (3, .ref (a_q2c 0))]) hx hb dX4_read_174 hl (k := 3) rfl (by rw [ew4_47]; rfl) (by decide) rfl (fun ls hl => ?_)
        refine lv_goto (tgt := 16) hx hb dX4_read_177 (by decide) ?_
        exact ih _ _ _ _ H locs ls _ _ _ hW (lv_sub hl [1, 2, 3, 0] rfl) h k1
  rw [f_X4_read] at h
  suffices hm : ∀ (H : Heap) (locs : List Loc), Wd D A s.heap (oc_X4 T a_o xz ++ (oc_X2 T a_q1 x_q1 ++ (oc_X6 T a_q2 x_q2 ++ (oc_X0 T a_q2c x_q2c ++ Z)))) H locs → W p l e (rmd 3) s m args below meth c H locs 0 0 Q (F0 m 0 ls []) from hm _ _ hW
  intro H locs hW
  refine lv_aload_n hx hb dX4_read_0 rfl (lv_at hl 2 rfl) ?_
  refine fg_X4_9 (v := .ref (a_q2c 0)) hx hb hts hN hown hK hW 13 rfl (by rw [← hac_q2]; rfl) dX4_read_1 ?_
  refine lv_astore_n (lv' := [(3, .ref (a_q2c 0)), (0, .ref (a_o 0)), (1, .ref (a_q1 0)), (2, .ref (a_q2 0))]) hx hb dX4_read_4 rfl hl (by decide) rfl (fun ls hl => ?_)
  refine lv_aload_n hx hb dX4_read_5 rfl (lv_at hl 0 rfl) ?_
  refine lv_aload_n hx hb dX4_read_6 rfl (lv_at hl 3 rfl) ?_
  refine fg_X4_15 (v := .int (x_q2 0 0)) hx hb hts hN hown hK hW 13 rfl rfl dX4_read_7 ?_
  have hW := hW.perm pf3
  obtain ⟨x_q2c1, q2, h⟩ := bnd1_s h
  refine cl_X4_19 hx hb hml hown hts hK hN hW (c_X0_clear l D T A a_q2c (oc_X4 T a_o xz ++ (oc_X2 T a_q1 x_q1 ++ (oc_X6 T a_q2 x_q2 ++ Z))) x_q2c (x_q2 0 0) x_q2c1 q2) ⟨Nat.le_of_ble_eq_true rfl, Nat.le_of_ble_eq_true rfl⟩ hl.1 rfl (Nat.le_of_ble_eq_true rfl) dX4_read_10 ⟨Nat.zero_le _, Nat.zero_le _⟩ rfl (fun H locs hW => ?_)
  have hW := hW.perm pf3
  have hW := hW.perm pf3
  have hW := hW.perm pf3
  refine lv_iconst (v := 1) hx hb dX4_read_13 (by decide) ?_
  refine lv_istore (lv' := [(4, .int 1), (3, .ref (a_q2c 0)), (0, .ref (a_o 0)), (1, .ref (a_q1 0)), (2, .ref (a_q2 0))]) hx hb dX4_read_14 hl (by decide) rfl (fun ls hl => ?_)
  obtain ⟨o4_u48, y_q1_u48, y_q2c_u48, q49, h⟩ := bnd3_s h
  refine L16 200 _ _ _ _ H locs ls o4_u48 y_q1_u48 y_q2c_u48 hW (lv_sub hl [3, 4, 1, 0] rfl) q49 (fun H locs ls hW hl => ?_)
  refine lv_aload_n hx hb dX4_read_180 rfl (lv_at hl 0 rfl) ?_
  refine lv_iconst (v := 0) hx hb dX4_read_181 (by decide) ?_
  refine fp_X4_52 (ws9 := oc_X4 T a_o xz ++ (oc_X2 T a_q1 y_q1_u48 ++ (oc_X6 T a_q2 (upo x_q2 8 0 0) ++ (oc_X0 T a_q2c y_q2c_u48 ++ Z)))) hx hb hts hN hown hK hW 13 rfl (Nat.le_of_ble_eq_true rfl) (by decide) rfl dX4_read_182 (fun H locs hW => ?_)
  obtain ⟨x_q250, ex_q250⟩ : ∃ y : Ob, y = upo x_q2 8 0 0 := ⟨_, rfl⟩
  rw [← ex_q250] at hW
  have h := lb_at ex_q250 h
  obtain ⟨rfl, rfl, rfl⟩ := ret3 h
  rw [hQ]
  exact g_retv hx hb hr hlk hW dX4_read_185
set_option maxHeartbeats 4000000 in
set_option maxRecDepth 100000 in
theorem c_X6_leftOf (l : Launch) (D : va_G) (T : Nat → ClassId) (A : Nat → Prop) (a_o : Nat → Nat) (Z : va_W)  (x_o : Ob) (p1 : Int32) (p2 : Int32) (r : Int32) (h : f_X6_leftOf x_o p1 p2 = some r) : Met l yX6_leftOf (Cond.code yX6_leftOf cX6_leftOf 5 (some .int) :: wsL_law) (rmd 0) (Pg D T A (oc_X6 T a_o x_o ++ Z) [.ref (a_o 0), .int p1, .int p2]) (Qgi D A (oc_X6 T a_o x_o ++ Z) r) 0 0 A := by
  refine Met.ofW (cc := cX6_leftOf) (maxL := 5) (ret := (some .int)) (by decide +kernel) rfl ?_
  intro p e s m args below meth c s₁ B hml hv
  obtain ⟨ha, hP, hK, hD, hN⟩ := hv
  have hx := B.exec
  have hb := B.bytes
  have hr := B.returns
  have hlk := B.notSynchronized
  have hts : ∀ w ∈ wsL_law, w.before args s = true := fun w hw => atoms_spec B.pre w (List.mem_cons_of_mem _ hw)
  have hown : s.vm.findClass RX6 = some m.cls := findClass_of_methodNamed B.named
  have hW : Wd D A s.heap (oc_X6 T a_o x_o ++ Z) s.heap [] := ⟨hP, hD, va_S.rf⟩
  have hl := lv_entry [.ref (a_o 0), .int p1, .int p2] (n := 5) (Nat.le_of_ble_eq_true rfl)
  refine W.eq (en_eq ha) ?_
  generalize (lg_sl [.ref (a_o 0), .int p1, .int p2] ++ List.replicate (5 - (lg_sl [.ref (a_o 0), .int p1, .int p2]).length) Slot.unset).toArray = ls at hl ⊢
  have hl : lv_has ls 5 [(0, .ref (a_o 0)), (1, .int p1), (2, .int p2)] := hl
  clear hP hD B ha
  obtain ⟨Q, hQ⟩ : ∃ Q, Q = MQ below (Qgi D A (oc_X6 T a_o x_o ++ Z) r) args s 0 0 A := ⟨_, rfl⟩
  rw [← hQ]
  change W p l e (rmd 0) s m args below meth c s.heap [] 0 0 Q (F0 m 0 ls [])
  have L17 : ∀ (n : Nat) (v1_17 : Int32) (v2_17 : Int32) (v3_17 : Int32) (v4_17 : Int32) (H : Heap) (locs : List Loc) (ls : Array Slot) (o3_17r : Int32) (o4_17r : Int32), Wd D A s.heap (oc_X6 T a_o x_o ++ Z) H locs → lv_has ls 5 [(0, .ref (a_o 0)), (1, .int v1_17), (2, .int v2_17), (3, .int v3_17), (4, .int v4_17)] → f_X6_leftOf_L17 n x_o v1_17 v2_17 v3_17 v4_17 = some (o3_17r, o4_17r) → (∀ (H : Heap) (locs : List Loc) (ls : Array Slot), Wd D A s.heap (oc_X6 T a_o x_o ++ Z) H locs → lv_has ls 5 [(3, .int o3_17r)] → W p l e (rmd 0) s m args below meth c H locs 0 0 Q (F0 m 65 ls [])) → W p l e (rmd 0) s m args below meth c H locs 0 0 Q (F0 m 17 ls []) := by
    intro n
    induction n with
    | zero =>
      intro v1_17 v2_17 v3_17 v4_17 H locs ls o3_17r o4_17r hW hl h k1
      rw [f_X6_leftOf_L17] at h
      cases h
    | succ n ih =>
      intro v1_17 v2_17 v3_17 v4_17 H locs ls o3_17r o4_17r hW hl h k1
      rw [f_X6_leftOf_L17] at h
      refine lv_iload hx hb dX6_leftOf_17 (lv_at hl 4 rfl) ?_
      refine lv_iconst (v := 4) hx hb dX6_leftOf_19 (by decide) ?_
      refine lv_icmp_ge (tgt := 65) hx hb dX6_leftOf_20 (by decide) (fun c3 => ?_) (fun c3 => ?_)
      · have h := ite_t c3 h
        obtain ⟨rfl, rfl⟩ := ret2 h
        exact k1 H locs ls hW (lv_sub hl [3] rfl)
      · have h := ite_f c3 h
        refine lv_aload_n hx hb dX6_leftOf_23 rfl (lv_at hl 0 rfl) ?_
        refine fg_X6_19 (v := .ref (a_o 2)) hx hb hts hown hK hW 0 rfl rfl dX6_leftOf_24 ?_
        refine lv_iload_n hx hb dX6_leftOf_27 rfl (lv_at hl 1 rfl) ?_
        obtain ⟨g4, h⟩ := grd_s h
        refine g_iald hx hb hK hW 2 rfl g4 dX6_leftOf_28 ?_
        refine lv_iload hx hb dX6_leftOf_29 (lv_at hl 4 rfl) ?_
        refine lv_ishr hx hb dX6_leftOf_31 ?_
        refine lv_iconst (v := 1) hx hb dX6_leftOf_32 (by decide) ?_
        refine lv_iand hx hb dX6_leftOf_33 ?_
        refine lv_if_eq (tgt := 59) hx hb dX6_leftOf_34 (by decide) (fun c5 => ?_) (fun c5 => ?_)
        · have h := ite_t c5 h
          obtain ⟨w4_6, ew4_6⟩ : ∃ y : Int32, y = v4_17 + 1 := ⟨_, rfl⟩
          have h := lb_at ew4_6 h
          refine lv_iinc (v := w4_6) (lv' := [(4, .int w4_6), (0, .ref (a_o 0)), (1, .int v1_17), (2, .int v2_17), (3, .int v3_17)]) hx hb dX6_leftOf_59 hl (k := 4) rfl (by rw [ew4_6]; rfl) (by decide) rfl (fun ls hl => ?_)
          refine lv_goto (tgt := 17) hx hb dX6_leftOf_62 (by decide) ?_
          exact ih _ _ _ _ H locs ls _ _ hW (lv_sub hl [1, 2, 3, 4, 0] rfl) h k1
        · have h := ite_f c5 h
          refine lv_aload_n hx hb dX6_leftOf_37 rfl (lv_at hl 0 rfl) ?_
          refine fg_X6_25 (v := .ref (a_o 4)) hx hb hts hown hK hW 0 rfl rfl dX6_leftOf_38 ?_
          refine lv_iload_n hx hb dX6_leftOf_41 rfl (lv_at hl 1 rfl) ?_
          refine lv_iconst (v := 4) hx hb dX6_leftOf_42 (by decide) ?_
          refine lv_imul hx hb dX6_leftOf_43 ?_
          refine lv_iload hx hb dX6_leftOf_44 (lv_at hl 4 rfl) ?_
          refine lv_iadd hx hb dX6_leftOf_46 ?_
          obtain ⟨g7, h⟩ := grd_s h
          refine g_iald hx hb hK hW 4 rfl g7 dX6_leftOf_47 ?_
          refine lv_iload_n hx hb dX6_leftOf_48 rfl (lv_at hl 2 rfl) ?_
          refine lv_icmp_ne (tgt := 59) hx hb dX6_leftOf_49 (by decide) (fun c8 => ?_) (fun c8 => ?_)
          · have h := ite_f c8 h
            obtain ⟨w4_9, ew4_9⟩ : ∃ y : Int32, y = v4_17 + 1 := ⟨_, rfl⟩
            have h := lb_at ew4_9 h
            refine lv_iinc (v := w4_9) (lv' := [(4, .int w4_9), (0, .ref (a_o 0)), (1, .int v1_17), (2, .int v2_17), (3, .int v3_17)]) hx hb dX6_leftOf_59 hl (k := 4) rfl (by rw [ew4_9]; rfl) (by decide) rfl (fun ls hl => ?_)
            refine lv_goto (tgt := 17) hx hb dX6_leftOf_62 (by decide) ?_
            exact ih _ _ _ _ H locs ls _ _ hW (lv_sub hl [1, 2, 3, 4, 0] rfl) h k1
          · have h := ite_t c8 h
            refine lv_iload_n hx hb dX6_leftOf_52 rfl (lv_at hl 3 rfl) ?_
            refine lv_iconst (v := 1) hx hb dX6_leftOf_53 (by decide) ?_
            refine lv_iload hx hb dX6_leftOf_54 (lv_at hl 4 rfl) ?_
            refine lv_ishl hx hb dX6_leftOf_56 ?_
            refine lv_ior hx hb dX6_leftOf_57 ?_
            refine lv_topi (fun w3_10 ew3_10 => ?_)
            have h := lb_at ew3_10 h
            refine lv_istore_n (lv' := [(3, .int w3_10), (0, .ref (a_o 0)), (1, .int v1_17), (2, .int v2_17), (4, .int v4_17)]) hx hb dX6_leftOf_58 rfl hl (by decide) rfl (fun ls hl => ?_)
            obtain ⟨w4_11, ew4_11⟩ : ∃ y : Int32, y = v4_17 + 1 := ⟨_, rfl⟩
            have h := lb_at ew4_11 h
            refine lv_iinc (v := w4_11) (lv' := [(4, .int w4_11), (3, .int w3_10), (0, .ref (a_o 0)), (1, .int v1_17), (2, .int v2_17)]) hx hb dX6_leftOf_59 hl (k := 4) rfl (by rw [ew4_11]; rfl) (by decide) rfl (fun ls hl => ?_)
            refine lv_goto (tgt := 17) hx hb dX6_leftOf_62 (by decide) ?_
            exact ih _ _ _ _ H locs ls _ _ hW (lv_sub hl [2, 3, 4, 1, 0] rfl) h k1
  rw [f_X6_leftOf] at h
  suffices hm : ∀ (H : Heap) (locs : List Loc), Wd D A s.heap (oc_X6 T a_o x_o ++ Z) H locs → W p l e (rmd 0) s m args below meth c H locs 0 0 Q (F0 m 0 ls []) from hm _ _ hW
  intro H locs hW
  refine lv_iconst (v := 0) hx hb dX6_leftOf_0 (by decide) ?_
  refine lv_istore_n (lv' := [(3, .int 0), (0, .ref (a_o 0)), (1, .int p1), (2, .int p2)]) hx hb dX6_leftOf_1 rfl hl (by decide) rfl (fun ls hl => ?_)
  refine lv_iload_n hx hb dX6_leftOf_2 rfl (lv_at hl 2 rfl) ?_
  refine lv_if_lt (tgt := 65) hx hb dX6_leftOf_3 (by decide) (fun c1 => ?_) (fun c1 => ?_)
  · have h := ite_t c1 h
    refine lv_iload_n hx hb dX6_leftOf_65 rfl (lv_at hl 0 rfl) ?_
    obtain rfl := ret1 h
    rw [hQ]
    exact g_reti hx hb hr hlk hW dX6_leftOf_66
  · have h := ite_f c1 h
    refine lv_iload_n hx hb dX6_leftOf_6 rfl (lv_at hl 2 rfl) ?_
    refine lv_aload_n hx hb dX6_leftOf_7 rfl (lv_at hl 1 rfl) ?_
    refine fg_X6_9 (v := .int (x_o 0 0)) hx hb hts hown hK hW 0 rfl rfl dX6_leftOf_8 ?_
    refine lv_icmp_ge (tgt := 65) hx hb dX6_leftOf_11 (by decide) (fun c2 => ?_) (fun c2 => ?_)
    · have h := ite_t c2 h
      refine lv_iload_n hx hb dX6_leftOf_65 rfl (lv_at hl 0 rfl) ?_
      obtain rfl := ret1 h
      rw [hQ]
      exact g_reti hx hb hr hlk hW dX6_leftOf_66
    · have h := ite_f c2 h
      refine lv_iconst (v := 0) hx hb dX6_leftOf_14 (by decide) ?_
      refine lv_istore (lv' := [(4, .int 0), (3, .int 0), (0, .ref (a_o 0)), (1, .int p1), (2, .int p2)]) hx hb dX6_leftOf_15 hl (by decide) rfl (fun ls hl => ?_)
      obtain ⟨o3_u12, o4_u12, q13, h⟩ := bnd2_s h
      refine L17 200 _ _ _ _ H locs ls o3_u12 o4_u12 hW (lv_sub hl [2, 3, 4, 1, 0] rfl) q13 (fun H locs ls hW hl => ?_)
      refine lv_iload_n hx hb dX6_leftOf_65 rfl (lv_at hl 0 rfl) ?_
      obtain rfl := ret1 h
      rw [hQ]
      exact g_reti hx hb hr hlk hW dX6_leftOf_66
set_option maxHeartbeats 4000000 in
set_option maxRecDepth 100000 in
theorem c_X6_featuresOf (l : Launch) (D : va_G) (T : Nat → ClassId) (A : Nat → Prop) (a_o : Nat → Nat) (Z : va_W)  (x_o : Ob) (p1 : Int32) (p2 : Int32) (r : Int32) (h : f_X6_featuresOf x_o p1 p2 = some r) : Met l yX6_featuresOf (Cond.code yX6_featuresOf cX6_featuresOf 4 (some .int) :: wsL_law) (rmd 0) (Pg D T A (oc_X6 T a_o x_o ++ Z) [.ref (a_o 0), .int p1, .int p2]) (Qgi D A (oc_X6 T a_o x_o ++ Z) r) 0 0 A := by
  refine Met.ofW (cc := cX6_featuresOf) (maxL := 4) (ret := (some .int)) (by decide +kernel) rfl ?_
  intro p e s m args below meth c s₁ B hml hv
  obtain ⟨ha, hP, hK, hD, hN⟩ := hv
  have hx := B.exec
  have hb := B.bytes
  have hr := B.returns
  have hlk := B.notSynchronized
  have hts : ∀ w ∈ wsL_law, w.before args s = true := fun w hw => atoms_spec B.pre w (List.mem_cons_of_mem _ hw)
  have hown : s.vm.findClass RX6 = some m.cls := findClass_of_methodNamed B.named
  have hW : Wd D A s.heap (oc_X6 T a_o x_o ++ Z) s.heap [] := ⟨hP, hD, va_S.rf⟩
  have hl := lv_entry [.ref (a_o 0), .int p1, .int p2] (n := 4) (Nat.le_of_ble_eq_true rfl)
  refine W.eq (en_eq ha) ?_
  generalize (lg_sl [.ref (a_o 0), .int p1, .int p2] ++ List.replicate (4 - (lg_sl [.ref (a_o 0), .int p1, .int p2]).length) Slot.unset).toArray = ls at hl ⊢
  have hl : lv_has ls 4 [(0, .ref (a_o 0)), (1, .int p1), (2, .int p2)] := hl
  clear hP hD B ha
  obtain ⟨Q, hQ⟩ : ∃ Q, Q = MQ below (Qgi D A (oc_X6 T a_o x_o ++ Z) r) args s 0 0 A := ⟨_, rfl⟩
  rw [← hQ]
  change W p l e (rmd 0) s m args below meth c s.heap [] 0 0 Q (F0 m 0 ls [])
  have J26 : ∀ (v1_26 : Int32) (v2_26 : Int32) (s0_26 : Int32) (H : Heap) (locs : List Loc) (ls : Array Slot), Wd D A s.heap (oc_X6 T a_o x_o ++ Z) H locs → lv_has ls 4 [(0, .ref (a_o 0)), (1, .int v1_26), (2, .int v2_26)] → f_X6_featuresOf_J26 x_o v1_26 v2_26 s0_26 = some r → W p l e (rmd 0) s m args below meth c H locs 0 0 Q (F0 m 26 ls [.int s0_26]) := by
    intro v1_26 v2_26 s0_26 H locs ls hW hl h
    rw [f_X6_featuresOf_J26] at h
    refine lv_istore_n (lv' := [(3, .int s0_26), (0, .ref (a_o 0)), (1, .int v1_26), (2, .int v2_26)]) hx hb dX6_featuresOf_26 rfl hl (by decide) rfl (fun ls hl => ?_)
    refine lv_iload_n hx hb dX6_featuresOf_27 rfl (lv_at hl 0 rfl) ?_
    refine lv_if_eq (tgt := 44) hx hb dX6_featuresOf_28 (by decide) (fun c2 => ?_) (fun c2 => ?_)
    · have h := ite_t c2 h
      refine lv_iconst (v := 0) hx hb dX6_featuresOf_44 (by decide) ?_
      obtain rfl := ret1 h
      rw [hQ]
      exact g_reti hx hb hr hlk hW dX6_featuresOf_45
    · have h := ite_f c2 h
      refine lv_aload_n hx hb dX6_featuresOf_31 rfl (lv_at hl 1 rfl) ?_
      refine fg_X6_28 (v := .ref (a_o 5)) hx hb hts hown hK hW 0 rfl rfl dX6_featuresOf_32 ?_
      refine lv_iload_n hx hb dX6_featuresOf_35 rfl (lv_at hl 2 rfl) ?_
      refine lv_iconst (v := 4) hx hb dX6_featuresOf_36 (by decide) ?_
      refine lv_imul hx hb dX6_featuresOf_37 ?_
      refine lv_iload_n hx hb dX6_featuresOf_38 rfl (lv_at hl 3 rfl) ?_
      refine lv_iadd hx hb dX6_featuresOf_39 ?_
      obtain ⟨g3, h⟩ := grd_s h
      refine g_iald hx hb hK hW 5 rfl g3 dX6_featuresOf_40 ?_
      refine lv_goto (tgt := 45) hx hb dX6_featuresOf_41 (by decide) ?_
      obtain rfl := ret1 h
      rw [hQ]
      exact g_reti hx hb hr hlk hW dX6_featuresOf_45
  have J25 : ∀ (v1_25 : Int32) (v2_25 : Int32) (H : Heap) (locs : List Loc) (ls : Array Slot), Wd D A s.heap (oc_X6 T a_o x_o ++ Z) H locs → lv_has ls 4 [(0, .ref (a_o 0)), (1, .int v1_25), (2, .int v2_25)] → f_X6_featuresOf_J25 x_o v1_25 v2_25 = some r → W p l e (rmd 0) s m args below meth c H locs 0 0 Q (F0 m 25 ls []) := by
    intro v1_25 v2_25 H locs ls hW hl h
    rw [f_X6_featuresOf_J25] at h
    refine lv_iconst (v := 0) hx hb dX6_featuresOf_25 (by decide) ?_
    exact J26 _ _ _ H locs ls hW (lv_sub hl [0, 1, 2] rfl) h
  rw [f_X6_featuresOf] at h
  suffices hm : ∀ (H : Heap) (locs : List Loc), Wd D A s.heap (oc_X6 T a_o x_o ++ Z) H locs → W p l e (rmd 0) s m args below meth c H locs 0 0 Q (F0 m 0 ls []) from hm _ _ hW
  intro H locs hW
  refine lv_iload_n hx hb dX6_featuresOf_0 rfl (lv_at hl 1 rfl) ?_
  refine lv_if_lt (tgt := 25) hx hb dX6_featuresOf_1 (by decide) (fun c1 => ?_) (fun c1 => ?_)
  · have h := ite_t c1 h
    exact J25 _ _ H locs ls hW (lv_sub hl [0, 1, 2] rfl) h
  · have h := ite_f c1 h
    refine lv_iload_n hx hb dX6_featuresOf_4 rfl (lv_at hl 1 rfl) ?_
    refine lv_aload_n hx hb dX6_featuresOf_5 rfl (lv_at hl 0 rfl) ?_
    refine fg_X6_9 (v := .int (x_o 0 0)) hx hb hts hown hK hW 0 rfl rfl dX6_featuresOf_6 ?_
    refine lv_icmp_ge (tgt := 25) hx hb dX6_featuresOf_9 (by decide) (fun c4 => ?_) (fun c4 => ?_)
    · have h := ite_t c4 h
      exact J25 _ _ H locs ls hW (lv_sub hl [0, 1, 2] rfl) h
    · have h := ite_f c4 h
      refine lv_iload_n hx hb dX6_featuresOf_12 rfl (lv_at hl 2 rfl) ?_
      refine lv_if_lt (tgt := 25) hx hb dX6_featuresOf_13 (by decide) (fun c5 => ?_) (fun c5 => ?_)
      · have h := ite_t c5 h
        exact J25 _ _ H locs ls hW (lv_sub hl [0, 1, 2] rfl) h
      · have h := ite_f c5 h
        refine lv_iload_n hx hb dX6_featuresOf_16 rfl (lv_at hl 2 rfl) ?_
        refine lv_iconst (v := 4) hx hb dX6_featuresOf_17 (by decide) ?_
        refine lv_icmp_ge (tgt := 25) hx hb dX6_featuresOf_18 (by decide) (fun c6 => ?_) (fun c6 => ?_)
        · have h := ite_t c6 h
          exact J25 _ _ H locs ls hW (lv_sub hl [0, 1, 2] rfl) h
        · have h := ite_f c6 h
          refine lv_iconst (v := 1) hx hb dX6_featuresOf_21 (by decide) ?_
          refine lv_goto (tgt := 26) hx hb dX6_featuresOf_22 (by decide) ?_
          exact J26 _ _ _ H locs ls hW (lv_sub hl [0, 1, 2] rfl) h
set_option maxHeartbeats 4000000 in
set_option maxRecDepth 100000 in
theorem c_X5_agree (l : Launch) (D : va_G) (T : Nat → ClassId) (A : Nat → Prop)  (Z : va_W)  (p1 : Int32) (p2 : Int32) (r : Int32) (h : f_X5_agree p1 p2 = some r) : Met l yX5_agree (Cond.code yX5_agree cX5_agree 5 (some .boolean) :: wsL_law) (rmd 0) (Pg D T A (Z) [.int p1, .int p2]) (Qgi D A (Z) r) 0 0 A := by
  refine Met.ofW (cc := cX5_agree) (maxL := 5) (ret := (some .boolean)) (by decide +kernel) rfl ?_
  intro p e s m args below meth c s₁ B hml hv
  obtain ⟨ha, hP, hK, hD, hN⟩ := hv
  have hx := B.exec
  have hb := B.bytes
  have hr := B.returns
  have hlk := B.notSynchronized
  have hts : ∀ w ∈ wsL_law, w.before args s = true := fun w hw => atoms_spec B.pre w (List.mem_cons_of_mem _ hw)
  have hown : s.vm.findClass RX5 = some m.cls := findClass_of_methodNamed B.named
  have hW : Wd D A s.heap (Z) s.heap [] := ⟨hP, hD, va_S.rf⟩
  have hl := lv_entry [.int p1, .int p2] (n := 5) (Nat.le_of_ble_eq_true rfl)
  refine W.eq (en_eq ha) ?_
  generalize (lg_sl [.int p1, .int p2] ++ List.replicate (5 - (lg_sl [.int p1, .int p2]).length) Slot.unset).toArray = ls at hl ⊢
  have hl : lv_has ls 5 [(0, .int p1), (1, .int p2)] := hl
  clear hP hD B ha
  obtain ⟨Q, hQ⟩ : ∃ Q, Q = MQ below (Qgi D A (Z) r) args s 0 0 A := ⟨_, rfl⟩
  rw [← hQ]
  change W p l e (rmd 0) s m args below meth c s.heap [] 0 0 Q (F0 m 0 ls [])
  have J49 : ∀ (v3_49 : Int32) (H : Heap) (locs : List Loc) (ls : Array Slot), Wd D A s.heap (Z) H locs → lv_has ls 5 [(3, .int v3_49)] → f_X5_agree_J49 v3_49 = some r → W p l e (rmd 0) s m args below meth c H locs 0 0 Q (F0 m 49 ls []) := by
    intro v3_49 H locs ls hW hl h
    rw [f_X5_agree_J49] at h
    refine lv_iconst (v := 1) hx hb dX5_agree_49 (by decide) ?_
    refine lv_goto (tgt := 54) hx hb dX5_agree_50 (by decide) ?_
    refine lv_istore (lv' := [(4, .int 1), (3, .int v3_49)]) hx hb dX5_agree_54 hl (by decide) rfl (fun ls hl => ?_)
    refine lv_iload_n hx hb dX5_agree_56 rfl (lv_at hl 1 rfl) ?_
    refine lv_if_eq (tgt := 69) hx hb dX5_agree_57 (by decide) (fun c4 => ?_) (fun c4 => ?_)
    · have h := ite_t c4 h
      refine lv_iconst (v := 0) hx hb dX5_agree_69 (by decide) ?_
      obtain rfl := ret1 h
      rw [hQ]
      exact g_retz hx hb hr hlk hW (by decide) dX5_agree_70
    · have h := ite_f c4 h
      refine lv_iload hx hb dX5_agree_60 (lv_at hl 0 rfl) ?_
      refine lv_if_eq (tgt := 69) hx hb dX5_agree_62 (by decide) (fun c5 => ?_) (fun c5 => ?_)
      · have h := ite_t c5 h
        refine lv_iconst (v := 0) hx hb dX5_agree_69 (by decide) ?_
        obtain rfl := ret1 h
        rw [hQ]
        exact g_retz hx hb hr hlk hW (by decide) dX5_agree_70
      · have h := ite_f c5 h
        refine lv_iconst (v := 1) hx hb dX5_agree_65 (by decide) ?_
        refine lv_goto (tgt := 70) hx hb dX5_agree_66 (by decide) ?_
        obtain rfl := ret1 h
        rw [hQ]
        exact g_retz hx hb hr hlk hW (by decide) dX5_agree_70
  have J27 : ∀ (v0_27 : Int32) (v1_27 : Int32) (v2_27 : Int32) (s0_27 : Int32) (H : Heap) (locs : List Loc) (ls : Array Slot), Wd D A s.heap (Z) H locs → lv_has ls 5 [(0, .int v0_27), (1, .int v1_27), (2, .int v2_27)] → f_X5_agree_J27 v0_27 v1_27 v2_27 s0_27 = some r → W p l e (rmd 0) s m args below meth c H locs 0 0 Q (F0 m 27 ls [.int s0_27]) := by
    intro v0_27 v1_27 v2_27 s0_27 H locs ls hW hl h
    rw [f_X5_agree_J27] at h
    refine lv_istore_n (lv' := [(3, .int s0_27), (0, .int v0_27), (1, .int v1_27), (2, .int v2_27)]) hx hb dX5_agree_27 rfl hl (by decide) rfl (fun ls hl => ?_)
    refine lv_iload_n hx hb dX5_agree_28 rfl (lv_at hl 3 rfl) ?_
    refine lv_bipush (v := 12) hx hb dX5_agree_29 (by decide) ?_
    refine lv_iand hx hb dX5_agree_31 ?_
    refine lv_if_eq (tgt := 49) hx hb dX5_agree_32 (by decide) (fun c3 => ?_) (fun c3 => ?_)
    · have h := ite_t c3 h
      exact J49 _ H locs ls hW (lv_sub hl [0] rfl) h
    · have h := ite_f c3 h
      refine lv_iload_n hx hb dX5_agree_35 rfl (lv_at hl 1 rfl) ?_
      refine lv_bipush (v := 12) hx hb dX5_agree_36 (by decide) ?_
      refine lv_iand hx hb dX5_agree_38 ?_
      refine lv_if_eq (tgt := 49) hx hb dX5_agree_39 (by decide) (fun c6 => ?_) (fun c6 => ?_)
      · have h := ite_t c6 h
        exact J49 _ H locs ls hW (lv_sub hl [0] rfl) h
      · have h := ite_f c6 h
        refine lv_iload_n hx hb dX5_agree_42 rfl (lv_at hl 2 rfl) ?_
        refine lv_bipush (v := 12) hx hb dX5_agree_43 (by decide) ?_
        refine lv_iand hx hb dX5_agree_45 ?_
        refine lv_if_ne (tgt := 53) hx hb dX5_agree_46 (by decide) (fun c7 => ?_) (fun c7 => ?_)
        · have h := ite_f c7 h
          refine lv_iconst (v := 0) hx hb dX5_agree_53 (by decide) ?_
          refine lv_istore (lv' := [(4, .int 0), (3, .int s0_27), (0, .int v0_27), (1, .int v1_27), (2, .int v2_27)]) hx hb dX5_agree_54 hl (by decide) rfl (fun ls hl => ?_)
          refine lv_iload_n hx hb dX5_agree_56 rfl (lv_at hl 1 rfl) ?_
          refine lv_if_eq (tgt := 69) hx hb dX5_agree_57 (by decide) (fun c8 => ?_) (fun c8 => ?_)
          · have h := ite_t c8 h
            refine lv_iconst (v := 0) hx hb dX5_agree_69 (by decide) ?_
            obtain rfl := ret1 h
            rw [hQ]
            exact g_retz hx hb hr hlk hW (by decide) dX5_agree_70
          · have h := ite_f c8 h
            refine lv_iload hx hb dX5_agree_60 (lv_at hl 0 rfl) ?_
            refine lv_if_eq (tgt := 69) hx hb dX5_agree_62 (by decide) (fun c9 => ?_) (fun c9 => ?_)
            · have h := ite_t c9 h
              refine lv_iconst (v := 0) hx hb dX5_agree_69 (by decide) ?_
              obtain rfl := ret1 h
              rw [hQ]
              exact g_retz hx hb hr hlk hW (by decide) dX5_agree_70
            · have h := ite_f c9 h
              refine lv_iconst (v := 1) hx hb dX5_agree_65 (by decide) ?_
              refine lv_goto (tgt := 70) hx hb dX5_agree_66 (by decide) ?_
              obtain rfl := ret1 h
              rw [hQ]
              exact g_retz hx hb hr hlk hW (by decide) dX5_agree_70
        · have h := ite_t c7 h
          exact J49 _ H locs ls hW (lv_sub hl [0] rfl) h
  have J22 : ∀ (v0_22 : Int32) (v1_22 : Int32) (v2_22 : Int32) (H : Heap) (locs : List Loc) (ls : Array Slot), Wd D A s.heap (Z) H locs → lv_has ls 5 [(0, .int v0_22), (1, .int v1_22), (2, .int v2_22)] → f_X5_agree_J22 v0_22 v1_22 v2_22 = some r → W p l e (rmd 0) s m args below meth c H locs 0 0 Q (F0 m 22 ls []) := by
    intro v0_22 v1_22 v2_22 H locs ls hW hl h
    rw [f_X5_agree_J22] at h
    refine lv_iconst (v := 1) hx hb dX5_agree_22 (by decide) ?_
    refine lv_goto (tgt := 27) hx hb dX5_agree_23 (by decide) ?_
    exact J27 _ _ _ _ H locs ls hW (lv_sub hl [0, 1, 2] rfl) h
  rw [f_X5_agree] at h
  suffices hm : ∀ (H : Heap) (locs : List Loc), Wd D A s.heap (Z) H locs → W p l e (rmd 0) s m args below meth c H locs 0 0 Q (F0 m 0 ls []) from hm _ _ hW
  intro H locs hW
  refine lv_iload_n hx hb dX5_agree_0 rfl (lv_at hl 0 rfl) ?_
  refine lv_iload_n hx hb dX5_agree_1 rfl (lv_at hl 1 rfl) ?_
  refine lv_ixor hx hb dX5_agree_2 ?_
  refine lv_topi (fun w2_1 ew2_1 => ?_)
  have h := lb_at ew2_1 h
  refine lv_istore_n (lv' := [(2, .int w2_1), (0, .int p1), (1, .int p2)]) hx hb dX5_agree_3 rfl hl (by decide) rfl (fun ls hl => ?_)
  refine lv_iload_n hx hb dX5_agree_4 rfl (lv_at hl 0 rfl) ?_
  refine lv_iconst (v := 3) hx hb dX5_agree_5 (by decide) ?_
  refine lv_iand hx hb dX5_agree_6 ?_
  refine lv_if_eq (tgt := 22) hx hb dX5_agree_7 (by decide) (fun c2 => ?_) (fun c2 => ?_)
  · have h := ite_t c2 h
    exact J22 _ _ _ H locs ls hW (lv_sub hl [1, 2, 0] rfl) h
  · have h := ite_f c2 h
    refine lv_iload_n hx hb dX5_agree_10 rfl (lv_at hl 1 rfl) ?_
    refine lv_iconst (v := 3) hx hb dX5_agree_11 (by decide) ?_
    refine lv_iand hx hb dX5_agree_12 ?_
    refine lv_if_eq (tgt := 22) hx hb dX5_agree_13 (by decide) (fun c10 => ?_) (fun c10 => ?_)
    · have h := ite_t c10 h
      exact J22 _ _ _ H locs ls hW (lv_sub hl [1, 2, 0] rfl) h
    · have h := ite_f c10 h
      refine lv_iload_n hx hb dX5_agree_16 rfl (lv_at hl 2 rfl) ?_
      refine lv_iconst (v := 3) hx hb dX5_agree_17 (by decide) ?_
      refine lv_iand hx hb dX5_agree_18 ?_
      refine lv_if_ne (tgt := 26) hx hb dX5_agree_19 (by decide) (fun c11 => ?_) (fun c11 => ?_)
      · have h := ite_f c11 h
        refine lv_iconst (v := 0) hx hb dX5_agree_26 (by decide) ?_
        exact J27 _ _ _ _ H locs ls hW (lv_sub hl [1, 2, 0] rfl) h
      · have h := ite_t c11 h
        exact J22 _ _ _ H locs ls hW (lv_sub hl [1, 2, 0] rfl) h
set_option maxHeartbeats 4000000 in
set_option maxRecDepth 100000 in
theorem c_X5_lookIn (l : Launch) (D : va_G) (T : Nat → ClassId) (A : Nat → Prop) (a_o : Nat → Nat) (a_q1 : Nat → Nat) (Z : va_W)  (x_o : Ob) (x_q1 : Ob) (p2 : Int32) (p3 : Int32) (p4 : Int32) (r : Int32) (x_o9 : Ob) (h : f_X5_lookIn x_o x_q1 p2 p3 p4 = some (r, x_o9)) : Met l yX5_lookIn (Cond.code yX5_lookIn cX5_lookIn 9 (some .boolean) :: wsL_law) (rmd 1) (Pg D T A (oc_X5 T a_o x_o ++ (oc_X6 T a_q1 x_q1 ++ Z)) [.ref (a_o 0), .ref (a_q1 0), .int p2, .int p3, .int p4]) (Qgi D A (oc_X5 T a_o x_o9 ++ (oc_X6 T a_q1 x_q1 ++ Z)) r) 0 0 A := by
  refine Met.ofW (cc := cX5_lookIn) (maxL := 9) (ret := (some .boolean)) (by decide +kernel) rfl ?_
  intro p e s m args below meth c s₁ B hml hv
  obtain ⟨ha, hP, hK, hD, hN⟩ := hv
  have hx := B.exec
  have hb := B.bytes
  have hr := B.returns
  have hlk := B.notSynchronized
  have hts : ∀ w ∈ wsL_law, w.before args s = true := fun w hw => atoms_spec B.pre w (List.mem_cons_of_mem _ hw)
  have hown : s.vm.findClass RX5 = some m.cls := findClass_of_methodNamed B.named
  have hW : Wd D A s.heap (oc_X5 T a_o x_o ++ (oc_X6 T a_q1 x_q1 ++ Z)) s.heap [] := ⟨hP, hD, va_S.rf⟩
  have hl := lv_entry [.ref (a_o 0), .ref (a_q1 0), .int p2, .int p3, .int p4] (n := 9) (Nat.le_of_ble_eq_true rfl)
  refine W.eq (en_eq ha) ?_
  generalize (lg_sl [.ref (a_o 0), .ref (a_q1 0), .int p2, .int p3, .int p4] ++ List.replicate (9 - (lg_sl [.ref (a_o 0), .ref (a_q1 0), .int p2, .int p3, .int p4]).length) Slot.unset).toArray = ls at hl ⊢
  have hl : lv_has ls 9 [(0, .ref (a_o 0)), (1, .ref (a_q1 0)), (2, .int p2), (3, .int p3), (4, .int p4)] := hl
  clear hP hD B ha
  obtain ⟨Q, hQ⟩ : ∃ Q, Q = MQ below (Qgi D A (oc_X5 T a_o x_o9 ++ (oc_X6 T a_q1 x_q1 ++ Z)) r) args s 0 0 A := ⟨_, rfl⟩
  rw [← hQ]
  change W p l e (rmd 1) s m args below meth c s.heap [] 0 0 Q (F0 m 0 ls [])
  have L29 : ∀ (n : Nat) (x_o_29 : Ob) (v2_29 : Int32) (v4_29 : Int32) (v5_29 : Int32) (v6_29 : Int32) (v7_29 : Int32) (H : Heap) (locs : List Loc) (ls : Array Slot) (code : Nat) (o7_29r : Int32) (o8_29r : Int32), Wd D A s.heap (oc_X5 T a_o x_o_29 ++ (oc_X6 T a_q1 x_q1 ++ Z)) H locs → lv_has ls 9 [(0, .ref (a_o 0)), (1, .ref (a_q1 0)), (2, .int v2_29), (4, .int v4_29), (5, .int v5_29), (6, .int v6_29), (7, .int v7_29)] → f_X5_lookIn_L29 n x_o_29 x_q1 v2_29 v4_29 v5_29 v6_29 v7_29 = some (code, o7_29r, o8_29r) → (code = 1 → ∀ (H : Heap) (locs : List Loc) (ls : Array Slot), Wd D A s.heap (oc_X5 T a_o x_o_29 ++ (oc_X6 T a_q1 x_q1 ++ Z)) H locs → lv_has ls 9 [(0, .ref (a_o 0)), (1, .ref (a_q1 0)), (2, .int v2_29), (4, .int v4_29), (5, .int v5_29)] → W p l e (rmd 1) s m args below meth c H locs 0 0 Q (F0 m 93 ls [])) → (code = 2 → ∀ (H : Heap) (locs : List Loc) (ls : Array Slot), Wd D A s.heap (oc_X5 T a_o x_o_29 ++ (oc_X6 T a_q1 x_q1 ++ Z)) H locs → lv_has ls 9 [(0, .ref (a_o 0)), (2, .int v2_29), (5, .int v5_29), (8, .int o8_29r)] → W p l e (rmd 1) s m args below meth c H locs 0 0 Q (F0 m 65 ls [])) → W p l e (rmd 1) s m args below meth c H locs 0 0 Q (F0 m 29 ls []) := by
    intro n
    induction n with
    | zero =>
      intro x_o_29 v2_29 v4_29 v5_29 v6_29 v7_29 H locs ls code o7_29r o8_29r hW hl h k1 k2
      rw [f_X5_lookIn_L29] at h
      cases h
    | succ n ih =>
      intro x_o_29 v2_29 v4_29 v5_29 v6_29 v7_29 H locs ls code o7_29r o8_29r hW hl h k1 k2
      rw [f_X5_lookIn_L29] at h
      refine lv_iload hx hb dX5_lookIn_29 (lv_at hl 6 rfl) ?_
      refine lv_iconst (v := 4) hx hb dX5_lookIn_31 (by decide) ?_
      refine lv_icmp_ge (tgt := 93) hx hb dX5_lookIn_32 (by decide) (fun c5 => ?_) (fun c5 => ?_)
      · have h := ite_t c5 h
        obtain ⟨rfl, rfl, rfl⟩ := ret3 h
        exact k1 rfl H locs ls hW (lv_sub hl [0, 1, 2, 3, 4] rfl)
      · have h := ite_f c5 h
        refine lv_aload_n hx hb dX5_lookIn_35 rfl (lv_at hl 1 rfl) ?_
        refine lv_iload hx hb dX5_lookIn_36 (lv_at hl 4 rfl) ?_
        refine lv_iload hx hb dX5_lookIn_38 (lv_at hl 6 rfl) ?_
        have hW := hW.perm pf1
        obtain ⟨r6, q7, h⟩ := bnd1_s h
        refine cl_X5_35 hx hb hml hown hts hK hN hW (c_X6_featuresOf l D T A a_q1 (oc_X5 T a_o x_o_29 ++ Z) x_q1 v5_29 v7_29 r6 q7) ⟨Nat.le_of_ble_eq_true rfl, Nat.le_of_ble_eq_true rfl⟩ hl.1 rfl (Nat.le_of_ble_eq_true rfl) dX5_lookIn_40 ⟨Nat.zero_le _, Nat.zero_le _⟩ rfl (fun H locs hW => ?_)
        have hW := hW.perm pf1
        refine lv_istore (lv' := [(8, .int r6), (0, .ref (a_o 0)), (1, .ref (a_q1 0)), (2, .int v2_29), (4, .int v4_29), (5, .int v5_29), (6, .int v6_29), (7, .int v7_29)]) hx hb dX5_lookIn_43 hl (by decide) rfl (fun ls hl => ?_)
        refine lv_iload hx hb dX5_lookIn_45 (lv_at hl 6 rfl) ?_
        refine lv_iload hx hb dX5_lookIn_47 (lv_at hl 7 rfl) ?_
        refine lv_ishr hx hb dX5_lookIn_49 ?_
        refine lv_iconst (v := 1) hx hb dX5_lookIn_50 (by decide) ?_
        refine lv_iand hx hb dX5_lookIn_51 ?_
        refine lv_if_eq (tgt := 87) hx hb dX5_lookIn_52 (by decide) (fun c8 => ?_) (fun c8 => ?_)
        · have h := ite_t c8 h
          obtain ⟨w7_9, ew7_9⟩ : ∃ y : Int32, y = v7_29 + 1 := ⟨_, rfl⟩
          have h := lb_at ew7_9 h
          refine lv_iinc (v := w7_9) (lv' := [(7, .int w7_9), (8, .int r6), (0, .ref (a_o 0)), (1, .ref (a_q1 0)), (2, .int v2_29), (4, .int v4_29), (5, .int v5_29), (6, .int v6_29)]) hx hb dX5_lookIn_87 hl (k := 7) rfl (by rw [ew7_9]; rfl) (by decide) rfl (fun ls hl => ?_)
          refine lv_goto (tgt := 29) hx hb dX5_lookIn_90 (by decide) ?_
          exact ih _ _ _ _ _ _ H locs ls _ _ _ hW (lv_sub hl [2, 3, 4, 5, 6, 7, 0] rfl) h k1 k2
        · have h := ite_f c8 h
          refine lv_iload hx hb dX5_lookIn_55 (lv_at hl 0 rfl) ?_
          refine lv_iload hx hb dX5_lookIn_57 (lv_at hl 4 rfl) ?_
          obtain ⟨r10, q11, h⟩ := bnd1_s h
          refine cl_X5_38 hx hb hml hown hts hK hN hW (c_X5_agree l D T A (oc_X5 T a_o x_o_29 ++ (oc_X6 T a_q1 x_q1 ++ Z)) r6 v4_29 r10 q11) ⟨Nat.le_of_ble_eq_true rfl, Nat.le_of_ble_eq_true rfl⟩ hl.1 rfl (Nat.le_of_ble_eq_true rfl) dX5_lookIn_59 ⟨Nat.zero_le _, Nat.zero_le _⟩ rfl (fun H locs hW => ?_)
          refine lv_if_eq (tgt := 87) hx hb dX5_lookIn_62 (by decide) (fun c12 => ?_) (fun c12 => ?_)
          · have h := ite_t c12 h
            obtain ⟨w7_13, ew7_13⟩ : ∃ y : Int32, y = v7_29 + 1 := ⟨_, rfl⟩
            have h := lb_at ew7_13 h
            refine lv_iinc (v := w7_13) (lv' := [(7, .int w7_13), (8, .int r6), (0, .ref (a_o 0)), (1, .ref (a_q1 0)), (2, .int v2_29), (4, .int v4_29), (5, .int v5_29), (6, .int v6_29)]) hx hb dX5_lookIn_87 hl (k := 7) rfl (by rw [ew7_13]; rfl) (by decide) rfl (fun ls hl => ?_)
            refine lv_goto (tgt := 29) hx hb dX5_lookIn_90 (by decide) ?_
            exact ih _ _ _ _ _ _ H locs ls _ _ _ hW (lv_sub hl [2, 3, 4, 5, 6, 7, 0] rfl) h k1 k2
          · have h := ite_f c12 h
            obtain ⟨rfl, rfl, rfl⟩ := ret3 h
            exact k2 rfl H locs ls hW (lv_sub hl [1, 3, 5, 0] rfl)
  have L12 : ∀ (n : Nat) (x_o_12 : Ob) (v2_12 : Int32) (v4_12 : Int32) (v5_12 : Int32) (H : Heap) (locs : List Loc) (ls : Array Slot) (code : Nat) (o5_12r : Int32) (o8_12r : Int32), Wd D A s.heap (oc_X5 T a_o x_o_12 ++ (oc_X6 T a_q1 x_q1 ++ Z)) H locs → lv_has ls 9 [(0, .ref (a_o 0)), (1, .ref (a_q1 0)), (2, .int v2_12), (4, .int v4_12), (5, .int v5_12)] → f_X5_lookIn_L12 n x_o_12 x_q1 v2_12 v4_12 v5_12 = some (code, o5_12r, o8_12r) → (code = 1 → ∀ (H : Heap) (locs : List Loc) (ls : Array Slot), Wd D A s.heap (oc_X5 T a_o x_o_12 ++ (oc_X6 T a_q1 x_q1 ++ Z)) H locs → lv_has ls 9 [] → W p l e (rmd 1) s m args below meth c H locs 0 0 Q (F0 m 99 ls [])) → (code = 2 → ∀ (H : Heap) (locs : List Loc) (ls : Array Slot), Wd D A s.heap (oc_X5 T a_o x_o_12 ++ (oc_X6 T a_q1 x_q1 ++ Z)) H locs → lv_has ls 9 [(0, .ref (a_o 0)), (2, .int v2_12), (5, .int o5_12r), (8, .int o8_12r)] → W p l e (rmd 1) s m args below meth c H locs 0 0 Q (F0 m 65 ls [])) → W p l e (rmd 1) s m args below meth c H locs 0 0 Q (F0 m 12 ls []) := by
    intro n
    induction n with
    | zero =>
      intro x_o_12 v2_12 v4_12 v5_12 H locs ls code o5_12r o8_12r hW hl h k1 k2
      rw [f_X5_lookIn_L12] at h
      cases h
    | succ n ih =>
      intro x_o_12 v2_12 v4_12 v5_12 H locs ls code o5_12r o8_12r hW hl h k1 k2
      rw [f_X5_lookIn_L12] at h
      refine lv_iload hx hb dX5_lookIn_12 (lv_at hl 4 rfl) ?_
      refine lv_if_lt (tgt := 99) hx hb dX5_lookIn_14 (by decide) (fun c2 => ?_) (fun c2 => ?_)
      · have h := ite_t c2 h
        obtain ⟨rfl, rfl, rfl⟩ := ret3 h
        exact k1 rfl H locs ls hW (lv_sub hl [] rfl)
      · have h := ite_f c2 h
        refine lv_aload_n hx hb dX5_lookIn_17 rfl (lv_at hl 1 rfl) ?_
        refine lv_iload hx hb dX5_lookIn_18 (lv_at hl 4 rfl) ?_
        refine lv_iconst (v := 0) hx hb dX5_lookIn_20 (by decide) ?_
        have hW := hW.perm pf1
        obtain ⟨r3, q4, h⟩ := bnd1_s h
        refine cl_X5_32 hx hb hml hown hts hK hN hW (c_X6_leftOf l D T A a_q1 (oc_X5 T a_o x_o_12 ++ Z) x_q1 v5_12 0 r3 q4) ⟨Nat.le_of_ble_eq_true rfl, Nat.le_of_ble_eq_true rfl⟩ hl.1 rfl (Nat.le_of_ble_eq_true rfl) dX5_lookIn_21 ⟨Nat.zero_le _, Nat.zero_le _⟩ rfl (fun H locs hW => ?_)
        have hW := hW.perm pf1
        refine lv_istore (lv' := [(6, .int r3), (0, .ref (a_o 0)), (1, .ref (a_q1 0)), (2, .int v2_12), (4, .int v4_12), (5, .int v5_12)]) hx hb dX5_lookIn_24 hl (by decide) rfl (fun ls hl => ?_)
        refine lv_iconst (v := 0) hx hb dX5_lookIn_26 (by decide) ?_
        refine lv_istore (lv' := [(7, .int 0), (6, .int r3), (0, .ref (a_o 0)), (1, .ref (a_q1 0)), (2, .int v2_12), (4, .int v4_12), (5, .int v5_12)]) hx hb dX5_lookIn_27 hl (by decide) rfl (fun ls hl => ?_)
        obtain ⟨code15, o7_u14, o8_u14, q16, h⟩ := bnd3_s h
        refine L29 200 _ _ _ _ _ _ H locs ls code15 o7_u14 o8_u14 hW (lv_sub hl [2, 3, 4, 5, 6, 1, 0] rfl) q16 (fun hc H locs ls hW hl => ?_) (fun hc H locs ls hW hl => ?_)
        · have h := ite_t hc h
          obtain ⟨w5_17, ew5_17⟩ : ∃ y : Int32, y = v5_12 + (-1) := ⟨_, rfl⟩
          have h := lb_at ew5_17 h
          refine lv_iinc (v := w5_17) (lv' := [(5, .int w5_17), (0, .ref (a_o 0)), (1, .ref (a_q1 0)), (2, .int v2_12), (4, .int v4_12)]) hx hb dX5_lookIn_93 hl (k := 4) rfl (by rw [ew5_17]; rfl) (by decide) rfl (fun ls hl => ?_)
          refine lv_goto (tgt := 12) hx hb dX5_lookIn_96 (by decide) ?_
          exact ih _ _ _ _ H locs ls _ _ _ hW (lv_sub hl [1, 2, 3, 4, 0] rfl) h k1 k2
        · have h := ite_f (by rw [hc]; decide) h
          obtain ⟨rfl, rfl, rfl⟩ := ret3 h
          exact k2 rfl H locs ls hW (lv_sub hl [0, 1, 2, 3] rfl)
  rw [f_X5_lookIn] at h
  suffices hm : ∀ (H : Heap) (locs : List Loc), Wd D A s.heap (oc_X5 T a_o x_o ++ (oc_X6 T a_q1 x_q1 ++ Z)) H locs → W p l e (rmd 1) s m args below meth c H locs 0 0 Q (F0 m 0 ls []) from hm _ _ hW
  intro H locs hW
  refine lv_iload_n hx hb dX5_lookIn_0 rfl (lv_at hl 3 rfl) ?_
  refine lv_aload_n hx hb dX5_lookIn_1 rfl (lv_at hl 1 rfl) ?_
  refine fg_X5_21 (v := .int (x_q1 0 0)) hx hb hts hN hown hK hW 1 rfl rfl dX5_lookIn_2 ?_
  refine va_mmin hx hb (hml.trans hl.1.symm) hown (hts _ wm19_19) (hts _ wm12_16) (hts _ wm12_17) (hts _ wm12_18) (Nat.le_of_ble_eq_true rfl) (Nat.le_of_ble_eq_true rfl) (Nat.zero_le _) (Nat.zero_le _) dX5_lookIn_5 ?_
  refine lv_iconst (v := 1) hx hb dX5_lookIn_8 (by decide) ?_
  refine lv_isub hx hb dX5_lookIn_9 ?_
  refine lv_topi (fun w5_1 ew5_1 => ?_)
  have h := lb_at ew5_1 h
  refine lv_istore (lv' := [(5, .int w5_1), (0, .ref (a_o 0)), (1, .ref (a_q1 0)), (2, .int p2), (3, .int p3), (4, .int p4)]) hx hb dX5_lookIn_10 hl (by decide) rfl (fun ls hl => ?_)
  obtain ⟨code19, o5_u18, o8_u18, q20, h⟩ := bnd3_s h
  refine L12 200 _ _ _ _ H locs ls code19 o5_u18 o8_u18 hW (lv_sub hl [1, 2, 3, 5, 0] rfl) q20 (fun hc H locs ls hW hl => ?_) (fun hc H locs ls hW hl => ?_)
  · have h := ite_t hc h
    refine lv_iconst (v := 0) hx hb dX5_lookIn_99 (by decide) ?_
    obtain ⟨rfl, rfl⟩ := ret2 h
    rw [hQ]
    exact g_retz hx hb hr hlk hW (by decide) dX5_lookIn_100
  · have h := ite_f (by rw [hc]; decide) h
    refine lv_aload_n hx hb dX5_lookIn_65 rfl (lv_at hl 0 rfl) ?_
    refine lv_iload_n hx hb dX5_lookIn_66 rfl (lv_at hl 1 rfl) ?_
    refine fp_X5_9 (ws9 := oc_X5 T a_o (upo x_o 0 0 p2) ++ (oc_X6 T a_q1 x_q1 ++ Z)) hx hb hts hown hK hW 0 rfl (Nat.le_of_ble_eq_true rfl) sf_X5_0 dX5_lookIn_67 (fun H locs hW => ?_)
    obtain ⟨x_o21, ex_o21⟩ : ∃ y : Ob, y = upo x_o 0 0 p2 := ⟨_, rfl⟩
    rw [← ex_o21] at hW
    have h := lb_at ex_o21 h
    refine lv_aload_n hx hb dX5_lookIn_70 rfl (lv_at hl 0 rfl) ?_
    refine lv_iload hx hb dX5_lookIn_71 (lv_at hl 2 rfl) ?_
    refine fp_X5_15 (ws9 := oc_X5 T a_o (upo x_o21 1 0 o5_u18) ++ (oc_X6 T a_q1 x_q1 ++ Z)) hx hb hts hown hK hW 0 rfl (Nat.le_of_ble_eq_true rfl) sf_X5_1 dX5_lookIn_73 (fun H locs hW => ?_)
    obtain ⟨x_o22, ex_o22⟩ : ∃ y : Ob, y = upo x_o21 1 0 o5_u18 := ⟨_, rfl⟩
    rw [← ex_o22] at hW
    have h := lb_at ex_o22 h
    refine lv_aload_n hx hb dX5_lookIn_76 rfl (lv_at hl 0 rfl) ?_
    refine lv_iload hx hb dX5_lookIn_77 (lv_at hl 3 rfl) ?_
    refine lv_bipush (v := 15) hx hb dX5_lookIn_79 (by decide) ?_
    refine lv_iand hx hb dX5_lookIn_81 ?_
    refine fp_X5_18 (ws9 := oc_X5 T a_o (upo x_o22 2 0 (o8_u18 &&& (15 : Int32))) ++ (oc_X6 T a_q1 x_q1 ++ Z)) hx hb hts hown hK hW 0 rfl (Nat.le_of_ble_eq_true rfl) sf_X5_2 dX5_lookIn_82 (fun H locs hW => ?_)
    obtain ⟨x_o23, ex_o23⟩ : ∃ y : Ob, y = upo x_o22 2 0 (o8_u18 &&& (15 : Int32)) := ⟨_, rfl⟩
    rw [← ex_o23] at hW
    have h := lb_at ex_o23 h
    refine lv_iconst (v := 1) hx hb dX5_lookIn_85 (by decide) ?_
    obtain ⟨rfl, rfl⟩ := ret2 h
    rw [hQ]
    exact g_retz hx hb hr hlk hW (by decide) dX5_lookIn_86
set_option maxHeartbeats 4000000 in
set_option maxRecDepth 100000 in
theorem c_X6_isFull (l : Launch) (D : va_G) (T : Nat → ClassId) (A : Nat → Prop) (a_o : Nat → Nat) (Z : va_W)  (x_o : Ob) (r : Int32) (h : f_X6_isFull x_o = some r) : Met l yX6_isFull (Cond.code yX6_isFull cX6_isFull 1 (some .boolean) :: wsL_law) (rmd 0) (Pg D T A (oc_X6 T a_o x_o ++ Z) [.ref (a_o 0)]) (Qgi D A (oc_X6 T a_o x_o ++ Z) r) 0 0 A := by
  refine Met.ofW (cc := cX6_isFull) (maxL := 1) (ret := (some .boolean)) (by decide +kernel) rfl ?_
  intro p e s m args below meth c s₁ B hml hv
  obtain ⟨ha, hP, hK, hD, hN⟩ := hv
  have hx := B.exec
  have hb := B.bytes
  have hr := B.returns
  have hlk := B.notSynchronized
  have hts : ∀ w ∈ wsL_law, w.before args s = true := fun w hw => atoms_spec B.pre w (List.mem_cons_of_mem _ hw)
  have hown : s.vm.findClass RX6 = some m.cls := findClass_of_methodNamed B.named
  have hW : Wd D A s.heap (oc_X6 T a_o x_o ++ Z) s.heap [] := ⟨hP, hD, va_S.rf⟩
  have hl := lv_entry [.ref (a_o 0)] (n := 1) (Nat.le_of_ble_eq_true rfl)
  refine W.eq (en_eq ha) ?_
  generalize (lg_sl [.ref (a_o 0)] ++ List.replicate (1 - (lg_sl [.ref (a_o 0)]).length) Slot.unset).toArray = ls at hl ⊢
  have hl : lv_has ls 1 [(0, .ref (a_o 0))] := hl
  clear hP hD B ha
  obtain ⟨Q, hQ⟩ : ∃ Q, Q = MQ below (Qgi D A (oc_X6 T a_o x_o ++ Z) r) args s 0 0 A := ⟨_, rfl⟩
  rw [← hQ]
  change W p l e (rmd 0) s m args below meth c s.heap [] 0 0 Q (F0 m 0 ls [])
  rw [f_X6_isFull] at h
  suffices hm : ∀ (H : Heap) (locs : List Loc), Wd D A s.heap (oc_X6 T a_o x_o ++ Z) H locs → W p l e (rmd 0) s m args below meth c H locs 0 0 Q (F0 m 0 ls []) from hm _ _ hW
  intro H locs hW
  refine lv_aload_n hx hb dX6_isFull_0 rfl (lv_at hl 0 rfl) ?_
  refine fg_X6_9 (v := .int (x_o 0 0)) hx hb hts hown hK hW 0 rfl rfl dX6_isFull_1 ?_
  refine lv_bipush (v := 6) hx hb dX6_isFull_4 (by decide) ?_
  refine lv_icmp_lt (tgt := 13) hx hb dX6_isFull_6 (by decide) (fun c1 => ?_) (fun c1 => ?_)
  · have h := ite_t c1 h
    refine lv_iconst (v := 0) hx hb dX6_isFull_13 (by decide) ?_
    obtain rfl := ret1 h
    rw [hQ]
    exact g_retz hx hb hr hlk hW (by decide) dX6_isFull_14
  · have h := ite_f c1 h
    refine lv_iconst (v := 1) hx hb dX6_isFull_9 (by decide) ?_
    refine lv_goto (tgt := 14) hx hb dX6_isFull_10 (by decide) ?_
    obtain rfl := ret1 h
    rw [hQ]
    exact g_retz hx hb hr hlk hW (by decide) dX6_isFull_14
set_option maxHeartbeats 4000000 in
set_option maxRecDepth 100000 in
theorem c_X6_outdate (l : Launch) (D : va_G) (T : Nat → ClassId) (A : Nat → Prop) (a_o : Nat → Nat) (Z : va_W)  (x_o : Ob) (x_o9 : Ob) (h : f_X6_outdate x_o = some x_o9) : Met l yX6_outdate (Cond.code yX6_outdate cX6_outdate 1 none :: wsL_law) (rmd 0) (Pg D T A (oc_X6 T a_o x_o ++ Z) [.ref (a_o 0)]) (Qgv D A (oc_X6 T a_o x_o9 ++ Z)) 0 0 A := by
  refine Met.ofW (cc := cX6_outdate) (maxL := 1) (ret := none) (by decide +kernel) rfl ?_
  intro p e s m args below meth c s₁ B hml hv
  obtain ⟨ha, hP, hK, hD, hN⟩ := hv
  have hx := B.exec
  have hb := B.bytes
  have hr := B.returns
  have hlk := B.notSynchronized
  have hts : ∀ w ∈ wsL_law, w.before args s = true := fun w hw => atoms_spec B.pre w (List.mem_cons_of_mem _ hw)
  have hown : s.vm.findClass RX6 = some m.cls := findClass_of_methodNamed B.named
  have hW : Wd D A s.heap (oc_X6 T a_o x_o ++ Z) s.heap [] := ⟨hP, hD, va_S.rf⟩
  have hl := lv_entry [.ref (a_o 0)] (n := 1) (Nat.le_of_ble_eq_true rfl)
  refine W.eq (en_eq ha) ?_
  generalize (lg_sl [.ref (a_o 0)] ++ List.replicate (1 - (lg_sl [.ref (a_o 0)]).length) Slot.unset).toArray = ls at hl ⊢
  have hl : lv_has ls 1 [(0, .ref (a_o 0))] := hl
  clear hP hD B ha
  obtain ⟨Q, hQ⟩ : ∃ Q, Q = MQ below (Qgv D A (oc_X6 T a_o x_o9 ++ Z)) args s 0 0 A := ⟨_, rfl⟩
  rw [← hQ]
  change W p l e (rmd 0) s m args below meth c s.heap [] 0 0 Q (F0 m 0 ls [])
  rw [f_X6_outdate] at h
  suffices hm : ∀ (H : Heap) (locs : List Loc), Wd D A s.heap (oc_X6 T a_o x_o ++ Z) H locs → W p l e (rmd 0) s m args below meth c H locs 0 0 Q (F0 m 0 ls []) from hm _ _ hW
  intro H locs hW
  refine lv_aload_n hx hb dX6_outdate_0 rfl (lv_at hl 0 rfl) ?_
  refine lv_iconst (v := 0) hx hb dX6_outdate_1 (by decide) ?_
  refine fp_X6_38 (ws9 := oc_X6 T a_o (upo x_o 7 0 0) ++ Z) hx hb hts hown hK hW 0 rfl (Nat.le_of_ble_eq_true rfl) (by decide) sf_X6_7 dX6_outdate_2 (fun H locs hW => ?_)
  obtain ⟨x_o1, ex_o1⟩ : ∃ y : Ob, y = upo x_o 7 0 0 := ⟨_, rfl⟩
  rw [← ex_o1] at hW
  have h := lb_at ex_o1 h
  refine lv_aload_n hx hb dX6_outdate_5 rfl (lv_at hl 0 rfl) ?_
  refine lv_iconst (v := 1) hx hb dX6_outdate_6 (by decide) ?_
  refine fp_X6_42 (ws9 := oc_X6 T a_o (upo x_o1 8 0 1) ++ Z) hx hb hts hown hK hW 0 rfl (Nat.le_of_ble_eq_true rfl) (by decide) sf_X6_8 dX6_outdate_7 (fun H locs hW => ?_)
  obtain ⟨x_o2, ex_o2⟩ : ∃ y : Ob, y = upo x_o1 8 0 1 := ⟨_, rfl⟩
  rw [← ex_o2] at hW
  have h := lb_at ex_o2 h
  obtain rfl := ret1 h
  rw [hQ]
  exact g_retv hx hb hr hlk hW dX6_outdate_10
set_option maxHeartbeats 4000000 in
set_option maxRecDepth 100000 in
theorem c_X6_wordIn (l : Launch) (D : va_G) (T : Nat → ClassId) (A : Nat → Prop) (a_o : Nat → Nat) (Z : va_W)  (x_o : Ob) (p1 : Int32) (r : Int32) (h : f_X6_wordIn x_o p1 = some r) : Met l yX6_wordIn (Cond.code yX6_wordIn cX6_wordIn 2 (some .int) :: wsL_law) (rmd 0) (Pg D T A (oc_X6 T a_o x_o ++ Z) [.ref (a_o 0), .int p1]) (Qgi D A (oc_X6 T a_o x_o ++ Z) r) 0 0 A := by
  refine Met.ofW (cc := cX6_wordIn) (maxL := 2) (ret := (some .int)) (by decide +kernel) rfl ?_
  intro p e s m args below meth c s₁ B hml hv
  obtain ⟨ha, hP, hK, hD, hN⟩ := hv
  have hx := B.exec
  have hb := B.bytes
  have hr := B.returns
  have hlk := B.notSynchronized
  have hts : ∀ w ∈ wsL_law, w.before args s = true := fun w hw => atoms_spec B.pre w (List.mem_cons_of_mem _ hw)
  have hown : s.vm.findClass RX6 = some m.cls := findClass_of_methodNamed B.named
  have hW : Wd D A s.heap (oc_X6 T a_o x_o ++ Z) s.heap [] := ⟨hP, hD, va_S.rf⟩
  have hl := lv_entry [.ref (a_o 0), .int p1] (n := 2) (Nat.le_of_ble_eq_true rfl)
  refine W.eq (en_eq ha) ?_
  generalize (lg_sl [.ref (a_o 0), .int p1] ++ List.replicate (2 - (lg_sl [.ref (a_o 0), .int p1]).length) Slot.unset).toArray = ls at hl ⊢
  have hl : lv_has ls 2 [(0, .ref (a_o 0)), (1, .int p1)] := hl
  clear hP hD B ha
  obtain ⟨Q, hQ⟩ : ∃ Q, Q = MQ below (Qgi D A (oc_X6 T a_o x_o ++ Z) r) args s 0 0 A := ⟨_, rfl⟩
  rw [← hQ]
  change W p l e (rmd 0) s m args below meth c s.heap [] 0 0 Q (F0 m 0 ls [])
  rw [f_X6_wordIn] at h
  suffices hm : ∀ (H : Heap) (locs : List Loc), Wd D A s.heap (oc_X6 T a_o x_o ++ Z) H locs → W p l e (rmd 0) s m args below meth c H locs 0 0 Q (F0 m 0 ls []) from hm _ _ hW
  intro H locs hW
  refine lv_iload_n hx hb dX6_wordIn_0 rfl (lv_at hl 1 rfl) ?_
  refine lv_if_lt (tgt := 21) hx hb dX6_wordIn_1 (by decide) (fun c1 => ?_) (fun c1 => ?_)
  · have h := ite_t c1 h
    refine lv_iconst (v := (-1)) hx hb dX6_wordIn_21 (by decide) ?_
    obtain rfl := ret1 h
    rw [hQ]
    exact g_reti hx hb hr hlk hW dX6_wordIn_22
  · have h := ite_f c1 h
    refine lv_iload_n hx hb dX6_wordIn_4 rfl (lv_at hl 1 rfl) ?_
    refine lv_aload_n hx hb dX6_wordIn_5 rfl (lv_at hl 0 rfl) ?_
    refine fg_X6_9 (v := .int (x_o 0 0)) hx hb hts hown hK hW 0 rfl rfl dX6_wordIn_6 ?_
    refine lv_icmp_ge (tgt := 21) hx hb dX6_wordIn_9 (by decide) (fun c2 => ?_) (fun c2 => ?_)
    · have h := ite_t c2 h
      refine lv_iconst (v := (-1)) hx hb dX6_wordIn_21 (by decide) ?_
      obtain rfl := ret1 h
      rw [hQ]
      exact g_reti hx hb hr hlk hW dX6_wordIn_22
    · have h := ite_f c2 h
      refine lv_aload_n hx hb dX6_wordIn_12 rfl (lv_at hl 0 rfl) ?_
      refine fg_X6_15 (v := .ref (a_o 1)) hx hb hts hown hK hW 0 rfl rfl dX6_wordIn_13 ?_
      refine lv_iload_n hx hb dX6_wordIn_16 rfl (lv_at hl 1 rfl) ?_
      obtain ⟨g3, h⟩ := grd_s h
      refine g_iald hx hb hK hW 1 rfl g3 dX6_wordIn_17 ?_
      refine lv_goto (tgt := 22) hx hb dX6_wordIn_18 (by decide) ?_
      obtain rfl := ret1 h
      rw [hQ]
      exact g_reti hx hb hr hlk hW dX6_wordIn_22
set_option maxHeartbeats 4000000 in
set_option maxRecDepth 100000 in
theorem c_X6_leftIn (l : Launch) (D : va_G) (T : Nat → ClassId) (A : Nat → Prop) (a_o : Nat → Nat) (Z : va_W)  (x_o : Ob) (p1 : Int32) (r : Int32) (h : f_X6_leftIn x_o p1 = some r) : Met l yX6_leftIn (Cond.code yX6_leftIn cX6_leftIn 2 (some .int) :: wsL_law) (rmd 0) (Pg D T A (oc_X6 T a_o x_o ++ Z) [.ref (a_o 0), .int p1]) (Qgi D A (oc_X6 T a_o x_o ++ Z) r) 0 0 A := by
  refine Met.ofW (cc := cX6_leftIn) (maxL := 2) (ret := (some .int)) (by decide +kernel) rfl ?_
  intro p e s m args below meth c s₁ B hml hv
  obtain ⟨ha, hP, hK, hD, hN⟩ := hv
  have hx := B.exec
  have hb := B.bytes
  have hr := B.returns
  have hlk := B.notSynchronized
  have hts : ∀ w ∈ wsL_law, w.before args s = true := fun w hw => atoms_spec B.pre w (List.mem_cons_of_mem _ hw)
  have hown : s.vm.findClass RX6 = some m.cls := findClass_of_methodNamed B.named
  have hW : Wd D A s.heap (oc_X6 T a_o x_o ++ Z) s.heap [] := ⟨hP, hD, va_S.rf⟩
  have hl := lv_entry [.ref (a_o 0), .int p1] (n := 2) (Nat.le_of_ble_eq_true rfl)
  refine W.eq (en_eq ha) ?_
  generalize (lg_sl [.ref (a_o 0), .int p1] ++ List.replicate (2 - (lg_sl [.ref (a_o 0), .int p1]).length) Slot.unset).toArray = ls at hl ⊢
  have hl : lv_has ls 2 [(0, .ref (a_o 0)), (1, .int p1)] := hl
  clear hP hD B ha
  obtain ⟨Q, hQ⟩ : ∃ Q, Q = MQ below (Qgi D A (oc_X6 T a_o x_o ++ Z) r) args s 0 0 A := ⟨_, rfl⟩
  rw [← hQ]
  change W p l e (rmd 0) s m args below meth c s.heap [] 0 0 Q (F0 m 0 ls [])
  rw [f_X6_leftIn] at h
  suffices hm : ∀ (H : Heap) (locs : List Loc), Wd D A s.heap (oc_X6 T a_o x_o ++ Z) H locs → W p l e (rmd 0) s m args below meth c H locs 0 0 Q (F0 m 0 ls []) from hm _ _ hW
  intro H locs hW
  refine lv_iload_n hx hb dX6_leftIn_0 rfl (lv_at hl 1 rfl) ?_
  refine lv_if_lt (tgt := 21) hx hb dX6_leftIn_1 (by decide) (fun c1 => ?_) (fun c1 => ?_)
  · have h := ite_t c1 h
    refine lv_iconst (v := 0) hx hb dX6_leftIn_21 (by decide) ?_
    obtain rfl := ret1 h
    rw [hQ]
    exact g_reti hx hb hr hlk hW dX6_leftIn_22
  · have h := ite_f c1 h
    refine lv_iload_n hx hb dX6_leftIn_4 rfl (lv_at hl 1 rfl) ?_
    refine lv_aload_n hx hb dX6_leftIn_5 rfl (lv_at hl 0 rfl) ?_
    refine fg_X6_9 (v := .int (x_o 0 0)) hx hb hts hown hK hW 0 rfl rfl dX6_leftIn_6 ?_
    refine lv_icmp_ge (tgt := 21) hx hb dX6_leftIn_9 (by decide) (fun c2 => ?_) (fun c2 => ?_)
    · have h := ite_t c2 h
      refine lv_iconst (v := 0) hx hb dX6_leftIn_21 (by decide) ?_
      obtain rfl := ret1 h
      rw [hQ]
      exact g_reti hx hb hr hlk hW dX6_leftIn_22
    · have h := ite_f c2 h
      refine lv_aload_n hx hb dX6_leftIn_12 rfl (lv_at hl 0 rfl) ?_
      refine fg_X6_19 (v := .ref (a_o 2)) hx hb hts hown hK hW 0 rfl rfl dX6_leftIn_13 ?_
      refine lv_iload_n hx hb dX6_leftIn_16 rfl (lv_at hl 1 rfl) ?_
      obtain ⟨g3, h⟩ := grd_s h
      refine g_iald hx hb hK hW 2 rfl g3 dX6_leftIn_17 ?_
      refine lv_goto (tgt := 22) hx hb dX6_leftIn_18 (by decide) ?_
      obtain rfl := ret1 h
      rw [hQ]
      exact g_reti hx hb hr hlk hW dX6_leftIn_22
