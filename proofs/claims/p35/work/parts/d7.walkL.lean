set_option maxHeartbeats 16000000 in
set_option maxRecDepth 100000 in
theorem c_L_some (l : Launch) (D : va_G) (T : Nat → ClassId) (A : Nat → Prop)  (Z : va_W) (p1 : Int32) (p2 : Int32) (r : Int32) (h : f_L_some p1 p2 = some r) : Met l yL_some (Cond.code yL_some cL_some 2 (some .int) :: wsL_law) (rmL 0 0) (Pl D T A (Z) [.int p1, .int p2]) (Qgi D A (Z) r) 0 0 A := by
  refine Met.ofW (cc := cL_some) (maxL := 2) (ret := (some .int)) (by decide +kernel) rfl ?_
  intro p e s m args below meth c s₁ B hml hv
  obtain ⟨ha, hP, hK, hD, hN, hE, hC, hA⟩ := hv
  have hx := B.exec
  have hb := B.bytes
  have hr := B.returns
  have hlk := B.notSynchronized
  have hts : ∀ w ∈ wsL_law, w.before args s = true := fun w hw => atoms_spec B.pre w (List.mem_cons_of_mem _ hw)
  have hown : s.vm.findClass RL = some m.cls := findClass_of_methodNamed B.named
  have hW : Wd D A s.heap (Z) s.heap [] := ⟨hP, hD, va_S.rf⟩
  have hl := lv_entry [.int p1, .int p2] (n := 2) (Nat.le_of_ble_eq_true rfl)
  refine W.eq (en_eq ha) ?_
  generalize (lg_sl [.int p1, .int p2] ++ List.replicate (2 - (lg_sl [.int p1, .int p2]).length) Slot.unset).toArray = ls at hl ⊢
  have hl : lv_has ls 2 [(0, .int p1), (1, .int p2)] := hl
  clear hP hD B ha
  obtain ⟨Q, hQ⟩ : ∃ Q, Q = MQ below (Qgi D A (Z) r) args s 0 0 A := ⟨_, rfl⟩
  rw [← hQ]
  change W p l e (rmL 0 0) s m args below meth c s.heap [] 0 0 Q (F0 m 0 ls [])
  rw [f_L_some] at h
  suffices hm : ∀ (H : Heap) (locs : List Loc), Wd D A s.heap (Z) H locs → W p l e (rmL 0 0) s m args below meth c H locs 0 0 Q (F0 m 0 ls []) from hm _ _ hW
  clear hW
  intro H locs hW
  refine lv_iload_n hx hb dL_some_0 rfl (lv_at hl 0 rfl) ?_
  refine lv_iconst (v := 2) hx hb dL_some_1 (by decide) ?_
  refine lv_iushr hx hb dL_some_2 rfl ?_
  refine lv_iload_n hx hb dL_some_3 rfl (lv_at hl 1 rfl) ?_
  obtain ⟨g1, h⟩ := grd_s h
  refine lv_irem hx hb dL_some_4 (nz_ne g1) ?_
  obtain rfl := ret1 h
  rw [hQ]
  exact g_reti hx hb hr hlk hW dL_some_5
set_option maxHeartbeats 16000000 in
set_option maxRecDepth 100000 in
theorem c_L_agree (l : Launch) (D : va_G) (T : Nat → ClassId) (A : Nat → Prop)  (Z : va_W) (p1 : Int32) (p2 : Int32) (r : Int32) (h : f_L_agree p1 p2 = some r) : Met l yL_agree (Cond.code yL_agree cL_agree 2 (some .boolean) :: wsL_law) (rmL 0 0) (Pl D T A (Z) [.int p1, .int p2]) (Qgi D A (Z) r) 0 0 A := by
  refine Met.ofW (cc := cL_agree) (maxL := 2) (ret := (some .boolean)) (by decide +kernel) rfl ?_
  intro p e s m args below meth c s₁ B hml hv
  obtain ⟨ha, hP, hK, hD, hN, hE, hC, hA⟩ := hv
  have hx := B.exec
  have hb := B.bytes
  have hr := B.returns
  have hlk := B.notSynchronized
  have hts : ∀ w ∈ wsL_law, w.before args s = true := fun w hw => atoms_spec B.pre w (List.mem_cons_of_mem _ hw)
  have hown : s.vm.findClass RL = some m.cls := findClass_of_methodNamed B.named
  have hW : Wd D A s.heap (Z) s.heap [] := ⟨hP, hD, va_S.rf⟩
  have hl := lv_entry [.int p1, .int p2] (n := 2) (Nat.le_of_ble_eq_true rfl)
  refine W.eq (en_eq ha) ?_
  generalize (lg_sl [.int p1, .int p2] ++ List.replicate (2 - (lg_sl [.int p1, .int p2]).length) Slot.unset).toArray = ls at hl ⊢
  have hl : lv_has ls 2 [(0, .int p1), (1, .int p2)] := hl
  clear hP hD B ha
  obtain ⟨Q, hQ⟩ : ∃ Q, Q = MQ below (Qgi D A (Z) r) args s 0 0 A := ⟨_, rfl⟩
  rw [← hQ]
  change W p l e (rmL 0 0) s m args below meth c s.heap [] 0 0 Q (F0 m 0 ls [])
  rw [f_L_agree] at h
  suffices hm : ∀ (H : Heap) (locs : List Loc), Wd D A s.heap (Z) H locs → W p l e (rmL 0 0) s m args below meth c H locs 0 0 Q (F0 m 0 ls []) from hm _ _ hW
  clear hW
  intro H locs hW
  refine lv_iload_n hx hb dL_agree_0 rfl (lv_at hl 0 rfl) ?_
  refine lv_if_eq (tgt := 13) hx hb dL_agree_1 (by decide) (fun c1 => ?_) (fun c1 => ?_)
  · replace h := ite_t c1 h
    refine lv_iconst (v := 1) hx hb dL_agree_13 (by decide) ?_
    refine lv_goto (tgt := 18) hx hb dL_agree_14 (by decide) ?_
    obtain rfl := ret1 h
    rw [hQ]
    exact g_retz hx hb hr hlk hW (by decide) dL_agree_18
  · replace h := ite_f c1 h
    refine lv_iload_n hx hb dL_agree_4 rfl (lv_at hl 1 rfl) ?_
    refine lv_if_eq (tgt := 13) hx hb dL_agree_5 (by decide) (fun c2 => ?_) (fun c2 => ?_)
    · replace h := ite_t c2 h
      refine lv_iconst (v := 1) hx hb dL_agree_13 (by decide) ?_
      refine lv_goto (tgt := 18) hx hb dL_agree_14 (by decide) ?_
      obtain rfl := ret1 h
      rw [hQ]
      exact g_retz hx hb hr hlk hW (by decide) dL_agree_18
    · replace h := ite_f c2 h
      refine lv_iload_n hx hb dL_agree_8 rfl (lv_at hl 0 rfl) ?_
      refine lv_iload_n hx hb dL_agree_9 rfl (lv_at hl 1 rfl) ?_
      refine lv_icmp_ne (tgt := 17) hx hb dL_agree_10 (by decide) (fun c3 => ?_) (fun c3 => ?_)
      · replace h := ite_f c3 h
        refine lv_iconst (v := 0) hx hb dL_agree_17 (by decide) ?_
        obtain rfl := ret1 h
        rw [hQ]
        exact g_retz hx hb hr hlk hW (by decide) dL_agree_18
      · replace h := ite_t c3 h
        refine lv_iconst (v := 1) hx hb dL_agree_13 (by decide) ?_
        refine lv_goto (tgt := 18) hx hb dL_agree_14 (by decide) ?_
        obtain rfl := ret1 h
        rw [hQ]
        exact g_retz hx hb hr hlk hW (by decide) dL_agree_18
set_option maxHeartbeats 16000000 in
set_option maxRecDepth 100000 in
theorem c_L_span (l : Launch) (D : va_G) (T : Nat → ClassId) (A : Nat → Prop)  (Z : va_W) (p1 : Int32) (p2 : Int32) (r : Int32) (h : f_L_span p1 p2 = some r) : Met l yL_span (Cond.code yL_span cL_span 2 (some .int) :: wsL_law) (rmL 0 0) (Pl D T A (Z) [.int p1, .int p2]) (Qgi D A (Z) r) 0 0 A := by
  refine Met.ofW (cc := cL_span) (maxL := 2) (ret := (some .int)) (by decide +kernel) rfl ?_
  intro p e s m args below meth c s₁ B hml hv
  obtain ⟨ha, hP, hK, hD, hN, hE, hC, hA⟩ := hv
  have hx := B.exec
  have hb := B.bytes
  have hr := B.returns
  have hlk := B.notSynchronized
  have hts : ∀ w ∈ wsL_law, w.before args s = true := fun w hw => atoms_spec B.pre w (List.mem_cons_of_mem _ hw)
  have hown : s.vm.findClass RL = some m.cls := findClass_of_methodNamed B.named
  have hW : Wd D A s.heap (Z) s.heap [] := ⟨hP, hD, va_S.rf⟩
  have hl := lv_entry [.int p1, .int p2] (n := 2) (Nat.le_of_ble_eq_true rfl)
  refine W.eq (en_eq ha) ?_
  generalize (lg_sl [.int p1, .int p2] ++ List.replicate (2 - (lg_sl [.int p1, .int p2]).length) Slot.unset).toArray = ls at hl ⊢
  have hl : lv_has ls 2 [(0, .int p1), (1, .int p2)] := hl
  clear hP hD B ha
  obtain ⟨Q, hQ⟩ : ∃ Q, Q = MQ below (Qgi D A (Z) r) args s 0 0 A := ⟨_, rfl⟩
  rw [← hQ]
  change W p l e (rmL 0 0) s m args below meth c s.heap [] 0 0 Q (F0 m 0 ls [])
  rw [f_L_span] at h
  suffices hm : ∀ (H : Heap) (locs : List Loc), Wd D A s.heap (Z) H locs → W p l e (rmL 0 0) s m args below meth c H locs 0 0 Q (F0 m 0 ls []) from hm _ _ hW
  clear hW
  intro H locs hW
  refine lv_iload_n hx hb dL_span_0 rfl (lv_at hl 1 rfl) ?_
  refine lv_iconst (v := 1) hx hb dL_span_1 (by decide) ?_
  refine lv_icmp_ne (tgt := 9) hx hb dL_span_2 (by decide) (fun c1 => ?_) (fun c1 => ?_)
  · replace h := ite_f c1 h
    refine lv_iload_n hx hb dL_span_9 rfl (lv_at hl 1 rfl) ?_
    refine lv_iconst (v := 2) hx hb dL_span_10 (by decide) ?_
    refine lv_icmp_ne (tgt := 20) hx hb dL_span_11 (by decide) (fun c2 => ?_) (fun c2 => ?_)
    · replace h := ite_f c2 h
      refine lv_iconst (v := 5) hx hb dL_span_20 (by decide) ?_
      obtain rfl := ret1 h
      rw [hQ]
      exact g_reti hx hb hr hlk hW dL_span_21
    · replace h := ite_t c2 h
      refine lv_iconst (v := 3) hx hb dL_span_14 (by decide) ?_
      refine lv_iload_n hx hb dL_span_15 rfl (lv_at hl 0 rfl) ?_
      refine lv_iadd hx hb dL_span_16 ?_
      refine lv_goto (tgt := 21) hx hb dL_span_17 (by decide) ?_
      obtain rfl := ret1 h
      rw [hQ]
      exact g_reti hx hb hr hlk hW dL_span_21
  · replace h := ite_t c1 h
    refine lv_iload_n hx hb dL_span_5 rfl (lv_at hl 0 rfl) ?_
    refine lv_goto (tgt := 21) hx hb dL_span_6 (by decide) ?_
    obtain rfl := ret1 h
    rw [hQ]
    exact g_reti hx hb hr hlk hW dL_span_21
set_option maxHeartbeats 16000000 in
set_option maxRecDepth 100000 in
theorem c_L_digit (l : Launch) (D : va_G) (T : Nat → ClassId) (A : Nat → Prop)  (Z : va_W) (p1 : Int32) (p2 : Int32) (r : Int32) (h : f_L_digit p1 p2 = some r) : Met l yL_digit (Cond.code yL_digit cL_digit 2 (some .int) :: wsL_law) (rmL 0 0) (Pl D T A (Z) [.int p1, .int p2]) (Qgi D A (Z) r) 0 0 A := by
  refine Met.ofW (cc := cL_digit) (maxL := 2) (ret := (some .int)) (by decide +kernel) rfl ?_
  intro p e s m args below meth c s₁ B hml hv
  obtain ⟨ha, hP, hK, hD, hN, hE, hC, hA⟩ := hv
  have hx := B.exec
  have hb := B.bytes
  have hr := B.returns
  have hlk := B.notSynchronized
  have hts : ∀ w ∈ wsL_law, w.before args s = true := fun w hw => atoms_spec B.pre w (List.mem_cons_of_mem _ hw)
  have hown : s.vm.findClass RL = some m.cls := findClass_of_methodNamed B.named
  have hW : Wd D A s.heap (Z) s.heap [] := ⟨hP, hD, va_S.rf⟩
  have hl := lv_entry [.int p1, .int p2] (n := 2) (Nat.le_of_ble_eq_true rfl)
  refine W.eq (en_eq ha) ?_
  generalize (lg_sl [.int p1, .int p2] ++ List.replicate (2 - (lg_sl [.int p1, .int p2]).length) Slot.unset).toArray = ls at hl ⊢
  have hl : lv_has ls 2 [(0, .int p1), (1, .int p2)] := hl
  clear hP hD B ha
  obtain ⟨Q, hQ⟩ : ∃ Q, Q = MQ below (Qgi D A (Z) r) args s 0 0 A := ⟨_, rfl⟩
  rw [← hQ]
  change W p l e (rmL 0 0) s m args below meth c s.heap [] 0 0 Q (F0 m 0 ls [])
  rw [f_L_digit] at h
  suffices hm : ∀ (H : Heap) (locs : List Loc), Wd D A s.heap (Z) H locs → W p l e (rmL 0 0) s m args below meth c H locs 0 0 Q (F0 m 0 ls []) from hm _ _ hW
  clear hW
  intro H locs hW
  refine lv_iload_n hx hb dL_digit_0 rfl (lv_at hl 1 rfl) ?_
  refine lv_if_ne (tgt := 14) hx hb dL_digit_1 (by decide) (fun c1 => ?_) (fun c1 => ?_)
  · replace h := ite_f c1 h
    refine lv_iload_n hx hb dL_digit_14 rfl (lv_at hl 1 rfl) ?_
    refine lv_iconst (v := 1) hx hb dL_digit_15 (by decide) ?_
    refine lv_icmp_ne (tgt := 29) hx hb dL_digit_16 (by decide) (fun c2 => ?_) (fun c2 => ?_)
    · replace h := ite_f c2 h
      refine lv_iload_n hx hb dL_digit_29 rfl (lv_at hl 0 rfl) ?_
      refine lv_bipush (v := 10) hx hb dL_digit_30 (by decide) ?_
      refine lv_irem hx hb dL_digit_32 (by decide) ?_
      obtain rfl := ret1 h
      rw [hQ]
      exact g_reti hx hb hr hlk hW dL_digit_33
    · replace h := ite_t c2 h
      refine lv_iload_n hx hb dL_digit_19 rfl (lv_at hl 0 rfl) ?_
      refine lv_bipush (v := 10) hx hb dL_digit_20 (by decide) ?_
      refine lv_idiv hx hb dL_digit_22 (by decide) ?_
      refine lv_bipush (v := 10) hx hb dL_digit_23 (by decide) ?_
      refine lv_irem hx hb dL_digit_25 (by decide) ?_
      refine lv_goto (tgt := 33) hx hb dL_digit_26 (by decide) ?_
      obtain rfl := ret1 h
      rw [hQ]
      exact g_reti hx hb hr hlk hW dL_digit_33
  · replace h := ite_t c1 h
    refine lv_iload_n hx hb dL_digit_4 rfl (lv_at hl 0 rfl) ?_
    refine lv_bipush (v := 100) hx hb dL_digit_5 (by decide) ?_
    refine lv_idiv hx hb dL_digit_7 (by decide) ?_
    refine lv_bipush (v := 10) hx hb dL_digit_8 (by decide) ?_
    refine lv_irem hx hb dL_digit_10 (by decide) ?_
    refine lv_goto (tgt := 33) hx hb dL_digit_11 (by decide) ?_
    obtain rfl := ret1 h
    rw [hQ]
    exact g_reti hx hb hr hlk hW dL_digit_33
set_option maxHeartbeats 16000000 in
set_option maxRecDepth 100000 in
theorem c_L_reading (l : Launch) (D : va_G) (T : Nat → ClassId) (A : Nat → Prop) (a_w : Nat) (a_u : Nat) (Z : va_W) (x_w : Nat → Int32) (x_u : Nat → Int32) (p3 : Int32) (p4 : Int32) (r : Int32) (h : f_L_reading x_w x_u p3 p4 = some r) : Met l yL_reading (Cond.code yL_reading cL_reading 4 (some .int) :: wsL_law) (rmL 0 0) (Pl D T A (oA T 24 a_w x_w ++ (oA T 2 a_u x_u ++ Z)) [.ref a_w, .ref a_u, .int p3, .int p4]) (Qgi D A (oA T 24 a_w x_w ++ (oA T 2 a_u x_u ++ Z)) r) 0 0 A := by
  refine Met.ofW (cc := cL_reading) (maxL := 4) (ret := (some .int)) (by decide +kernel) rfl ?_
  intro p e s m args below meth c s₁ B hml hv
  obtain ⟨ha, hP, hK, hD, hN, hE, hC, hA⟩ := hv
  have hx := B.exec
  have hb := B.bytes
  have hr := B.returns
  have hlk := B.notSynchronized
  have hts : ∀ w ∈ wsL_law, w.before args s = true := fun w hw => atoms_spec B.pre w (List.mem_cons_of_mem _ hw)
  have hown : s.vm.findClass RL = some m.cls := findClass_of_methodNamed B.named
  have hW : Wd D A s.heap (oA T 24 a_w x_w ++ (oA T 2 a_u x_u ++ Z)) s.heap [] := ⟨hP, hD, va_S.rf⟩
  have hl := lv_entry [.ref a_w, .ref a_u, .int p3, .int p4] (n := 4) (Nat.le_of_ble_eq_true rfl)
  refine W.eq (en_eq ha) ?_
  generalize (lg_sl [.ref a_w, .ref a_u, .int p3, .int p4] ++ List.replicate (4 - (lg_sl [.ref a_w, .ref a_u, .int p3, .int p4]).length) Slot.unset).toArray = ls at hl ⊢
  have hl : lv_has ls 4 [(0, .ref a_w), (1, .ref a_u), (2, .int p3), (3, .int p4)] := hl
  clear hP hD B ha
  obtain ⟨Q, hQ⟩ : ∃ Q, Q = MQ below (Qgi D A (oA T 24 a_w x_w ++ (oA T 2 a_u x_u ++ Z)) r) args s 0 0 A := ⟨_, rfl⟩
  rw [← hQ]
  change W p l e (rmL 0 0) s m args below meth c s.heap [] 0 0 Q (F0 m 0 ls [])
  rw [f_L_reading] at h
  suffices hm : ∀ (H : Heap) (locs : List Loc), Wd D A s.heap (oA T 24 a_w x_w ++ (oA T 2 a_u x_u ++ Z)) H locs → W p l e (rmL 0 0) s m args below meth c H locs 0 0 Q (F0 m 0 ls []) from hm _ _ hW
  clear hW
  intro H locs hW
  refine lv_aload_n hx hb dL_reading_0 rfl (lv_at hl 0 rfl) ?_
  refine lv_iconst (v := 4) hx hb dL_reading_1 (by decide) ?_
  refine lv_iload_n hx hb dL_reading_2 rfl (lv_at hl 2 rfl) ?_
  refine lv_imul hx hb dL_reading_3 ?_
  refine lv_iconst (v := 1) hx hb dL_reading_4 (by decide) ?_
  refine lv_iadd hx hb dL_reading_5 ?_
  obtain ⟨g1, h⟩ := grd_s h
  refine g_iald hx hb hK hW 0 rfl g1 dL_reading_6 ?_
  refine lv_if_le (tgt := 22) hx hb dL_reading_7 (by decide) (fun c2 => ?_) (fun c2 => ?_)
  · replace h := ite_t c2 h
    refine lv_aload_n hx hb dL_reading_22 rfl (lv_at hl 1 rfl) ?_
    refine lv_aload_n hx hb dL_reading_23 rfl (lv_at hl 0 rfl) ?_
    refine lv_iconst (v := 4) hx hb dL_reading_24 (by decide) ?_
    refine lv_iload_n hx hb dL_reading_25 rfl (lv_at hl 2 rfl) ?_
    refine lv_imul hx hb dL_reading_26 ?_
    obtain ⟨g3, h⟩ := grd_s h
    refine g_iald hx hb hK hW 0 rfl g3 dL_reading_27 ?_
    obtain ⟨g4, h⟩ := grd_s h
    refine g_iald hx hb hK hW 1 rfl g4 dL_reading_28 ?_
    obtain rfl := ret1 h
    rw [hQ]
    exact g_reti hx hb hr hlk hW dL_reading_29
  · replace h := ite_f c2 h
    refine lv_aload_n hx hb dL_reading_10 rfl (lv_at hl 0 rfl) ?_
    refine lv_iconst (v := 4) hx hb dL_reading_11 (by decide) ?_
    refine lv_iload_n hx hb dL_reading_12 rfl (lv_at hl 2 rfl) ?_
    refine lv_imul hx hb dL_reading_13 ?_
    refine lv_iconst (v := 2) hx hb dL_reading_14 (by decide) ?_
    refine lv_iadd hx hb dL_reading_15 ?_
    refine lv_iload_n hx hb dL_reading_16 rfl (lv_at hl 3 rfl) ?_
    refine lv_iadd hx hb dL_reading_17 ?_
    obtain ⟨g5, h⟩ := grd_s h
    refine g_iald hx hb hK hW 0 rfl g5 dL_reading_18 ?_
    refine lv_goto (tgt := 29) hx hb dL_reading_19 (by decide) ?_
    obtain rfl := ret1 h
    rw [hQ]
    exact g_reti hx hb hr hlk hW dL_reading_29
set_option maxHeartbeats 16000000 in
set_option maxRecDepth 100000 in
theorem c_L_readings (l : Launch) (D : va_G) (T : Nat → ClassId) (A : Nat → Prop) (a_w : Nat) (a_u : Nat) (Z : va_W) (x_w : Nat → Int32) (x_u : Nat → Int32) (p3 : Int32) (r : Int32) (h : f_L_readings x_w x_u p3 = some r) : Met l yL_readings (Cond.code yL_readings cL_readings 3 (some .int) :: wsL_law) (rmL 0 0) (Pl D T A (oA T 24 a_w x_w ++ (oA T 2 a_u x_u ++ Z)) [.ref a_w, .ref a_u, .int p3]) (Qgi D A (oA T 24 a_w x_w ++ (oA T 2 a_u x_u ++ Z)) r) 0 0 A := by
  refine Met.ofW (cc := cL_readings) (maxL := 3) (ret := (some .int)) (by decide +kernel) rfl ?_
  intro p e s m args below meth c s₁ B hml hv
  obtain ⟨ha, hP, hK, hD, hN, hE, hC, hA⟩ := hv
  have hx := B.exec
  have hb := B.bytes
  have hr := B.returns
  have hlk := B.notSynchronized
  have hts : ∀ w ∈ wsL_law, w.before args s = true := fun w hw => atoms_spec B.pre w (List.mem_cons_of_mem _ hw)
  have hown : s.vm.findClass RL = some m.cls := findClass_of_methodNamed B.named
  have hW : Wd D A s.heap (oA T 24 a_w x_w ++ (oA T 2 a_u x_u ++ Z)) s.heap [] := ⟨hP, hD, va_S.rf⟩
  have hl := lv_entry [.ref a_w, .ref a_u, .int p3] (n := 3) (Nat.le_of_ble_eq_true rfl)
  refine W.eq (en_eq ha) ?_
  generalize (lg_sl [.ref a_w, .ref a_u, .int p3] ++ List.replicate (3 - (lg_sl [.ref a_w, .ref a_u, .int p3]).length) Slot.unset).toArray = ls at hl ⊢
  have hl : lv_has ls 3 [(0, .ref a_w), (1, .ref a_u), (2, .int p3)] := hl
  clear hP hD B ha
  obtain ⟨Q, hQ⟩ : ∃ Q, Q = MQ below (Qgi D A (oA T 24 a_w x_w ++ (oA T 2 a_u x_u ++ Z)) r) args s 0 0 A := ⟨_, rfl⟩
  rw [← hQ]
  change W p l e (rmL 0 0) s m args below meth c s.heap [] 0 0 Q (F0 m 0 ls [])
  rw [f_L_readings] at h
  suffices hm : ∀ (H : Heap) (locs : List Loc), Wd D A s.heap (oA T 24 a_w x_w ++ (oA T 2 a_u x_u ++ Z)) H locs → W p l e (rmL 0 0) s m args below meth c H locs 0 0 Q (F0 m 0 ls []) from hm _ _ hW
  clear hW
  intro H locs hW
  refine lv_aload_n hx hb dL_readings_0 rfl (lv_at hl 0 rfl) ?_
  refine lv_iconst (v := 4) hx hb dL_readings_1 (by decide) ?_
  refine lv_iload_n hx hb dL_readings_2 rfl (lv_at hl 2 rfl) ?_
  refine lv_imul hx hb dL_readings_3 ?_
  refine lv_iconst (v := 1) hx hb dL_readings_4 (by decide) ?_
  refine lv_iadd hx hb dL_readings_5 ?_
  obtain ⟨g1, h⟩ := grd_s h
  refine g_iald hx hb hK hW 0 rfl g1 dL_readings_6 ?_
  refine lv_if_le (tgt := 20) hx hb dL_readings_7 (by decide) (fun c2 => ?_) (fun c2 => ?_)
  · replace h := ite_t c2 h
    refine lv_aload_n hx hb dL_readings_20 rfl (lv_at hl 1 rfl) ?_
    refine lv_aload_n hx hb dL_readings_21 rfl (lv_at hl 0 rfl) ?_
    refine lv_iconst (v := 4) hx hb dL_readings_22 (by decide) ?_
    refine lv_iload_n hx hb dL_readings_23 rfl (lv_at hl 2 rfl) ?_
    refine lv_imul hx hb dL_readings_24 ?_
    obtain ⟨g3, h⟩ := grd_s h
    refine g_iald hx hb hK hW 0 rfl g3 dL_readings_25 ?_
    obtain ⟨g4, h⟩ := grd_s h
    refine g_iald hx hb hK hW 1 rfl g4 dL_readings_26 ?_
    refine lv_if_ge (tgt := 34) hx hb dL_readings_27 (by decide) (fun c5 => ?_) (fun c5 => ?_)
    · replace h := ite_t c5 h
      refine lv_iconst (v := 1) hx hb dL_readings_34 (by decide) ?_
      obtain rfl := ret1 h
      rw [hQ]
      exact g_reti hx hb hr hlk hW dL_readings_35
    · replace h := ite_f c5 h
      refine lv_iconst (v := 0) hx hb dL_readings_30 (by decide) ?_
      refine lv_goto (tgt := 35) hx hb dL_readings_31 (by decide) ?_
      obtain rfl := ret1 h
      rw [hQ]
      exact g_reti hx hb hr hlk hW dL_readings_35
  · replace h := ite_f c2 h
    refine lv_aload_n hx hb dL_readings_10 rfl (lv_at hl 0 rfl) ?_
    refine lv_iconst (v := 4) hx hb dL_readings_11 (by decide) ?_
    refine lv_iload_n hx hb dL_readings_12 rfl (lv_at hl 2 rfl) ?_
    refine lv_imul hx hb dL_readings_13 ?_
    refine lv_iconst (v := 1) hx hb dL_readings_14 (by decide) ?_
    refine lv_iadd hx hb dL_readings_15 ?_
    obtain ⟨g6, h⟩ := grd_s h
    refine g_iald hx hb hK hW 0 rfl g6 dL_readings_16 ?_
    refine lv_goto (tgt := 35) hx hb dL_readings_17 (by decide) ?_
    obtain rfl := ret1 h
    rw [hQ]
    exact g_reti hx hb hr hlk hW dL_readings_35
set_option maxHeartbeats 16000000 in
set_option maxRecDepth 100000 in
theorem c_L_leftOf (l : Launch) (D : va_G) (T : Nat → ClassId) (A : Nat → Prop) (a_w : Nat) (a_u : Nat) (a_x : Nat) (a_l : Nat) (Z : va_W) (x_w : Nat → Int32) (x_u : Nat → Int32) (x_x : Nat → Int32) (x_l : Nat → Int32) (p5 : Int32) (p6 : Int32) (r : Int32) (h : f_L_leftOf x_w x_u x_x x_l p5 p6 = some r) : Met l yL_leftOf (Cond.code yL_leftOf cL_leftOf 8 (some .int) :: wsL_law) (rmL 1 0) (Pl D T A (oA T 24 a_w x_w ++ (oA T 2 a_u x_u ++ (oA T 6 a_x x_x ++ (oA T 6 a_l x_l ++ Z)))) [.ref a_w, .ref a_u, .ref a_x, .ref a_l, .int p5, .int p6]) (Qgi D A (oA T 24 a_w x_w ++ (oA T 2 a_u x_u ++ (oA T 6 a_x x_x ++ (oA T 6 a_l x_l ++ Z)))) r) 0 0 A := by
  refine Met.ofW (cc := cL_leftOf) (maxL := 8) (ret := (some .int)) (by decide +kernel) rfl ?_
  intro p e s m args below meth c s₁ B hml hv
  obtain ⟨ha, hP, hK, hD, hN, hE, hC, hA⟩ := hv
  have hx := B.exec
  have hb := B.bytes
  have hr := B.returns
  have hlk := B.notSynchronized
  have hts : ∀ w ∈ wsL_law, w.before args s = true := fun w hw => atoms_spec B.pre w (List.mem_cons_of_mem _ hw)
  have hown : s.vm.findClass RL = some m.cls := findClass_of_methodNamed B.named
  have hW : Wd D A s.heap (oA T 24 a_w x_w ++ (oA T 2 a_u x_u ++ (oA T 6 a_x x_x ++ (oA T 6 a_l x_l ++ Z)))) s.heap [] := ⟨hP, hD, va_S.rf⟩
  have hl := lv_entry [.ref a_w, .ref a_u, .ref a_x, .ref a_l, .int p5, .int p6] (n := 8) (Nat.le_of_ble_eq_true rfl)
  refine W.eq (en_eq ha) ?_
  generalize (lg_sl [.ref a_w, .ref a_u, .ref a_x, .ref a_l, .int p5, .int p6] ++ List.replicate (8 - (lg_sl [.ref a_w, .ref a_u, .ref a_x, .ref a_l, .int p5, .int p6]).length) Slot.unset).toArray = ls at hl ⊢
  have hl : lv_has ls 8 [(0, .ref a_w), (1, .ref a_u), (2, .ref a_x), (3, .ref a_l), (4, .int p5), (5, .int p6)] := hl
  clear hP hD B ha
  obtain ⟨Q, hQ⟩ : ∃ Q, Q = MQ below (Qgi D A (oA T 24 a_w x_w ++ (oA T 2 a_u x_u ++ (oA T 6 a_x x_x ++ (oA T 6 a_l x_l ++ Z)))) r) args s 0 0 A := ⟨_, rfl⟩
  rw [← hQ]
  change W p l e (rmL 1 0) s m args below meth c s.heap [] 0 0 Q (F0 m 0 ls [])
  rw [f_L_leftOf] at h
  suffices hm : ∀ (H : Heap) (locs : List Loc), Wd D A s.heap (oA T 24 a_w x_w ++ (oA T 2 a_u x_u ++ (oA T 6 a_x x_x ++ (oA T 6 a_l x_l ++ Z)))) H locs → W p l e (rmL 1 0) s m args below meth c H locs 0 0 Q (F0 m 0 ls []) from hm _ _ hW
  clear hW
  intro H locs hW
  have L6 : ∀ (n : Nat) (v4_6 : Int32) (v5_6 : Int32) (v6_6 : Int32) (v7_6 : Int32) (H : Heap) (locs : List Loc) (ls : Array Slot) (o6_6r : Int32) (o7_6r : Int32), Wd D A s.heap (oA T 24 a_w x_w ++ (oA T 2 a_u x_u ++ (oA T 6 a_x x_x ++ (oA T 6 a_l x_l ++ Z)))) H locs → lv_has ls 8 [(0, .ref a_w), (1, .ref a_u), (2, .ref a_x), (3, .ref a_l), (4, .int v4_6), (5, .int v5_6), (6, .int v6_6), (7, .int v7_6)] → f_L_leftOf_L6 n x_w x_u x_x x_l v4_6 v5_6 v6_6 v7_6 = some (o6_6r, o7_6r) → (∀ (H : Heap) (locs : List Loc) (ls : Array Slot), Wd D A s.heap (oA T 24 a_w x_w ++ (oA T 2 a_u x_u ++ (oA T 6 a_x x_x ++ (oA T 6 a_l x_l ++ Z)))) H locs → lv_has ls 8 [(6, .int o6_6r)] → W p l e (rmL 1 0) s m args below meth c H locs 0 0 Q (F0 m 72 ls [])) → W p l e (rmL 1 0) s m args below meth c H locs 0 0 Q (F0 m 6 ls []) := by
    intro n
    induction n with
    | zero =>
      intro v4_6 v5_6 v6_6 v7_6 H locs ls o6_6r o7_6r hW hl h k1
      rw [f_L_leftOf_L6] at h
      cases h
    | succ n ih =>
      intro v4_6 v5_6 v6_6 v7_6 H locs ls o6_6r o7_6r hW hl h k1
      rw [f_L_leftOf_L6] at h
      refine lv_iload hx hb dL_leftOf_6 (lv_at hl 7 rfl) ?_
      refine lv_aload_n hx hb dL_leftOf_8 rfl (lv_at hl 0 rfl) ?_
      refine lv_aload_n hx hb dL_leftOf_9 rfl (lv_at hl 1 rfl) ?_
      refine lv_aload_n hx hb dL_leftOf_10 rfl (lv_at hl 2 rfl) ?_
      refine lv_iload hx hb dL_leftOf_11 (lv_at hl 4 rfl) ?_
      obtain ⟨g1, h⟩ := grd_s h
      refine g_iald hx hb hK hW 2 rfl g1 dL_leftOf_13 ?_
      obtain ⟨r2, q3, h⟩ := bnd1_s h
      refine cs_L_9 hx hb hml hown hts hK hN hE hC hA hW (c_L_readings l D T A a_w a_u (oA T 6 a_x x_x ++ (oA T 6 a_l x_l ++ Z)) x_w x_u (x_x v4_6.toNatClampNeg) r2 q3) ⟨Nat.le_of_ble_eq_true rfl, Nat.le_of_ble_eq_true rfl⟩ hl.1 rfl (Nat.le_of_ble_eq_true rfl) dL_leftOf_14 (hf0 (Nat.zero_le _)) rfl (fun H locs hW => ?_)
      refine lv_icmp_ge (tgt := 72) hx hb dL_leftOf_17 (by decide) (fun c4 => ?_) (fun c4 => ?_)
      · replace h := ite_t c4 h
        obtain ⟨rfl, rfl⟩ := ret2 h
        exact k1 H locs ls hW (lv_sub hl [6] rfl)
      · replace h := ite_f c4 h
        refine lv_iload hx hb dL_leftOf_20 (lv_at hl 6 rfl) ?_
        refine lv_aload_n hx hb dL_leftOf_22 rfl (lv_at hl 3 rfl) ?_
        refine lv_iload hx hb dL_leftOf_23 (lv_at hl 4 rfl) ?_
        obtain ⟨g5, h⟩ := grd_s h
        refine g_iald hx hb hK hW 3 rfl g5 dL_leftOf_25 ?_
        refine lv_iload hx hb dL_leftOf_26 (lv_at hl 7 rfl) ?_
        refine lv_ishr hx hb dL_leftOf_28 ?_
        refine lv_iconst (v := 1) hx hb dL_leftOf_29 (by decide) ?_
        refine lv_iand hx hb dL_leftOf_30 ?_
        refine lv_iconst (v := 1) hx hb dL_leftOf_31 (by decide) ?_
        refine lv_icmp_ne (tgt := 62) hx hb dL_leftOf_32 (by decide) (fun c6 => ?_) (fun c6 => ?_)
        · replace h := ite_f c6 h
          refine lv_iconst (v := 0) hx hb dL_leftOf_62 (by decide) ?_
          refine lv_ior hx hb dL_leftOf_63 ?_
          refine lv_topi (fun w6_7 ew6_7 => ?_)
          replace h := lb_at ew6_7 h
          refine lv_istore (lv' := [(6, .int w6_7), (0, .ref a_w), (1, .ref a_u), (2, .ref a_x), (3, .ref a_l), (4, .int v4_6), (5, .int v5_6), (7, .int v7_6)]) hx hb dL_leftOf_64 hl (by decide) rfl (fun ls hl => ?_)
          obtain ⟨w7_8, ew7_8⟩ : ∃ y : Int32, y = v7_6 + 1 := ⟨_, rfl⟩
          replace h := lb_at ew7_8 h
          refine lv_iinc (v := w7_8) (lv' := [(7, .int w7_8), (6, .int w6_7), (0, .ref a_w), (1, .ref a_u), (2, .ref a_x), (3, .ref a_l), (4, .int v4_6), (5, .int v5_6)]) hx hb dL_leftOf_66 hl (k := 7) rfl (by rw [ew7_8]; rfl) (by decide) rfl (fun ls hl => ?_)
          refine lv_goto (tgt := 6) hx hb dL_leftOf_69 (by decide) ?_
          exact ih _ _ _ _ H locs ls _ _ hW (lv_sub hl [2, 3, 4, 5, 6, 7, 1, 0] rfl) h k1
        · replace h := ite_t c6 h
          refine lv_aload_n hx hb dL_leftOf_35 rfl (lv_at hl 0 rfl) ?_
          refine lv_aload_n hx hb dL_leftOf_36 rfl (lv_at hl 1 rfl) ?_
          refine lv_aload_n hx hb dL_leftOf_37 rfl (lv_at hl 2 rfl) ?_
          refine lv_iload hx hb dL_leftOf_38 (lv_at hl 4 rfl) ?_
          obtain ⟨g9, h⟩ := grd_s h
          refine g_iald hx hb hK hW 2 rfl g9 dL_leftOf_40 ?_
          refine lv_iload hx hb dL_leftOf_41 (lv_at hl 7 rfl) ?_
          obtain ⟨r10, q11, h⟩ := bnd1_s h
          refine cs_L_15 hx hb hml hown hts hK hN hE hC hA hW (c_L_reading l D T A a_w a_u (oA T 6 a_x x_x ++ (oA T 6 a_l x_l ++ Z)) x_w x_u (x_x v4_6.toNatClampNeg) v7_6 r10 q11) ⟨Nat.le_of_ble_eq_true rfl, Nat.le_of_ble_eq_true rfl⟩ hl.1 rfl (Nat.le_of_ble_eq_true rfl) dL_leftOf_43 (hf0 (Nat.zero_le _)) rfl (fun H locs hW => ?_)
          refine lv_sipush (v := 1000) hx hb dL_leftOf_46 (by decide) ?_
          refine lv_idiv hx hb dL_leftOf_49 (by decide) ?_
          refine lv_iload hx hb dL_leftOf_50 (lv_at hl 5 rfl) ?_
          refine lv_icmp_ne (tgt := 62) hx hb dL_leftOf_52 (by decide) (fun c12 => ?_) (fun c12 => ?_)
          · replace h := ite_f c12 h
            refine lv_iconst (v := 0) hx hb dL_leftOf_62 (by decide) ?_
            refine lv_ior hx hb dL_leftOf_63 ?_
            refine lv_topi (fun w6_13 ew6_13 => ?_)
            replace h := lb_at ew6_13 h
            refine lv_istore (lv' := [(6, .int w6_13), (0, .ref a_w), (1, .ref a_u), (2, .ref a_x), (3, .ref a_l), (4, .int v4_6), (5, .int v5_6), (7, .int v7_6)]) hx hb dL_leftOf_64 hl (by decide) rfl (fun ls hl => ?_)
            obtain ⟨w7_14, ew7_14⟩ : ∃ y : Int32, y = v7_6 + 1 := ⟨_, rfl⟩
            replace h := lb_at ew7_14 h
            refine lv_iinc (v := w7_14) (lv' := [(7, .int w7_14), (6, .int w6_13), (0, .ref a_w), (1, .ref a_u), (2, .ref a_x), (3, .ref a_l), (4, .int v4_6), (5, .int v5_6)]) hx hb dL_leftOf_66 hl (k := 7) rfl (by rw [ew7_14]; rfl) (by decide) rfl (fun ls hl => ?_)
            refine lv_goto (tgt := 6) hx hb dL_leftOf_69 (by decide) ?_
            exact ih _ _ _ _ H locs ls _ _ hW (lv_sub hl [2, 3, 4, 5, 6, 7, 1, 0] rfl) h k1
          · replace h := ite_t c12 h
            refine lv_iconst (v := 1) hx hb dL_leftOf_55 (by decide) ?_
            refine lv_iload hx hb dL_leftOf_56 (lv_at hl 7 rfl) ?_
            refine lv_ishl hx hb dL_leftOf_58 ?_
            refine lv_goto (tgt := 63) hx hb dL_leftOf_59 (by decide) ?_
            refine lv_ior hx hb dL_leftOf_63 ?_
            refine lv_topi (fun w6_15 ew6_15 => ?_)
            replace h := lb_at ew6_15 h
            refine lv_istore (lv' := [(6, .int w6_15), (0, .ref a_w), (1, .ref a_u), (2, .ref a_x), (3, .ref a_l), (4, .int v4_6), (5, .int v5_6), (7, .int v7_6)]) hx hb dL_leftOf_64 hl (by decide) rfl (fun ls hl => ?_)
            obtain ⟨w7_16, ew7_16⟩ : ∃ y : Int32, y = v7_6 + 1 := ⟨_, rfl⟩
            replace h := lb_at ew7_16 h
            refine lv_iinc (v := w7_16) (lv' := [(7, .int w7_16), (6, .int w6_15), (0, .ref a_w), (1, .ref a_u), (2, .ref a_x), (3, .ref a_l), (4, .int v4_6), (5, .int v5_6)]) hx hb dL_leftOf_66 hl (k := 7) rfl (by rw [ew7_16]; rfl) (by decide) rfl (fun ls hl => ?_)
            refine lv_goto (tgt := 6) hx hb dL_leftOf_69 (by decide) ?_
            exact ih _ _ _ _ H locs ls _ _ hW (lv_sub hl [2, 3, 4, 5, 6, 7, 1, 0] rfl) h k1
  refine lv_iconst (v := 0) hx hb dL_leftOf_0 (by decide) ?_
  refine lv_istore (lv' := [(6, .int 0), (0, .ref a_w), (1, .ref a_u), (2, .ref a_x), (3, .ref a_l), (4, .int p5), (5, .int p6)]) hx hb dL_leftOf_1 hl (by decide) rfl (fun ls hl => ?_)
  refine lv_iconst (v := 0) hx hb dL_leftOf_3 (by decide) ?_
  refine lv_istore (lv' := [(7, .int 0), (6, .int 0), (0, .ref a_w), (1, .ref a_u), (2, .ref a_x), (3, .ref a_l), (4, .int p5), (5, .int p6)]) hx hb dL_leftOf_4 hl (by decide) rfl (fun ls hl => ?_)
  obtain ⟨o6_u17, o7_u17, q18, h⟩ := bnd2_s h
  refine L6 400 _ _ _ _ H locs ls o6_u17 o7_u17 hW (lv_sub hl [2, 3, 4, 5, 6, 7, 1, 0] rfl) q18 (fun H locs ls hW hl => ?_)
  refine lv_iload hx hb dL_leftOf_72 (lv_at hl 0 rfl) ?_
  obtain rfl := ret1 h
  rw [hQ]
  exact g_reti hx hb hr hlk hW dL_leftOf_74
set_option maxHeartbeats 16000000 in
set_option maxRecDepth 100000 in
theorem c_L_holds (l : Launch) (D : va_G) (T : Nat → ClassId) (A : Nat → Prop) (a_c : Nat) (a_w : Nat) (a_u : Nat) (a_x : Nat) (a_l : Nat) (a_t : Nat) (Z : va_W) (x_c : Nat → Int32) (x_w : Nat → Int32) (x_u : Nat → Int32) (x_x : Nat → Int32) (x_l : Nat → Int32) (x_t : Nat → Int32) (p7 : Int32) (p8 : Int32) (p9 : Int32) (r : Int32) (h : f_L_holds x_c x_w x_u x_x x_l x_t p7 p8 p9 = some r) : Met l yL_holds (Cond.code yL_holds cL_holds 15 (some .boolean) :: wsL_law) (rmL 2 0) (Pl D T A (oA T 12 a_c x_c ++ (oA T 24 a_w x_w ++ (oA T 2 a_u x_u ++ (oA T 6 a_x x_x ++ (oA T 6 a_l x_l ++ (oA T 20 a_t x_t ++ Z)))))) [.ref a_c, .ref a_w, .ref a_u, .ref a_x, .ref a_l, .ref a_t, .int p7, .int p8, .int p9]) (Qgi D A (oA T 12 a_c x_c ++ (oA T 24 a_w x_w ++ (oA T 2 a_u x_u ++ (oA T 6 a_x x_x ++ (oA T 6 a_l x_l ++ (oA T 20 a_t x_t ++ Z)))))) r) 0 0 A := by
  refine Met.ofW (cc := cL_holds) (maxL := 15) (ret := (some .boolean)) (by decide +kernel) rfl ?_
  intro p e s m args below meth c s₁ B hml hv
  obtain ⟨ha, hP, hK, hD, hN, hE, hC, hA⟩ := hv
  have hx := B.exec
  have hb := B.bytes
  have hr := B.returns
  have hlk := B.notSynchronized
  have hts : ∀ w ∈ wsL_law, w.before args s = true := fun w hw => atoms_spec B.pre w (List.mem_cons_of_mem _ hw)
  have hown : s.vm.findClass RL = some m.cls := findClass_of_methodNamed B.named
  have hW : Wd D A s.heap (oA T 12 a_c x_c ++ (oA T 24 a_w x_w ++ (oA T 2 a_u x_u ++ (oA T 6 a_x x_x ++ (oA T 6 a_l x_l ++ (oA T 20 a_t x_t ++ Z)))))) s.heap [] := ⟨hP, hD, va_S.rf⟩
  have hl := lv_entry [.ref a_c, .ref a_w, .ref a_u, .ref a_x, .ref a_l, .ref a_t, .int p7, .int p8, .int p9] (n := 15) (Nat.le_of_ble_eq_true rfl)
  refine W.eq (en_eq ha) ?_
  generalize (lg_sl [.ref a_c, .ref a_w, .ref a_u, .ref a_x, .ref a_l, .ref a_t, .int p7, .int p8, .int p9] ++ List.replicate (15 - (lg_sl [.ref a_c, .ref a_w, .ref a_u, .ref a_x, .ref a_l, .ref a_t, .int p7, .int p8, .int p9]).length) Slot.unset).toArray = ls at hl ⊢
  have hl : lv_has ls 15 [(0, .ref a_c), (1, .ref a_w), (2, .ref a_u), (3, .ref a_x), (4, .ref a_l), (5, .ref a_t), (6, .int p7), (7, .int p8), (8, .int p9)] := hl
  clear hP hD B ha
  obtain ⟨Q, hQ⟩ : ∃ Q, Q = MQ below (Qgi D A (oA T 12 a_c x_c ++ (oA T 24 a_w x_w ++ (oA T 2 a_u x_u ++ (oA T 6 a_x x_x ++ (oA T 6 a_l x_l ++ (oA T 20 a_t x_t ++ Z)))))) r) args s 0 0 A := ⟨_, rfl⟩
  rw [← hQ]
  change W p l e (rmL 2 0) s m args below meth c s.heap [] 0 0 Q (F0 m 0 ls [])
  rw [f_L_holds] at h
  suffices hm : ∀ (H : Heap) (locs : List Loc), Wd D A s.heap (oA T 12 a_c x_c ++ (oA T 24 a_w x_w ++ (oA T 2 a_u x_u ++ (oA T 6 a_x x_x ++ (oA T 6 a_l x_l ++ (oA T 20 a_t x_t ++ Z)))))) H locs → W p l e (rmL 2 0) s m args below meth c H locs 0 0 Q (F0 m 0 ls []) from hm _ _ hW
  clear hW
  intro H locs hW
  have J250 : ∀ (v6_250 : Int32) (v7_250 : Int32) (v9_250 : Int32) (v10_250 : Int32) (v14_250 : Int32) (s0_250 : Int32) (H : Heap) (locs : List Loc) (ls : Array Slot) (code : Nat) (o10j : Int32) (o11j : Int32) (o12j : Int32), Wd D A s.heap (oA T 12 a_c x_c ++ (oA T 24 a_w x_w ++ (oA T 2 a_u x_u ++ (oA T 6 a_x x_x ++ (oA T 6 a_l x_l ++ (oA T 20 a_t x_t ++ Z)))))) H locs → lv_has ls 15 [(0, .ref a_c), (1, .ref a_w), (2, .ref a_u), (3, .ref a_x), (4, .ref a_l), (5, .ref a_t), (6, .int v6_250), (7, .int v7_250), (9, .int v9_250), (10, .int v10_250), (14, .int v14_250)] → f_L_holds_J250 x_c x_w x_u x_x x_l x_t v6_250 v7_250 v9_250 v10_250 v14_250 s0_250 = some (code, o10j, o11j, o12j) → (code = 0 → ∀ (H : Heap) (locs : List Loc) (ls : Array Slot), Wd D A s.heap (oA T 12 a_c x_c ++ (oA T 24 a_w x_w ++ (oA T 2 a_u x_u ++ (oA T 6 a_x x_x ++ (oA T 6 a_l x_l ++ (oA T 20 a_t x_t ++ Z)))))) H locs → lv_has ls 15 [(0, .ref a_c), (1, .ref a_w), (2, .ref a_u), (3, .ref a_x), (4, .ref a_l), (5, .ref a_t), (6, .int v6_250), (7, .int v7_250), (9, .int v9_250), (10, .int o10j), (11, .int o11j), (12, .int o12j)] → W p l e (rmL 2 0) s m args below meth c H locs 0 0 Q (F0 m 107 ls [])) → (code = 1 → ∀ (H : Heap) (locs : List Loc) (ls : Array Slot), Wd D A s.heap (oA T 12 a_c x_c ++ (oA T 24 a_w x_w ++ (oA T 2 a_u x_u ++ (oA T 6 a_x x_x ++ (oA T 6 a_l x_l ++ (oA T 20 a_t x_t ++ Z)))))) H locs → lv_has ls 15 [(11, .int o11j)] → W p l e (rmL 2 0) s m args below meth c H locs 0 0 Q (F0 m 279 ls [])) → W p l e (rmL 2 0) s m args below meth c H locs 0 0 Q (F0 m 250 ls [.int s0_250]) := by
    intro v6_250 v7_250 v9_250 v10_250 v14_250 s0_250 H locs ls code o10j o11j o12j hW hl h k0 k1
    rw [f_L_holds_J250] at h
    refine lv_istore (lv' := [(11, .int s0_250), (0, .ref a_c), (1, .ref a_w), (2, .ref a_u), (3, .ref a_x), (4, .ref a_l), (5, .ref a_t), (6, .int v6_250), (7, .int v7_250), (9, .int v9_250), (10, .int v10_250), (14, .int v14_250)]) hx hb dL_holds_250 hl (by decide) rfl (fun ls hl => ?_)
    refine lv_iload hx hb dL_holds_252 (lv_at hl 11 rfl) ?_
    refine lv_if_eq (tgt := 266) hx hb dL_holds_254 (by decide) (fun c18 => ?_) (fun c18 => ?_)
    · replace h := ite_t c18 h
      refine lv_iconst (v := 0) hx hb dL_holds_266 (by decide) ?_
      refine lv_istore (lv' := [(12, .int 0), (11, .int s0_250), (0, .ref a_c), (1, .ref a_w), (2, .ref a_u), (3, .ref a_x), (4, .ref a_l), (5, .ref a_t), (6, .int v6_250), (7, .int v7_250), (9, .int v9_250), (10, .int v10_250), (14, .int v14_250)]) hx hb dL_holds_267 hl (by decide) rfl (fun ls hl => ?_)
      refine lv_iload hx hb dL_holds_269 (lv_at hl 11 rfl) ?_
      refine lv_iload hx hb dL_holds_271 (lv_at hl 10 rfl) ?_
      refine lv_iadd hx hb dL_holds_273 ?_
      refine lv_topi (fun w10_19 ew10_19 => ?_)
      replace h := lb_at ew10_19 h
      refine lv_istore (lv' := [(10, .int w10_19), (12, .int 0), (11, .int s0_250), (0, .ref a_c), (1, .ref a_w), (2, .ref a_u), (3, .ref a_x), (4, .ref a_l), (5, .ref a_t), (6, .int v6_250), (7, .int v7_250), (9, .int v9_250), (14, .int v14_250)]) hx hb dL_holds_274 hl (by decide) rfl (fun ls hl => ?_)
      refine lv_goto (tgt := 107) hx hb dL_holds_276 (by decide) ?_
      obtain ⟨rfl, rfl, rfl, rfl⟩ := ret4 h
      exact k0 rfl H locs ls hW (lv_sub hl [3, 4, 5, 6, 7, 8, 9, 10, 11, 0, 2, 1] rfl)
    · replace h := ite_f c18 h
      refine lv_iload hx hb dL_holds_257 (lv_at hl 0 rfl) ?_
      refine lv_if_ne (tgt := 266) hx hb dL_holds_259 (by decide) (fun c20 => ?_) (fun c20 => ?_)
      · replace h := ite_f c20 h
        refine lv_iconst (v := 0) hx hb dL_holds_266 (by decide) ?_
        refine lv_istore (lv' := [(12, .int 0), (11, .int s0_250), (0, .ref a_c), (1, .ref a_w), (2, .ref a_u), (3, .ref a_x), (4, .ref a_l), (5, .ref a_t), (6, .int v6_250), (7, .int v7_250), (9, .int v9_250), (10, .int v10_250), (14, .int v14_250)]) hx hb dL_holds_267 hl (by decide) rfl (fun ls hl => ?_)
        refine lv_iload hx hb dL_holds_269 (lv_at hl 11 rfl) ?_
        refine lv_iload hx hb dL_holds_271 (lv_at hl 10 rfl) ?_
        refine lv_iadd hx hb dL_holds_273 ?_
        refine lv_topi (fun w10_21 ew10_21 => ?_)
        replace h := lb_at ew10_21 h
        refine lv_istore (lv' := [(10, .int w10_21), (12, .int 0), (11, .int s0_250), (0, .ref a_c), (1, .ref a_w), (2, .ref a_u), (3, .ref a_x), (4, .ref a_l), (5, .ref a_t), (6, .int v6_250), (7, .int v7_250), (9, .int v9_250), (14, .int v14_250)]) hx hb dL_holds_274 hl (by decide) rfl (fun ls hl => ?_)
        refine lv_goto (tgt := 107) hx hb dL_holds_276 (by decide) ?_
        obtain ⟨rfl, rfl, rfl, rfl⟩ := ret4 h
        exact k0 rfl H locs ls hW (lv_sub hl [3, 4, 5, 6, 7, 8, 9, 10, 11, 0, 2, 1] rfl)
      · replace h := ite_t c20 h
        refine lv_iconst (v := 1) hx hb dL_holds_262 (by decide) ?_
        refine lv_goto (tgt := 267) hx hb dL_holds_263 (by decide) ?_
        refine lv_istore (lv' := [(12, .int 1), (11, .int s0_250), (0, .ref a_c), (1, .ref a_w), (2, .ref a_u), (3, .ref a_x), (4, .ref a_l), (5, .ref a_t), (6, .int v6_250), (7, .int v7_250), (9, .int v9_250), (10, .int v10_250), (14, .int v14_250)]) hx hb dL_holds_267 hl (by decide) rfl (fun ls hl => ?_)
        refine lv_iload hx hb dL_holds_269 (lv_at hl 11 rfl) ?_
        refine lv_iload hx hb dL_holds_271 (lv_at hl 10 rfl) ?_
        refine lv_iadd hx hb dL_holds_273 ?_
        refine lv_topi (fun w10_22 ew10_22 => ?_)
        replace h := lb_at ew10_22 h
        refine lv_istore (lv' := [(10, .int w10_22), (12, .int 1), (11, .int s0_250), (0, .ref a_c), (1, .ref a_w), (2, .ref a_u), (3, .ref a_x), (4, .ref a_l), (5, .ref a_t), (6, .int v6_250), (7, .int v7_250), (9, .int v9_250), (14, .int v14_250)]) hx hb dL_holds_274 hl (by decide) rfl (fun ls hl => ?_)
        refine lv_goto (tgt := 107) hx hb dL_holds_276 (by decide) ?_
        obtain ⟨rfl, rfl, rfl, rfl⟩ := ret4 h
        exact k0 rfl H locs ls hW (lv_sub hl [3, 4, 5, 6, 7, 8, 9, 10, 11, 0, 2, 1] rfl)
  have J249 : ∀ (v6_249 : Int32) (v7_249 : Int32) (v9_249 : Int32) (v10_249 : Int32) (v14_249 : Int32) (H : Heap) (locs : List Loc) (ls : Array Slot) (code : Nat) (o10j : Int32) (o11j : Int32) (o12j : Int32), Wd D A s.heap (oA T 12 a_c x_c ++ (oA T 24 a_w x_w ++ (oA T 2 a_u x_u ++ (oA T 6 a_x x_x ++ (oA T 6 a_l x_l ++ (oA T 20 a_t x_t ++ Z)))))) H locs → lv_has ls 15 [(0, .ref a_c), (1, .ref a_w), (2, .ref a_u), (3, .ref a_x), (4, .ref a_l), (5, .ref a_t), (6, .int v6_249), (7, .int v7_249), (9, .int v9_249), (10, .int v10_249), (14, .int v14_249)] → f_L_holds_J249 x_c x_w x_u x_x x_l x_t v6_249 v7_249 v9_249 v10_249 v14_249 = some (code, o10j, o11j, o12j) → (code = 0 → ∀ (H : Heap) (locs : List Loc) (ls : Array Slot), Wd D A s.heap (oA T 12 a_c x_c ++ (oA T 24 a_w x_w ++ (oA T 2 a_u x_u ++ (oA T 6 a_x x_x ++ (oA T 6 a_l x_l ++ (oA T 20 a_t x_t ++ Z)))))) H locs → lv_has ls 15 [(0, .ref a_c), (1, .ref a_w), (2, .ref a_u), (3, .ref a_x), (4, .ref a_l), (5, .ref a_t), (6, .int v6_249), (7, .int v7_249), (9, .int v9_249), (10, .int o10j), (11, .int o11j), (12, .int o12j)] → W p l e (rmL 2 0) s m args below meth c H locs 0 0 Q (F0 m 107 ls [])) → (code = 1 → ∀ (H : Heap) (locs : List Loc) (ls : Array Slot), Wd D A s.heap (oA T 12 a_c x_c ++ (oA T 24 a_w x_w ++ (oA T 2 a_u x_u ++ (oA T 6 a_x x_x ++ (oA T 6 a_l x_l ++ (oA T 20 a_t x_t ++ Z)))))) H locs → lv_has ls 15 [(11, .int o11j)] → W p l e (rmL 2 0) s m args below meth c H locs 0 0 Q (F0 m 279 ls [])) → W p l e (rmL 2 0) s m args below meth c H locs 0 0 Q (F0 m 249 ls []) := by
    intro v6_249 v7_249 v9_249 v10_249 v14_249 H locs ls code o10j o11j o12j hW hl h k0 k1
    rw [f_L_holds_J249] at h
    refine lv_iconst (v := 0) hx hb dL_holds_249 (by decide) ?_
    exact J250 _ _ _ _ _ _ H locs ls _ _ _ _ hW (lv_sub hl [0, 1, 2, 3, 4, 5, 6, 7, 8, 9, 10] rfl) h k0 k1
  have J245 : ∀ (v6_245 : Int32) (v7_245 : Int32) (v9_245 : Int32) (v10_245 : Int32) (v14_245 : Int32) (H : Heap) (locs : List Loc) (ls : Array Slot) (code : Nat) (o10j : Int32) (o11j : Int32) (o12j : Int32), Wd D A s.heap (oA T 12 a_c x_c ++ (oA T 24 a_w x_w ++ (oA T 2 a_u x_u ++ (oA T 6 a_x x_x ++ (oA T 6 a_l x_l ++ (oA T 20 a_t x_t ++ Z)))))) H locs → lv_has ls 15 [(0, .ref a_c), (1, .ref a_w), (2, .ref a_u), (3, .ref a_x), (4, .ref a_l), (5, .ref a_t), (6, .int v6_245), (7, .int v7_245), (9, .int v9_245), (10, .int v10_245), (14, .int v14_245)] → f_L_holds_J245 x_c x_w x_u x_x x_l x_t v6_245 v7_245 v9_245 v10_245 v14_245 = some (code, o10j, o11j, o12j) → (code = 0 → ∀ (H : Heap) (locs : List Loc) (ls : Array Slot), Wd D A s.heap (oA T 12 a_c x_c ++ (oA T 24 a_w x_w ++ (oA T 2 a_u x_u ++ (oA T 6 a_x x_x ++ (oA T 6 a_l x_l ++ (oA T 20 a_t x_t ++ Z)))))) H locs → lv_has ls 15 [(0, .ref a_c), (1, .ref a_w), (2, .ref a_u), (3, .ref a_x), (4, .ref a_l), (5, .ref a_t), (6, .int v6_245), (7, .int v7_245), (9, .int v9_245), (10, .int o10j), (11, .int o11j), (12, .int o12j)] → W p l e (rmL 2 0) s m args below meth c H locs 0 0 Q (F0 m 107 ls [])) → (code = 1 → ∀ (H : Heap) (locs : List Loc) (ls : Array Slot), Wd D A s.heap (oA T 12 a_c x_c ++ (oA T 24 a_w x_w ++ (oA T 2 a_u x_u ++ (oA T 6 a_x x_x ++ (oA T 6 a_l x_l ++ (oA T 20 a_t x_t ++ Z)))))) H locs → lv_has ls 15 [(11, .int o11j)] → W p l e (rmL 2 0) s m args below meth c H locs 0 0 Q (F0 m 279 ls [])) → W p l e (rmL 2 0) s m args below meth c H locs 0 0 Q (F0 m 245 ls []) := by
    intro v6_245 v7_245 v9_245 v10_245 v14_245 H locs ls code o10j o11j o12j hW hl h k0 k1
    rw [f_L_holds_J245] at h
    refine lv_iconst (v := 1) hx hb dL_holds_245 (by decide) ?_
    refine lv_goto (tgt := 250) hx hb dL_holds_246 (by decide) ?_
    exact J250 _ _ _ _ _ _ H locs ls _ _ _ _ hW (lv_sub hl [0, 1, 2, 3, 4, 5, 6, 7, 8, 9, 10] rfl) h k0 k1
  have J212 : ∀ (v6_212 : Int32) (v7_212 : Int32) (v9_212 : Int32) (v10_212 : Int32) (v13_212 : Int32) (s0_212 : Int32) (H : Heap) (locs : List Loc) (ls : Array Slot) (code : Nat) (o10j : Int32) (o11j : Int32) (o12j : Int32), Wd D A s.heap (oA T 12 a_c x_c ++ (oA T 24 a_w x_w ++ (oA T 2 a_u x_u ++ (oA T 6 a_x x_x ++ (oA T 6 a_l x_l ++ (oA T 20 a_t x_t ++ Z)))))) H locs → lv_has ls 15 [(0, .ref a_c), (1, .ref a_w), (2, .ref a_u), (3, .ref a_x), (4, .ref a_l), (5, .ref a_t), (6, .int v6_212), (7, .int v7_212), (9, .int v9_212), (10, .int v10_212), (13, .int v13_212)] → f_L_holds_J212 x_c x_w x_u x_x x_l x_t v6_212 v7_212 v9_212 v10_212 v13_212 s0_212 = some (code, o10j, o11j, o12j) → (code = 0 → ∀ (H : Heap) (locs : List Loc) (ls : Array Slot), Wd D A s.heap (oA T 12 a_c x_c ++ (oA T 24 a_w x_w ++ (oA T 2 a_u x_u ++ (oA T 6 a_x x_x ++ (oA T 6 a_l x_l ++ (oA T 20 a_t x_t ++ Z)))))) H locs → lv_has ls 15 [(0, .ref a_c), (1, .ref a_w), (2, .ref a_u), (3, .ref a_x), (4, .ref a_l), (5, .ref a_t), (6, .int v6_212), (7, .int v7_212), (9, .int v9_212), (10, .int o10j), (11, .int o11j), (12, .int o12j)] → W p l e (rmL 2 0) s m args below meth c H locs 0 0 Q (F0 m 107 ls [])) → (code = 1 → ∀ (H : Heap) (locs : List Loc) (ls : Array Slot), Wd D A s.heap (oA T 12 a_c x_c ++ (oA T 24 a_w x_w ++ (oA T 2 a_u x_u ++ (oA T 6 a_x x_x ++ (oA T 6 a_l x_l ++ (oA T 20 a_t x_t ++ Z)))))) H locs → lv_has ls 15 [(11, .int o11j)] → W p l e (rmL 2 0) s m args below meth c H locs 0 0 Q (F0 m 279 ls [])) → W p l e (rmL 2 0) s m args below meth c H locs 0 0 Q (F0 m 212 ls [.int s0_212]) := by
    intro v6_212 v7_212 v9_212 v10_212 v13_212 s0_212 H locs ls code o10j o11j o12j hW hl h k0 k1
    rw [f_L_holds_J212] at h
    refine lv_istore (lv' := [(14, .int s0_212), (0, .ref a_c), (1, .ref a_w), (2, .ref a_u), (3, .ref a_x), (4, .ref a_l), (5, .ref a_t), (6, .int v6_212), (7, .int v7_212), (9, .int v9_212), (10, .int v10_212), (13, .int v13_212)]) hx hb dL_holds_212 hl (by decide) rfl (fun ls hl => ?_)
    refine lv_iload hx hb dL_holds_214 (lv_at hl 11 rfl) ?_
    refine lv_if_eq (tgt := 249) hx hb dL_holds_216 (by decide) (fun c17 => ?_) (fun c17 => ?_)
    · replace h := ite_t c17 h
      exact J249 _ _ _ _ _ H locs ls _ _ _ _ hW (lv_sub hl [1, 2, 3, 4, 5, 6, 7, 8, 9, 10, 0] rfl) h k0 k1
    · replace h := ite_f c17 h
      refine lv_iload hx hb dL_holds_219 (lv_at hl 0 rfl) ?_
      refine lv_if_eq (tgt := 245) hx hb dL_holds_221 (by decide) (fun c23 => ?_) (fun c23 => ?_)
      · replace h := ite_t c23 h
        exact J245 _ _ _ _ _ H locs ls _ _ _ _ hW (lv_sub hl [1, 2, 3, 4, 5, 6, 7, 8, 9, 10, 0] rfl) h k0 k1
      · replace h := ite_f c23 h
        refine lv_aload hx hb dL_holds_224 (lv_at hl 6 rfl) ?_
        refine lv_iconst (v := 5) hx hb dL_holds_226 (by decide) ?_
        refine lv_iload hx hb dL_holds_227 (lv_at hl 8 rfl) ?_
        refine lv_imul hx hb dL_holds_229 ?_
        refine lv_iconst (v := 3) hx hb dL_holds_230 (by decide) ?_
        refine lv_iadd hx hb dL_holds_231 ?_
        obtain ⟨g24, h⟩ := grd_s h
        refine g_iald hx hb hK hW 5 rfl g24 dL_holds_232 ?_
        refine lv_aload hx hb dL_holds_233 (lv_at hl 6 rfl) ?_
        refine lv_iconst (v := 5) hx hb dL_holds_235 (by decide) ?_
        refine lv_iload hx hb dL_holds_236 (lv_at hl 8 rfl) ?_
        refine lv_imul hx hb dL_holds_238 ?_
        refine lv_iconst (v := 4) hx hb dL_holds_239 (by decide) ?_
        refine lv_iadd hx hb dL_holds_240 ?_
        obtain ⟨g25, h⟩ := grd_s h
        refine g_iald hx hb hK hW 5 rfl g25 dL_holds_241 ?_
        refine lv_icmp_ne (tgt := 249) hx hb dL_holds_242 (by decide) (fun c26 => ?_) (fun c26 => ?_)
        · replace h := ite_f c26 h
          exact J249 _ _ _ _ _ H locs ls _ _ _ _ hW (lv_sub hl [1, 2, 3, 4, 5, 6, 7, 8, 9, 10, 0] rfl) h k0 k1
        · replace h := ite_t c26 h
          exact J245 _ _ _ _ _ H locs ls _ _ _ _ hW (lv_sub hl [1, 2, 3, 4, 5, 6, 7, 8, 9, 10, 0] rfl) h k0 k1
  have J211 : ∀ (v6_211 : Int32) (v7_211 : Int32) (v9_211 : Int32) (v10_211 : Int32) (v13_211 : Int32) (H : Heap) (locs : List Loc) (ls : Array Slot) (code : Nat) (o10j : Int32) (o11j : Int32) (o12j : Int32), Wd D A s.heap (oA T 12 a_c x_c ++ (oA T 24 a_w x_w ++ (oA T 2 a_u x_u ++ (oA T 6 a_x x_x ++ (oA T 6 a_l x_l ++ (oA T 20 a_t x_t ++ Z)))))) H locs → lv_has ls 15 [(0, .ref a_c), (1, .ref a_w), (2, .ref a_u), (3, .ref a_x), (4, .ref a_l), (5, .ref a_t), (6, .int v6_211), (7, .int v7_211), (9, .int v9_211), (10, .int v10_211), (13, .int v13_211)] → f_L_holds_J211 x_c x_w x_u x_x x_l x_t v6_211 v7_211 v9_211 v10_211 v13_211 = some (code, o10j, o11j, o12j) → (code = 0 → ∀ (H : Heap) (locs : List Loc) (ls : Array Slot), Wd D A s.heap (oA T 12 a_c x_c ++ (oA T 24 a_w x_w ++ (oA T 2 a_u x_u ++ (oA T 6 a_x x_x ++ (oA T 6 a_l x_l ++ (oA T 20 a_t x_t ++ Z)))))) H locs → lv_has ls 15 [(0, .ref a_c), (1, .ref a_w), (2, .ref a_u), (3, .ref a_x), (4, .ref a_l), (5, .ref a_t), (6, .int v6_211), (7, .int v7_211), (9, .int v9_211), (10, .int o10j), (11, .int o11j), (12, .int o12j)] → W p l e (rmL 2 0) s m args below meth c H locs 0 0 Q (F0 m 107 ls [])) → (code = 1 → ∀ (H : Heap) (locs : List Loc) (ls : Array Slot), Wd D A s.heap (oA T 12 a_c x_c ++ (oA T 24 a_w x_w ++ (oA T 2 a_u x_u ++ (oA T 6 a_x x_x ++ (oA T 6 a_l x_l ++ (oA T 20 a_t x_t ++ Z)))))) H locs → lv_has ls 15 [(11, .int o11j)] → W p l e (rmL 2 0) s m args below meth c H locs 0 0 Q (F0 m 279 ls [])) → W p l e (rmL 2 0) s m args below meth c H locs 0 0 Q (F0 m 211 ls []) := by
    intro v6_211 v7_211 v9_211 v10_211 v13_211 H locs ls code o10j o11j o12j hW hl h k0 k1
    rw [f_L_holds_J211] at h
    refine lv_iconst (v := 0) hx hb dL_holds_211 (by decide) ?_
    exact J212 _ _ _ _ _ _ H locs ls _ _ _ _ hW (lv_sub hl [0, 1, 2, 3, 4, 5, 6, 7, 8, 9, 10] rfl) h k0 k1
  have J166 : ∀ (v6_166 : Int32) (v7_166 : Int32) (v9_166 : Int32) (v10_166 : Int32) (s0_166 : Int32) (H : Heap) (locs : List Loc) (ls : Array Slot) (code : Nat) (o10j : Int32) (o11j : Int32) (o12j : Int32), Wd D A s.heap (oA T 12 a_c x_c ++ (oA T 24 a_w x_w ++ (oA T 2 a_u x_u ++ (oA T 6 a_x x_x ++ (oA T 6 a_l x_l ++ (oA T 20 a_t x_t ++ Z)))))) H locs → lv_has ls 15 [(0, .ref a_c), (1, .ref a_w), (2, .ref a_u), (3, .ref a_x), (4, .ref a_l), (5, .ref a_t), (6, .int v6_166), (7, .int v7_166), (9, .int v9_166), (10, .int v10_166)] → f_L_holds_J166 x_c x_w x_u x_x x_l x_t v6_166 v7_166 v9_166 v10_166 s0_166 = some (code, o10j, o11j, o12j) → (code = 0 → ∀ (H : Heap) (locs : List Loc) (ls : Array Slot), Wd D A s.heap (oA T 12 a_c x_c ++ (oA T 24 a_w x_w ++ (oA T 2 a_u x_u ++ (oA T 6 a_x x_x ++ (oA T 6 a_l x_l ++ (oA T 20 a_t x_t ++ Z)))))) H locs → lv_has ls 15 [(0, .ref a_c), (1, .ref a_w), (2, .ref a_u), (3, .ref a_x), (4, .ref a_l), (5, .ref a_t), (6, .int v6_166), (7, .int v7_166), (9, .int v9_166), (10, .int o10j), (11, .int o11j), (12, .int o12j)] → W p l e (rmL 2 0) s m args below meth c H locs 0 0 Q (F0 m 107 ls [])) → (code = 1 → ∀ (H : Heap) (locs : List Loc) (ls : Array Slot), Wd D A s.heap (oA T 12 a_c x_c ++ (oA T 24 a_w x_w ++ (oA T 2 a_u x_u ++ (oA T 6 a_x x_x ++ (oA T 6 a_l x_l ++ (oA T 20 a_t x_t ++ Z)))))) H locs → lv_has ls 15 [(11, .int o11j)] → W p l e (rmL 2 0) s m args below meth c H locs 0 0 Q (F0 m 279 ls [])) → W p l e (rmL 2 0) s m args below meth c H locs 0 0 Q (F0 m 166 ls [.int s0_166]) := by
    intro v6_166 v7_166 v9_166 v10_166 s0_166 H locs ls code o10j o11j o12j hW hl h k0 k1
    rw [f_L_holds_J166] at h
    refine lv_istore (lv' := [(13, .int s0_166), (0, .ref a_c), (1, .ref a_w), (2, .ref a_u), (3, .ref a_x), (4, .ref a_l), (5, .ref a_t), (6, .int v6_166), (7, .int v7_166), (9, .int v9_166), (10, .int v10_166)]) hx hb dL_holds_166 hl (by decide) rfl (fun ls hl => ?_)
    refine lv_aload hx hb dL_holds_168 (lv_at hl 6 rfl) ?_
    refine lv_iconst (v := 5) hx hb dL_holds_170 (by decide) ?_
    refine lv_iload hx hb dL_holds_171 (lv_at hl 8 rfl) ?_
    refine lv_imul hx hb dL_holds_173 ?_
    refine lv_iconst (v := 4) hx hb dL_holds_174 (by decide) ?_
    refine lv_iadd hx hb dL_holds_175 ?_
    obtain ⟨g15, h⟩ := grd_s h
    refine g_iald hx hb hK hW 5 rfl g15 dL_holds_176 ?_
    refine lv_if_lt (tgt := 211) hx hb dL_holds_177 (by decide) (fun c16 => ?_) (fun c16 => ?_)
    · replace h := ite_t c16 h
      exact J211 _ _ _ _ _ H locs ls _ _ _ _ hW (lv_sub hl [1, 2, 3, 4, 5, 6, 7, 8, 9, 10, 0] rfl) h k0 k1
    · replace h := ite_f c16 h
      refine lv_aload_n hx hb dL_holds_180 rfl (lv_at hl 2 rfl) ?_
      refine lv_aload_n hx hb dL_holds_181 rfl (lv_at hl 3 rfl) ?_
      refine lv_aload_n hx hb dL_holds_182 rfl (lv_at hl 4 rfl) ?_
      refine lv_aload hx hb dL_holds_183 (lv_at hl 5 rfl) ?_
      refine lv_iconst (v := 3) hx hb dL_holds_185 (by decide) ?_
      refine lv_iload hx hb dL_holds_186 (lv_at hl 7 rfl) ?_
      refine lv_imul hx hb dL_holds_188 ?_
      refine lv_iload hx hb dL_holds_189 (lv_at hl 10 rfl) ?_
      refine lv_iadd hx hb dL_holds_191 ?_
      refine lv_aload hx hb dL_holds_192 (lv_at hl 6 rfl) ?_
      refine lv_iconst (v := 5) hx hb dL_holds_194 (by decide) ?_
      refine lv_iload hx hb dL_holds_195 (lv_at hl 8 rfl) ?_
      refine lv_imul hx hb dL_holds_197 ?_
      refine lv_iconst (v := 4) hx hb dL_holds_198 (by decide) ?_
      refine lv_iadd hx hb dL_holds_199 ?_
      obtain ⟨g27, h⟩ := grd_s h
      refine g_iald hx hb hK hW 5 rfl g27 dL_holds_200 ?_
      replace hW := hW.perm pf4
      replace hW := hW.perm pf4
      replace hW := hW.perm pf4
      replace hW := hW.perm pf4
      obtain ⟨r28, q29, h⟩ := bnd1_s h
      refine cs_L_19 hx hb hml hown hts hK hN hE hC hA hW (c_L_leftOf l D T A a_w a_u a_x a_l (oA T 12 a_c x_c ++ (oA T 20 a_t x_t ++ Z)) x_w x_u x_x x_l ((3 * v6_166) + v10_166) (x_t ((5 * v7_166) + 4).toNatClampNeg) r28 q29) ⟨Nat.le_of_ble_eq_true rfl, Nat.le_of_ble_eq_true rfl⟩ hl.1 rfl (Nat.le_of_ble_eq_true rfl) dL_holds_201 (hf0 (Nat.zero_le _)) rfl (fun H locs hW => ?_)
      replace hW := hW.perm pf5
      replace hW := hW.perm pf4
      replace hW := hW.perm pf4
      replace hW := hW.perm pf4
      replace hW := hW.perm pf4
      replace hW := hW.perm pf5
      refine lv_if_le (tgt := 211) hx hb dL_holds_204 (by decide) (fun c30 => ?_) (fun c30 => ?_)
      · replace h := ite_t c30 h
        exact J211 _ _ _ _ _ H locs ls _ _ _ _ hW (lv_sub hl [1, 2, 3, 4, 5, 6, 7, 8, 9, 10, 0] rfl) h k0 k1
      · replace h := ite_f c30 h
        refine lv_iconst (v := 1) hx hb dL_holds_207 (by decide) ?_
        refine lv_goto (tgt := 212) hx hb dL_holds_208 (by decide) ?_
        exact J212 _ _ _ _ _ _ H locs ls _ _ _ _ hW (lv_sub hl [1, 2, 3, 4, 5, 6, 7, 8, 9, 10, 0] rfl) h k0 k1
  have L107 : ∀ (n : Nat) (v6_107 : Int32) (v7_107 : Int32) (v9_107 : Int32) (v10_107 : Int32) (v11_107 : Int32) (v12_107 : Int32) (H : Heap) (locs : List Loc) (ls : Array Slot) (o10_107r : Int32) (o11_107r : Int32) (o12_107r : Int32), Wd D A s.heap (oA T 12 a_c x_c ++ (oA T 24 a_w x_w ++ (oA T 2 a_u x_u ++ (oA T 6 a_x x_x ++ (oA T 6 a_l x_l ++ (oA T 20 a_t x_t ++ Z)))))) H locs → lv_has ls 15 [(0, .ref a_c), (1, .ref a_w), (2, .ref a_u), (3, .ref a_x), (4, .ref a_l), (5, .ref a_t), (6, .int v6_107), (7, .int v7_107), (9, .int v9_107), (10, .int v10_107), (11, .int v11_107), (12, .int v12_107)] → f_L_holds_L107 n x_c x_w x_u x_x x_l x_t v6_107 v7_107 v9_107 v10_107 v11_107 v12_107 = some (o10_107r, o11_107r, o12_107r) → (∀ (H : Heap) (locs : List Loc) (ls : Array Slot), Wd D A s.heap (oA T 12 a_c x_c ++ (oA T 24 a_w x_w ++ (oA T 2 a_u x_u ++ (oA T 6 a_x x_x ++ (oA T 6 a_l x_l ++ (oA T 20 a_t x_t ++ Z)))))) H locs → lv_has ls 15 [(11, .int o11_107r)] → W p l e (rmL 2 0) s m args below meth c H locs 0 0 Q (F0 m 279 ls [])) → W p l e (rmL 2 0) s m args below meth c H locs 0 0 Q (F0 m 107 ls []) := by
    intro n
    induction n with
    | zero =>
      intro v6_107 v7_107 v9_107 v10_107 v11_107 v12_107 H locs ls o10_107r o11_107r o12_107r hW hl h k1
      rw [f_L_holds_L107] at h
      cases h
    | succ n ih =>
      intro v6_107 v7_107 v9_107 v10_107 v11_107 v12_107 H locs ls o10_107r o11_107r o12_107r hW hl h k1
      rw [f_L_holds_L107] at h
      refine lv_iload hx hb dL_holds_107 (lv_at hl 9 rfl) ?_
      refine lv_if_lt (tgt := 279) hx hb dL_holds_109 (by decide) (fun c6 => ?_) (fun c6 => ?_)
      · replace h := ite_t c6 h
        obtain ⟨rfl, rfl, rfl⟩ := ret3 h
        exact k1 H locs ls hW (lv_sub hl [10] rfl)
      · replace h := ite_f c6 h
        refine lv_iload hx hb dL_holds_112 (lv_at hl 9 rfl) ?_
        refine lv_aload_n hx hb dL_holds_114 rfl (lv_at hl 0 rfl) ?_
        refine lv_bipush (v := 8) hx hb dL_holds_115 (by decide) ?_
        refine lv_iload hx hb dL_holds_117 (lv_at hl 6 rfl) ?_
        refine lv_iadd hx hb dL_holds_119 ?_
        obtain ⟨g7, h⟩ := grd_s h
        refine g_iald hx hb hK hW 0 rfl g7 dL_holds_120 ?_
        refine lv_icmp_ge (tgt := 279) hx hb dL_holds_121 (by decide) (fun c8 => ?_) (fun c8 => ?_)
        · replace h := ite_t c8 h
          obtain ⟨rfl, rfl, rfl⟩ := ret3 h
          exact k1 H locs ls hW (lv_sub hl [10] rfl)
        · replace h := ite_f c8 h
          refine lv_iload hx hb dL_holds_124 (lv_at hl 10 rfl) ?_
          refine lv_if_ne (tgt := 279) hx hb dL_holds_126 (by decide) (fun c9 => ?_) (fun c9 => ?_)
          · replace h := ite_f c9 h
            obtain ⟨rfl, rfl, rfl⟩ := ret3 h
            exact k1 H locs ls hW (lv_sub hl [10] rfl)
          · replace h := ite_t c9 h
            refine lv_iload hx hb dL_holds_129 (lv_at hl 11 rfl) ?_
            refine lv_if_ne (tgt := 279) hx hb dL_holds_131 (by decide) (fun c10 => ?_) (fun c10 => ?_)
            · replace h := ite_f c10 h
              obtain ⟨rfl, rfl, rfl⟩ := ret3 h
              exact k1 H locs ls hW (lv_sub hl [10] rfl)
            · replace h := ite_t c10 h
              refine lv_aload_n hx hb dL_holds_134 rfl (lv_at hl 1 rfl) ?_
              refine lv_aload_n hx hb dL_holds_135 rfl (lv_at hl 2 rfl) ?_
              refine lv_aload_n hx hb dL_holds_136 rfl (lv_at hl 3 rfl) ?_
              refine lv_aload hx hb dL_holds_137 (lv_at hl 4 rfl) ?_
              refine lv_iconst (v := 3) hx hb dL_holds_139 (by decide) ?_
              refine lv_iload hx hb dL_holds_140 (lv_at hl 6 rfl) ?_
              refine lv_imul hx hb dL_holds_142 ?_
              refine lv_iload hx hb dL_holds_143 (lv_at hl 9 rfl) ?_
              refine lv_iadd hx hb dL_holds_145 ?_
              refine lv_aload hx hb dL_holds_146 (lv_at hl 5 rfl) ?_
              refine lv_iconst (v := 5) hx hb dL_holds_148 (by decide) ?_
              refine lv_iload hx hb dL_holds_149 (lv_at hl 7 rfl) ?_
              refine lv_imul hx hb dL_holds_151 ?_
              refine lv_iconst (v := 3) hx hb dL_holds_152 (by decide) ?_
              refine lv_iadd hx hb dL_holds_153 ?_
              obtain ⟨g11, h⟩ := grd_s h
              refine g_iald hx hb hK hW 5 rfl g11 dL_holds_154 ?_
              replace hW := hW.perm pf4
              replace hW := hW.perm pf4
              replace hW := hW.perm pf4
              replace hW := hW.perm pf4
              obtain ⟨r12, q13, h⟩ := bnd1_s h
              refine cs_L_19 hx hb hml hown hts hK hN hE hC hA hW (c_L_leftOf l D T A a_w a_u a_x a_l (oA T 12 a_c x_c ++ (oA T 20 a_t x_t ++ Z)) x_w x_u x_x x_l ((3 * v6_107) + v10_107) (x_t ((5 * v7_107) + 3).toNatClampNeg) r12 q13) ⟨Nat.le_of_ble_eq_true rfl, Nat.le_of_ble_eq_true rfl⟩ hl.1 rfl (Nat.le_of_ble_eq_true rfl) dL_holds_155 (hf0 (Nat.zero_le _)) rfl (fun H locs hW => ?_)
              replace hW := hW.perm pf5
              replace hW := hW.perm pf4
              replace hW := hW.perm pf4
              replace hW := hW.perm pf4
              replace hW := hW.perm pf4
              replace hW := hW.perm pf5
              refine lv_if_le (tgt := 165) hx hb dL_holds_158 (by decide) (fun c14 => ?_) (fun c14 => ?_)
              · replace h := ite_t c14 h
                refine lv_iconst (v := 0) hx hb dL_holds_165 (by decide) ?_
                obtain ⟨code32, o10_t31, o11_t31, o12_t31, q33, h⟩ := bnd4_s h
                refine J166 _ _ _ _ _ H locs ls code32 o10_t31 o11_t31 o12_t31 hW (lv_sub hl [0, 1, 2, 3, 4, 5, 6, 7, 8, 9] rfl) q33 (fun hc H locs ls hW hl => ?_) (fun hc H locs ls hW hl => ?_)
                · replace h := ite_t hc h
                  exact ih _ _ _ _ _ _ H locs ls _ _ _ hW (lv_sub hl [0, 1, 2, 3, 4, 5, 6, 7, 8, 9, 10, 11] rfl) h k1
                · replace h := ite_f (by rw [hc]; decide) h
                  obtain ⟨rfl, rfl, rfl⟩ := ret3 h
                  exact k1 H locs ls hW hl
              · replace h := ite_f c14 h
                refine lv_iconst (v := 1) hx hb dL_holds_161 (by decide) ?_
                refine lv_goto (tgt := 166) hx hb dL_holds_162 (by decide) ?_
                obtain ⟨code35, o10_t34, o11_t34, o12_t34, q36, h⟩ := bnd4_s h
                refine J166 _ _ _ _ _ H locs ls code35 o10_t34 o11_t34 o12_t34 hW (lv_sub hl [0, 1, 2, 3, 4, 5, 6, 7, 8, 9] rfl) q36 (fun hc H locs ls hW hl => ?_) (fun hc H locs ls hW hl => ?_)
                · replace h := ite_t hc h
                  exact ih _ _ _ _ _ _ H locs ls _ _ _ hW (lv_sub hl [0, 1, 2, 3, 4, 5, 6, 7, 8, 9, 10, 11] rfl) h k1
                · replace h := ite_f (by rw [hc]; decide) h
                  obtain ⟨rfl, rfl, rfl⟩ := ret3 h
                  exact k1 H locs ls hW hl
  refine lv_aload hx hb dL_holds_0 (lv_at hl 5 rfl) ?_
  refine lv_iconst (v := 5) hx hb dL_holds_2 (by decide) ?_
  refine lv_iload hx hb dL_holds_3 (lv_at hl 7 rfl) ?_
  refine lv_imul hx hb dL_holds_5 ?_
  refine lv_iconst (v := 2) hx hb dL_holds_6 (by decide) ?_
  refine lv_iadd hx hb dL_holds_7 ?_
  obtain ⟨g1, h⟩ := grd_s h
  refine g_iald hx hb hK hW 5 rfl g1 dL_holds_8 ?_
  refine lv_topi (fun w9_2 ew9_2 => ?_)
  replace h := lb_at ew9_2 h
  refine lv_istore (lv' := [(9, .int w9_2), (0, .ref a_c), (1, .ref a_w), (2, .ref a_u), (3, .ref a_x), (4, .ref a_l), (5, .ref a_t), (6, .int p7), (7, .int p8), (8, .int p9)]) hx hb dL_holds_9 hl (by decide) rfl (fun ls hl => ?_)
  refine lv_iload hx hb dL_holds_11 (lv_at hl 9 rfl) ?_
  refine lv_iload hx hb dL_holds_13 (lv_at hl 0 rfl) ?_
  refine lv_iadd hx hb dL_holds_15 ?_
  refine lv_topi (fun w10_3 ew10_3 => ?_)
  replace h := lb_at ew10_3 h
  refine lv_istore (lv' := [(10, .int w10_3), (9, .int w9_2), (0, .ref a_c), (1, .ref a_w), (2, .ref a_u), (3, .ref a_x), (4, .ref a_l), (5, .ref a_t), (6, .int p7), (7, .int p8), (8, .int p9)]) hx hb dL_holds_16 hl (by decide) rfl (fun ls hl => ?_)
  refine lv_aload hx hb dL_holds_18 (lv_at hl 7 rfl) ?_
  refine lv_iconst (v := 5) hx hb dL_holds_20 (by decide) ?_
  refine lv_iload hx hb dL_holds_21 (lv_at hl 9 rfl) ?_
  refine lv_imul hx hb dL_holds_23 ?_
  obtain ⟨g4, h⟩ := grd_s h
  refine g_iald hx hb hK hW 5 rfl g4 dL_holds_24 ?_
  refine lv_if_ne (tgt := 101) hx hb dL_holds_25 (by decide) (fun c5 => ?_) (fun c5 => ?_)
  · replace h := ite_f c5 h
    refine lv_iconst (v := 0) hx hb dL_holds_101 (by decide) ?_
    refine lv_istore (lv' := [(11, .int 0), (10, .int w10_3), (9, .int w9_2), (0, .ref a_c), (1, .ref a_w), (2, .ref a_u), (3, .ref a_x), (4, .ref a_l), (5, .ref a_t), (6, .int p7), (7, .int p8), (8, .int p9)]) hx hb dL_holds_102 hl (by decide) rfl (fun ls hl => ?_)
    refine lv_iconst (v := 0) hx hb dL_holds_104 (by decide) ?_
    refine lv_istore (lv' := [(12, .int 0), (11, .int 0), (10, .int w10_3), (9, .int w9_2), (0, .ref a_c), (1, .ref a_w), (2, .ref a_u), (3, .ref a_x), (4, .ref a_l), (5, .ref a_t), (6, .int p7), (7, .int p8), (8, .int p9)]) hx hb dL_holds_105 hl (by decide) rfl (fun ls hl => ?_)
    obtain ⟨o10_u37, o11_u37, o12_u37, q38, h⟩ := bnd3_s h
    refine L107 400 _ _ _ _ _ _ H locs ls o10_u37 o11_u37 o12_u37 hW (lv_sub hl [4, 5, 6, 7, 8, 9, 10, 11, 3, 2, 1, 0] rfl) q38 (fun H locs ls hW hl => ?_)
    refine lv_iload hx hb dL_holds_279 (lv_at hl 0 rfl) ?_
    obtain ⟨g39, h⟩ := grd_s h
    obtain rfl := ret1 h
    rw [hQ]
    exact g_retz hx hb hr hlk hW g39 dL_holds_281
  · replace h := ite_t c5 h
    refine lv_iload hx hb dL_holds_28 (lv_at hl 0 rfl) ?_
    refine lv_if_lt (tgt := 99) hx hb dL_holds_30 (by decide) (fun c40 => ?_) (fun c40 => ?_)
    · replace h := ite_t c40 h
      refine lv_iconst (v := 0) hx hb dL_holds_99 (by decide) ?_
      obtain rfl := ret1 h
      rw [hQ]
      exact g_retz hx hb hr hlk hW (by decide) dL_holds_100
    · replace h := ite_f c40 h
      refine lv_iload hx hb dL_holds_33 (lv_at hl 0 rfl) ?_
      refine lv_aload_n hx hb dL_holds_35 rfl (lv_at hl 2 rfl) ?_
      refine lv_bipush (v := 8) hx hb dL_holds_36 (by decide) ?_
      refine lv_iload hx hb dL_holds_38 (lv_at hl 8 rfl) ?_
      refine lv_iadd hx hb dL_holds_40 ?_
      obtain ⟨g41, h⟩ := grd_s h
      refine g_iald hx hb hK hW 0 rfl g41 dL_holds_41 ?_
      refine lv_icmp_ge (tgt := 99) hx hb dL_holds_42 (by decide) (fun c42 => ?_) (fun c42 => ?_)
      · replace h := ite_t c42 h
        refine lv_iconst (v := 0) hx hb dL_holds_99 (by decide) ?_
        obtain rfl := ret1 h
        rw [hQ]
        exact g_retz hx hb hr hlk hW (by decide) dL_holds_100
      · replace h := ite_f c42 h
        refine lv_aload hx hb dL_holds_45 (lv_at hl 6 rfl) ?_
        refine lv_iconst (v := 3) hx hb dL_holds_47 (by decide) ?_
        refine lv_iload hx hb dL_holds_48 (lv_at hl 8 rfl) ?_
        refine lv_imul hx hb dL_holds_50 ?_
        refine lv_iload hx hb dL_holds_51 (lv_at hl 0 rfl) ?_
        refine lv_iadd hx hb dL_holds_53 ?_
        obtain ⟨g43, h⟩ := grd_s h
        refine g_iald hx hb hK hW 4 rfl g43 dL_holds_54 ?_
        refine lv_if_le (tgt := 99) hx hb dL_holds_55 (by decide) (fun c44 => ?_) (fun c44 => ?_)
        · replace h := ite_t c44 h
          refine lv_iconst (v := 0) hx hb dL_holds_99 (by decide) ?_
          obtain rfl := ret1 h
          rw [hQ]
          exact g_retz hx hb hr hlk hW (by decide) dL_holds_100
        · replace h := ite_f c44 h
          refine lv_aload_n hx hb dL_holds_58 rfl (lv_at hl 3 rfl) ?_
          refine lv_aload_n hx hb dL_holds_59 rfl (lv_at hl 4 rfl) ?_
          refine lv_aload_n hx hb dL_holds_60 rfl (lv_at hl 5 rfl) ?_
          refine lv_aload hx hb dL_holds_61 (lv_at hl 6 rfl) ?_
          refine lv_iconst (v := 3) hx hb dL_holds_63 (by decide) ?_
          refine lv_iload hx hb dL_holds_64 (lv_at hl 8 rfl) ?_
          refine lv_imul hx hb dL_holds_66 ?_
          refine lv_iload hx hb dL_holds_67 (lv_at hl 0 rfl) ?_
          refine lv_iadd hx hb dL_holds_69 ?_
          refine lv_aload hx hb dL_holds_70 (lv_at hl 7 rfl) ?_
          refine lv_iconst (v := 5) hx hb dL_holds_72 (by decide) ?_
          refine lv_iload hx hb dL_holds_73 (lv_at hl 9 rfl) ?_
          refine lv_imul hx hb dL_holds_75 ?_
          refine lv_iconst (v := 3) hx hb dL_holds_76 (by decide) ?_
          refine lv_iadd hx hb dL_holds_77 ?_
          obtain ⟨g45, h⟩ := grd_s h
          refine g_iald hx hb hK hW 5 rfl g45 dL_holds_78 ?_
          replace hW := hW.perm pf4
          replace hW := hW.perm pf4
          replace hW := hW.perm pf4
          replace hW := hW.perm pf4
          obtain ⟨r46, q47, h⟩ := bnd1_s h
          refine cs_L_19 hx hb hml hown hts hK hN hE hC hA hW (c_L_leftOf l D T A a_w a_u a_x a_l (oA T 12 a_c x_c ++ (oA T 20 a_t x_t ++ Z)) x_w x_u x_x x_l ((3 * p7) + w10_3) (x_t ((5 * p8) + 3).toNatClampNeg) r46 q47) ⟨Nat.le_of_ble_eq_true rfl, Nat.le_of_ble_eq_true rfl⟩ hl.1 rfl (Nat.le_of_ble_eq_true rfl) dL_holds_79 (hf0 (Nat.zero_le _)) rfl (fun H locs hW => ?_)
          replace hW := hW.perm pf5
          replace hW := hW.perm pf4
          replace hW := hW.perm pf4
          replace hW := hW.perm pf4
          replace hW := hW.perm pf4
          replace hW := hW.perm pf5
          refine lv_aload hx hb dL_holds_82 (lv_at hl 6 rfl) ?_
          refine lv_iconst (v := 3) hx hb dL_holds_84 (by decide) ?_
          refine lv_iload hx hb dL_holds_85 (lv_at hl 8 rfl) ?_
          refine lv_imul hx hb dL_holds_87 ?_
          refine lv_iload hx hb dL_holds_88 (lv_at hl 0 rfl) ?_
          refine lv_iadd hx hb dL_holds_90 ?_
          obtain ⟨g48, h⟩ := grd_s h
          refine g_iald hx hb hK hW 4 rfl g48 dL_holds_91 ?_
          refine lv_icmp_ne (tgt := 99) hx hb dL_holds_92 (by decide) (fun c49 => ?_) (fun c49 => ?_)
          · replace h := ite_f c49 h
            refine lv_iconst (v := 0) hx hb dL_holds_99 (by decide) ?_
            obtain rfl := ret1 h
            rw [hQ]
            exact g_retz hx hb hr hlk hW (by decide) dL_holds_100
          · replace h := ite_t c49 h
            refine lv_iconst (v := 1) hx hb dL_holds_95 (by decide) ?_
            refine lv_goto (tgt := 100) hx hb dL_holds_96 (by decide) ?_
            obtain rfl := ret1 h
            rw [hQ]
            exact g_retz hx hb hr hlk hW (by decide) dL_holds_100
set_option maxHeartbeats 16000000 in
set_option maxRecDepth 100000 in
theorem c_L_strikes (l : Launch) (D : va_G) (T : Nat → ClassId) (A : Nat → Prop) (a_c : Nat) (a_w : Nat) (a_u : Nat) (a_x : Nat) (a_l : Nat) (a_t : Nat) (Z : va_W) (x_c : Nat → Int32) (x_w : Nat → Int32) (x_u : Nat → Int32) (x_x : Nat → Int32) (x_l : Nat → Int32) (x_t : Nat → Int32) (p7 : Int32) (x_l9 : Nat → Int32) (h : f_L_strikes x_c x_w x_u x_x x_l x_t p7 = some x_l9) : Met l yL_strikes (Cond.code yL_strikes cL_strikes 13 none :: wsL_law) (rmL 3 0) (Pl D T A (oA T 12 a_c x_c ++ (oA T 24 a_w x_w ++ (oA T 2 a_u x_u ++ (oA T 6 a_x x_x ++ (oA T 6 a_l x_l ++ (oA T 20 a_t x_t ++ Z)))))) [.ref a_c, .ref a_w, .ref a_u, .ref a_x, .ref a_l, .ref a_t, .int p7]) (Qgv D A (oA T 12 a_c x_c ++ (oA T 24 a_w x_w ++ (oA T 2 a_u x_u ++ (oA T 6 a_x x_x ++ (oA T 6 a_l x_l9 ++ (oA T 20 a_t x_t ++ Z))))))) 0 0 A := by
  refine Met.ofW (cc := cL_strikes) (maxL := 13) (ret := none) (by decide +kernel) rfl ?_
  intro p e s m args below meth c s₁ B hml hv
  obtain ⟨ha, hP, hK, hD, hN, hE, hC, hA⟩ := hv
  have hx := B.exec
  have hb := B.bytes
  have hr := B.returns
  have hlk := B.notSynchronized
  have hts : ∀ w ∈ wsL_law, w.before args s = true := fun w hw => atoms_spec B.pre w (List.mem_cons_of_mem _ hw)
  have hown : s.vm.findClass RL = some m.cls := findClass_of_methodNamed B.named
  have hW : Wd D A s.heap (oA T 12 a_c x_c ++ (oA T 24 a_w x_w ++ (oA T 2 a_u x_u ++ (oA T 6 a_x x_x ++ (oA T 6 a_l x_l ++ (oA T 20 a_t x_t ++ Z)))))) s.heap [] := ⟨hP, hD, va_S.rf⟩
  have hl := lv_entry [.ref a_c, .ref a_w, .ref a_u, .ref a_x, .ref a_l, .ref a_t, .int p7] (n := 13) (Nat.le_of_ble_eq_true rfl)
  refine W.eq (en_eq ha) ?_
  generalize (lg_sl [.ref a_c, .ref a_w, .ref a_u, .ref a_x, .ref a_l, .ref a_t, .int p7] ++ List.replicate (13 - (lg_sl [.ref a_c, .ref a_w, .ref a_u, .ref a_x, .ref a_l, .ref a_t, .int p7]).length) Slot.unset).toArray = ls at hl ⊢
  have hl : lv_has ls 13 [(0, .ref a_c), (1, .ref a_w), (2, .ref a_u), (3, .ref a_x), (4, .ref a_l), (5, .ref a_t), (6, .int p7)] := hl
  clear hP hD B ha
  obtain ⟨Q, hQ⟩ : ∃ Q, Q = MQ below (Qgv D A (oA T 12 a_c x_c ++ (oA T 24 a_w x_w ++ (oA T 2 a_u x_u ++ (oA T 6 a_x x_x ++ (oA T 6 a_l x_l9 ++ (oA T 20 a_t x_t ++ Z))))))) args s 0 0 A := ⟨_, rfl⟩
  rw [← hQ]
  change W p l e (rmL 3 0) s m args below meth c s.heap [] 0 0 Q (F0 m 0 ls [])
  rw [f_L_strikes] at h
  suffices hm : ∀ (H : Heap) (locs : List Loc), Wd D A s.heap (oA T 12 a_c x_c ++ (oA T 24 a_w x_w ++ (oA T 2 a_u x_u ++ (oA T 6 a_x x_x ++ (oA T 6 a_l x_l ++ (oA T 20 a_t x_t ++ Z)))))) H locs → W p l e (rmL 3 0) s m args below meth c H locs 0 0 Q (F0 m 0 ls []) from hm _ _ hW
  clear hW
  intro H locs hW
  have L3 : ∀ (n : Nat) (x_l_3 : Nat → Int32) (v6_3 : Int32) (v7_3 : Int32) (H : Heap) (locs : List Loc) (ls : Array Slot) (o7_3r : Int32) (y_l_3r : Nat → Int32), Wd D A s.heap (oA T 12 a_c x_c ++ (oA T 24 a_w x_w ++ (oA T 2 a_u x_u ++ (oA T 6 a_x x_x ++ (oA T 6 a_l x_l_3 ++ (oA T 20 a_t x_t ++ Z)))))) H locs → lv_has ls 13 [(0, .ref a_c), (1, .ref a_w), (2, .ref a_u), (3, .ref a_x), (4, .ref a_l), (5, .ref a_t), (6, .int v6_3), (7, .int v7_3)] → f_L_strikes_L3 n x_c x_w x_u x_x x_l_3 x_t v6_3 v7_3 = some (o7_3r, y_l_3r) → (∀ (H : Heap) (locs : List Loc) (ls : Array Slot), Wd D A s.heap (oA T 12 a_c x_c ++ (oA T 24 a_w x_w ++ (oA T 2 a_u x_u ++ (oA T 6 a_x x_x ++ (oA T 6 a_l y_l_3r ++ (oA T 20 a_t x_t ++ Z)))))) H locs → lv_has ls 13 [(0, .ref a_c), (1, .ref a_w), (2, .ref a_u), (3, .ref a_x), (4, .ref a_l), (5, .ref a_t), (6, .int v6_3)] → W p l e (rmL 3 0) s m args below meth c H locs 0 0 Q (F0 m 49 ls [])) → W p l e (rmL 3 0) s m args below meth c H locs 0 0 Q (F0 m 3 ls []) := by
    intro n
    induction n with
    | zero =>
      intro x_l_3 v6_3 v7_3 H locs ls o7_3r y_l_3r hW hl h k1
      rw [f_L_strikes_L3] at h
      cases h
    | succ n ih =>
      intro x_l_3 v6_3 v7_3 H locs ls o7_3r y_l_3r hW hl h k1
      rw [f_L_strikes_L3] at h
      refine lv_iload hx hb dL_strikes_3 (lv_at hl 7 rfl) ?_
      refine lv_aload_n hx hb dL_strikes_5 rfl (lv_at hl 0 rfl) ?_
      refine lv_bipush (v := 8) hx hb dL_strikes_6 (by decide) ?_
      refine lv_iload hx hb dL_strikes_8 (lv_at hl 6 rfl) ?_
      refine lv_iadd hx hb dL_strikes_10 ?_
      obtain ⟨g1, h⟩ := grd_s h
      refine g_iald hx hb hK hW 0 rfl g1 dL_strikes_11 ?_
      refine lv_icmp_ge (tgt := 49) hx hb dL_strikes_12 (by decide) (fun c2 => ?_) (fun c2 => ?_)
      · replace h := ite_t c2 h
        obtain ⟨rfl, rfl⟩ := ret2 h
        exact k1 H locs ls hW (lv_sub hl [0, 1, 2, 3, 4, 5, 6] rfl)
      · replace h := ite_f c2 h
        refine lv_aload hx hb dL_strikes_15 (lv_at hl 4 rfl) ?_
        refine lv_iconst (v := 3) hx hb dL_strikes_17 (by decide) ?_
        refine lv_iload hx hb dL_strikes_18 (lv_at hl 6 rfl) ?_
        refine lv_imul hx hb dL_strikes_20 ?_
        refine lv_iload hx hb dL_strikes_21 (lv_at hl 7 rfl) ?_
        refine lv_iadd hx hb dL_strikes_23 ?_
        refine lv_iconst (v := 1) hx hb dL_strikes_24 (by decide) ?_
        refine lv_aload_n hx hb dL_strikes_25 rfl (lv_at hl 1 rfl) ?_
        refine lv_aload_n hx hb dL_strikes_26 rfl (lv_at hl 2 rfl) ?_
        refine lv_aload_n hx hb dL_strikes_27 rfl (lv_at hl 3 rfl) ?_
        refine lv_iconst (v := 3) hx hb dL_strikes_28 (by decide) ?_
        refine lv_iload hx hb dL_strikes_29 (lv_at hl 6 rfl) ?_
        refine lv_imul hx hb dL_strikes_31 ?_
        refine lv_iload hx hb dL_strikes_32 (lv_at hl 7 rfl) ?_
        refine lv_iadd hx hb dL_strikes_34 ?_
        obtain ⟨g3, h⟩ := grd_s h
        refine g_iald hx hb hK hW 3 rfl g3 dL_strikes_35 ?_
        replace hW := hW.perm pf2
        replace hW := hW.perm pf2
        obtain ⟨r4, q5, h⟩ := bnd1_s h
        refine cs_L_9 hx hb hml hown hts hK hN hE hC hA hW (c_L_readings l D T A a_w a_u (oA T 12 a_c x_c ++ (oA T 6 a_x x_x ++ (oA T 6 a_l x_l_3 ++ (oA T 20 a_t x_t ++ Z)))) x_w x_u (x_x ((3 * v6_3) + v7_3).toNatClampNeg) r4 q5) ⟨Nat.le_of_ble_eq_true rfl, Nat.le_of_ble_eq_true rfl⟩ hl.1 rfl (Nat.le_of_ble_eq_true rfl) dL_strikes_36 (hf0 (Nat.zero_le _)) rfl (fun H locs hW => ?_)
        replace hW := hW.perm pf5
        replace hW := hW.perm pf5
        replace hW := hW.perm pf5
        replace hW := hW.perm pf4
        replace hW := hW.perm pf4
        replace hW := hW.perm pf5
        refine lv_ishl hx hb dL_strikes_39 ?_
        refine lv_iconst (v := 1) hx hb dL_strikes_40 (by decide) ?_
        refine lv_isub hx hb dL_strikes_41 ?_
        obtain ⟨g6, h⟩ := grd_s h
        refine g_iast (ws9 := oA T 12 a_c x_c ++ (oA T 24 a_w x_w ++ (oA T 2 a_u x_u ++ (oA T 6 a_x x_x ++ (oA T 6 a_l (upd x_l_3 ((3 * v6_3) + v7_3).toNatClampNeg (((1 : Int32) <<< (r4 &&& 31)) - 1)) ++ (oA T 20 a_t x_t ++ Z)))))) hx hb hK hW 4 rfl g6 rfl dL_strikes_42 (fun H locs hW => ?_)
        obtain ⟨x_l7, ex_l7⟩ : ∃ y : Nat → Int32, y = upd x_l_3 ((3 * v6_3) + v7_3).toNatClampNeg (((1 : Int32) <<< (r4 &&& 31)) - 1) := ⟨_, rfl⟩
        rw [← ex_l7] at hW
        replace h := lb_at ex_l7 h
        obtain ⟨w7_8, ew7_8⟩ : ∃ y : Int32, y = v7_3 + 1 := ⟨_, rfl⟩
        replace h := lb_at ew7_8 h
        refine lv_iinc (v := w7_8) (lv' := [(7, .int w7_8), (0, .ref a_c), (1, .ref a_w), (2, .ref a_u), (3, .ref a_x), (4, .ref a_l), (5, .ref a_t), (6, .int v6_3)]) hx hb dL_strikes_43 hl (k := 7) rfl (by rw [ew7_8]; rfl) (by decide) rfl (fun ls hl => ?_)
        refine lv_goto (tgt := 3) hx hb dL_strikes_46 (by decide) ?_
        exact ih _ _ _ H locs ls _ _ hW (lv_sub hl [1, 2, 3, 4, 5, 6, 7, 0] rfl) h k1
  have J156 : ∀ (x_l_156 : Nat → Int32) (v6_156 : Int32) (v7_156 : Int32) (v8_156 : Int32) (v9_156 : Int32) (v10_156 : Int32) (v11_156 : Int32) (s0_156 : Int32) (H : Heap) (locs : List Loc) (ls : Array Slot) (code : Nat) (o7j : Int32) (o9j : Int32) (y_lj : Nat → Int32), Wd D A s.heap (oA T 12 a_c x_c ++ (oA T 24 a_w x_w ++ (oA T 2 a_u x_u ++ (oA T 6 a_x x_x ++ (oA T 6 a_l x_l_156 ++ (oA T 20 a_t x_t ++ Z)))))) H locs → lv_has ls 13 [(0, .ref a_c), (1, .ref a_w), (2, .ref a_u), (3, .ref a_x), (4, .ref a_l), (5, .ref a_t), (6, .int v6_156), (7, .int v7_156), (8, .int v8_156), (9, .int v9_156), (10, .int v10_156), (11, .int v11_156)] → f_L_strikes_J156 x_c x_w x_u x_x x_l_156 x_t v6_156 v7_156 v8_156 v9_156 v10_156 v11_156 s0_156 = some (code, o7j, o9j, y_lj) → (code = 0 → ∀ (H : Heap) (locs : List Loc) (ls : Array Slot), Wd D A s.heap (oA T 12 a_c x_c ++ (oA T 24 a_w x_w ++ (oA T 2 a_u x_u ++ (oA T 6 a_x x_x ++ (oA T 6 a_l y_lj ++ (oA T 20 a_t x_t ++ Z)))))) H locs → lv_has ls 13 [(0, .ref a_c), (1, .ref a_w), (2, .ref a_u), (3, .ref a_x), (4, .ref a_l), (5, .ref a_t), (6, .int v6_156), (7, .int o7j), (8, .int v8_156), (9, .int o9j)] → W p l e (rmL 3 0) s m args below meth c H locs 0 0 Q (F0 m 74 ls [])) → (code = 1 → ∀ (H : Heap) (locs : List Loc) (ls : Array Slot), Wd D A s.heap (oA T 12 a_c x_c ++ (oA T 24 a_w x_w ++ (oA T 2 a_u x_u ++ (oA T 6 a_x x_x ++ (oA T 6 a_l y_lj ++ (oA T 20 a_t x_t ++ Z)))))) H locs → lv_has ls 13 [(0, .ref a_c), (1, .ref a_w), (2, .ref a_u), (3, .ref a_x), (4, .ref a_l), (5, .ref a_t), (6, .int v6_156), (7, .int o7j), (8, .int v8_156)] → W p l e (rmL 3 0) s m args below meth c H locs 0 0 Q (F0 m 200 ls [])) → W p l e (rmL 3 0) s m args below meth c H locs 0 0 Q (F0 m 156 ls [.int s0_156]) := by
    intro x_l_156 v6_156 v7_156 v8_156 v9_156 v10_156 v11_156 s0_156 H locs ls code o7j o9j y_lj hW hl h k0 k1
    rw [f_L_strikes_J156] at h
    refine lv_istore (lv' := [(12, .int s0_156), (0, .ref a_c), (1, .ref a_w), (2, .ref a_u), (3, .ref a_x), (4, .ref a_l), (5, .ref a_t), (6, .int v6_156), (7, .int v7_156), (8, .int v8_156), (9, .int v9_156), (10, .int v10_156), (11, .int v11_156)]) hx hb dL_strikes_156 hl (by decide) rfl (fun ls hl => ?_)
    refine lv_aload hx hb dL_strikes_158 (lv_at hl 5 rfl) ?_
    refine lv_iload hx hb dL_strikes_160 (lv_at hl 11 rfl) ?_
    refine lv_dup2_11 hx hb dL_strikes_162 rfl rfl ?_
    obtain ⟨g20, h⟩ := grd_s h
    refine g_iald hx hb hK hW 4 rfl g20 dL_strikes_163 ?_
    refine lv_iload hx hb dL_strikes_164 (lv_at hl 0 rfl) ?_
    refine lv_if_eq (tgt := 174) hx hb dL_strikes_166 (by decide) (fun c21 => ?_) (fun c21 => ?_)
    · replace h := ite_t c21 h
      refine lv_iconst (v := 0) hx hb dL_strikes_174 (by decide) ?_
      refine lv_ixor hx hb dL_strikes_175 ?_
      obtain ⟨g22, h⟩ := grd_s h
      refine g_iast (ws9 := oA T 12 a_c x_c ++ (oA T 24 a_w x_w ++ (oA T 2 a_u x_u ++ (oA T 6 a_x x_x ++ (oA T 6 a_l (upd x_l_156 v10_156.toNatClampNeg ((x_l_156 v10_156.toNatClampNeg) ^^^ (0 : Int32))) ++ (oA T 20 a_t x_t ++ Z)))))) hx hb hK hW 4 rfl g22 rfl dL_strikes_176 (fun H locs hW => ?_)
      obtain ⟨x_l23, ex_l23⟩ : ∃ y : Nat → Int32, y = upd x_l_156 v10_156.toNatClampNeg ((x_l_156 v10_156.toNatClampNeg) ^^^ (0 : Int32)) := ⟨_, rfl⟩
      rw [← ex_l23] at hW
      replace h := lb_at ex_l23 h
      refine lv_iload hx hb dL_strikes_177 (lv_at hl 8 rfl) ?_
      refine lv_if_ne (tgt := 187) hx hb dL_strikes_179 (by decide) (fun c24 => ?_) (fun c24 => ?_)
      · replace h := ite_f c24 h
        refine lv_iconst (v := 1) hx hb dL_strikes_187 (by decide) ?_
        refine lv_goto (tgt := 192) hx hb dL_strikes_188 (by decide) ?_
        refine lv_istore (lv' := [(7, .int 1), (12, .int s0_156), (0, .ref a_c), (1, .ref a_w), (2, .ref a_u), (3, .ref a_x), (4, .ref a_l), (5, .ref a_t), (6, .int v6_156), (8, .int v8_156), (9, .int v9_156), (10, .int v10_156), (11, .int v11_156)]) hx hb dL_strikes_192 hl (by decide) rfl (fun ls hl => ?_)
        obtain ⟨w9_25, ew9_25⟩ : ∃ y : Int32, y = v9_156 + 1 := ⟨_, rfl⟩
        replace h := lb_at ew9_25 h
        refine lv_iinc (v := w9_25) (lv' := [(9, .int w9_25), (7, .int 1), (12, .int s0_156), (0, .ref a_c), (1, .ref a_w), (2, .ref a_u), (3, .ref a_x), (4, .ref a_l), (5, .ref a_t), (6, .int v6_156), (8, .int v8_156), (10, .int v10_156), (11, .int v11_156)]) hx hb dL_strikes_194 hl (k := 10) rfl (by rw [ew9_25]; rfl) (by decide) rfl (fun ls hl => ?_)
        refine lv_goto (tgt := 74) hx hb dL_strikes_197 (by decide) ?_
        obtain ⟨rfl, rfl, rfl, rfl⟩ := ret4 h
        exact k0 rfl H locs ls hW (lv_sub hl [3, 4, 5, 6, 7, 8, 9, 1, 10, 0] rfl)
      · replace h := ite_t c24 h
        refine lv_iload hx hb dL_strikes_182 (lv_at hl 0 rfl) ?_
        refine lv_if_eq (tgt := 191) hx hb dL_strikes_184 (by decide) (fun c26 => ?_) (fun c26 => ?_)
        · replace h := ite_t c26 h
          refine lv_iconst (v := 0) hx hb dL_strikes_191 (by decide) ?_
          refine lv_istore (lv' := [(7, .int 0), (12, .int s0_156), (0, .ref a_c), (1, .ref a_w), (2, .ref a_u), (3, .ref a_x), (4, .ref a_l), (5, .ref a_t), (6, .int v6_156), (8, .int v8_156), (9, .int v9_156), (10, .int v10_156), (11, .int v11_156)]) hx hb dL_strikes_192 hl (by decide) rfl (fun ls hl => ?_)
          obtain ⟨w9_27, ew9_27⟩ : ∃ y : Int32, y = v9_156 + 1 := ⟨_, rfl⟩
          replace h := lb_at ew9_27 h
          refine lv_iinc (v := w9_27) (lv' := [(9, .int w9_27), (7, .int 0), (12, .int s0_156), (0, .ref a_c), (1, .ref a_w), (2, .ref a_u), (3, .ref a_x), (4, .ref a_l), (5, .ref a_t), (6, .int v6_156), (8, .int v8_156), (10, .int v10_156), (11, .int v11_156)]) hx hb dL_strikes_194 hl (k := 10) rfl (by rw [ew9_27]; rfl) (by decide) rfl (fun ls hl => ?_)
          refine lv_goto (tgt := 74) hx hb dL_strikes_197 (by decide) ?_
          obtain ⟨rfl, rfl, rfl, rfl⟩ := ret4 h
          exact k0 rfl H locs ls hW (lv_sub hl [3, 4, 5, 6, 7, 8, 9, 1, 10, 0] rfl)
        · replace h := ite_f c26 h
          refine lv_iconst (v := 1) hx hb dL_strikes_187 (by decide) ?_
          refine lv_goto (tgt := 192) hx hb dL_strikes_188 (by decide) ?_
          refine lv_istore (lv' := [(7, .int 1), (12, .int s0_156), (0, .ref a_c), (1, .ref a_w), (2, .ref a_u), (3, .ref a_x), (4, .ref a_l), (5, .ref a_t), (6, .int v6_156), (8, .int v8_156), (9, .int v9_156), (10, .int v10_156), (11, .int v11_156)]) hx hb dL_strikes_192 hl (by decide) rfl (fun ls hl => ?_)
          obtain ⟨w9_28, ew9_28⟩ : ∃ y : Int32, y = v9_156 + 1 := ⟨_, rfl⟩
          replace h := lb_at ew9_28 h
          refine lv_iinc (v := w9_28) (lv' := [(9, .int w9_28), (7, .int 1), (12, .int s0_156), (0, .ref a_c), (1, .ref a_w), (2, .ref a_u), (3, .ref a_x), (4, .ref a_l), (5, .ref a_t), (6, .int v6_156), (8, .int v8_156), (10, .int v10_156), (11, .int v11_156)]) hx hb dL_strikes_194 hl (k := 10) rfl (by rw [ew9_28]; rfl) (by decide) rfl (fun ls hl => ?_)
          refine lv_goto (tgt := 74) hx hb dL_strikes_197 (by decide) ?_
          obtain ⟨rfl, rfl, rfl, rfl⟩ := ret4 h
          exact k0 rfl H locs ls hW (lv_sub hl [3, 4, 5, 6, 7, 8, 9, 1, 10, 0] rfl)
    · replace h := ite_f c21 h
      refine lv_iload hx hb dL_strikes_169 (lv_at hl 12 rfl) ?_
      refine lv_goto (tgt := 175) hx hb dL_strikes_171 (by decide) ?_
      refine lv_ixor hx hb dL_strikes_175 ?_
      obtain ⟨g29, h⟩ := grd_s h
      refine g_iast (ws9 := oA T 12 a_c x_c ++ (oA T 24 a_w x_w ++ (oA T 2 a_u x_u ++ (oA T 6 a_x x_x ++ (oA T 6 a_l (upd x_l_156 v10_156.toNatClampNeg ((x_l_156 v10_156.toNatClampNeg) ^^^ v11_156)) ++ (oA T 20 a_t x_t ++ Z)))))) hx hb hK hW 4 rfl g29 rfl dL_strikes_176 (fun H locs hW => ?_)
      obtain ⟨x_l30, ex_l30⟩ : ∃ y : Nat → Int32, y = upd x_l_156 v10_156.toNatClampNeg ((x_l_156 v10_156.toNatClampNeg) ^^^ v11_156) := ⟨_, rfl⟩
      rw [← ex_l30] at hW
      replace h := lb_at ex_l30 h
      refine lv_iload hx hb dL_strikes_177 (lv_at hl 8 rfl) ?_
      refine lv_if_ne (tgt := 187) hx hb dL_strikes_179 (by decide) (fun c31 => ?_) (fun c31 => ?_)
      · replace h := ite_f c31 h
        refine lv_iconst (v := 1) hx hb dL_strikes_187 (by decide) ?_
        refine lv_goto (tgt := 192) hx hb dL_strikes_188 (by decide) ?_
        refine lv_istore (lv' := [(7, .int 1), (12, .int s0_156), (0, .ref a_c), (1, .ref a_w), (2, .ref a_u), (3, .ref a_x), (4, .ref a_l), (5, .ref a_t), (6, .int v6_156), (8, .int v8_156), (9, .int v9_156), (10, .int v10_156), (11, .int v11_156)]) hx hb dL_strikes_192 hl (by decide) rfl (fun ls hl => ?_)
        obtain ⟨w9_32, ew9_32⟩ : ∃ y : Int32, y = v9_156 + 1 := ⟨_, rfl⟩
        replace h := lb_at ew9_32 h
        refine lv_iinc (v := w9_32) (lv' := [(9, .int w9_32), (7, .int 1), (12, .int s0_156), (0, .ref a_c), (1, .ref a_w), (2, .ref a_u), (3, .ref a_x), (4, .ref a_l), (5, .ref a_t), (6, .int v6_156), (8, .int v8_156), (10, .int v10_156), (11, .int v11_156)]) hx hb dL_strikes_194 hl (k := 10) rfl (by rw [ew9_32]; rfl) (by decide) rfl (fun ls hl => ?_)
        refine lv_goto (tgt := 74) hx hb dL_strikes_197 (by decide) ?_
        obtain ⟨rfl, rfl, rfl, rfl⟩ := ret4 h
        exact k0 rfl H locs ls hW (lv_sub hl [3, 4, 5, 6, 7, 8, 9, 1, 10, 0] rfl)
      · replace h := ite_t c31 h
        refine lv_iload hx hb dL_strikes_182 (lv_at hl 0 rfl) ?_
        refine lv_if_eq (tgt := 191) hx hb dL_strikes_184 (by decide) (fun c33 => ?_) (fun c33 => ?_)
        · replace h := ite_t c33 h
          refine lv_iconst (v := 0) hx hb dL_strikes_191 (by decide) ?_
          refine lv_istore (lv' := [(7, .int 0), (12, .int s0_156), (0, .ref a_c), (1, .ref a_w), (2, .ref a_u), (3, .ref a_x), (4, .ref a_l), (5, .ref a_t), (6, .int v6_156), (8, .int v8_156), (9, .int v9_156), (10, .int v10_156), (11, .int v11_156)]) hx hb dL_strikes_192 hl (by decide) rfl (fun ls hl => ?_)
          obtain ⟨w9_34, ew9_34⟩ : ∃ y : Int32, y = v9_156 + 1 := ⟨_, rfl⟩
          replace h := lb_at ew9_34 h
          refine lv_iinc (v := w9_34) (lv' := [(9, .int w9_34), (7, .int 0), (12, .int s0_156), (0, .ref a_c), (1, .ref a_w), (2, .ref a_u), (3, .ref a_x), (4, .ref a_l), (5, .ref a_t), (6, .int v6_156), (8, .int v8_156), (10, .int v10_156), (11, .int v11_156)]) hx hb dL_strikes_194 hl (k := 10) rfl (by rw [ew9_34]; rfl) (by decide) rfl (fun ls hl => ?_)
          refine lv_goto (tgt := 74) hx hb dL_strikes_197 (by decide) ?_
          obtain ⟨rfl, rfl, rfl, rfl⟩ := ret4 h
          exact k0 rfl H locs ls hW (lv_sub hl [3, 4, 5, 6, 7, 8, 9, 1, 10, 0] rfl)
        · replace h := ite_f c33 h
          refine lv_iconst (v := 1) hx hb dL_strikes_187 (by decide) ?_
          refine lv_goto (tgt := 192) hx hb dL_strikes_188 (by decide) ?_
          refine lv_istore (lv' := [(7, .int 1), (12, .int s0_156), (0, .ref a_c), (1, .ref a_w), (2, .ref a_u), (3, .ref a_x), (4, .ref a_l), (5, .ref a_t), (6, .int v6_156), (8, .int v8_156), (9, .int v9_156), (10, .int v10_156), (11, .int v11_156)]) hx hb dL_strikes_192 hl (by decide) rfl (fun ls hl => ?_)
          obtain ⟨w9_35, ew9_35⟩ : ∃ y : Int32, y = v9_156 + 1 := ⟨_, rfl⟩
          replace h := lb_at ew9_35 h
          refine lv_iinc (v := w9_35) (lv' := [(9, .int w9_35), (7, .int 1), (12, .int s0_156), (0, .ref a_c), (1, .ref a_w), (2, .ref a_u), (3, .ref a_x), (4, .ref a_l), (5, .ref a_t), (6, .int v6_156), (8, .int v8_156), (10, .int v10_156), (11, .int v11_156)]) hx hb dL_strikes_194 hl (k := 10) rfl (by rw [ew9_35]; rfl) (by decide) rfl (fun ls hl => ?_)
          refine lv_goto (tgt := 74) hx hb dL_strikes_197 (by decide) ?_
          obtain ⟨rfl, rfl, rfl, rfl⟩ := ret4 h
          exact k0 rfl H locs ls hW (lv_sub hl [3, 4, 5, 6, 7, 8, 9, 1, 10, 0] rfl)
  have J155 : ∀ (x_l_155 : Nat → Int32) (v6_155 : Int32) (v7_155 : Int32) (v8_155 : Int32) (v9_155 : Int32) (v10_155 : Int32) (v11_155 : Int32) (H : Heap) (locs : List Loc) (ls : Array Slot) (code : Nat) (o7j : Int32) (o9j : Int32) (y_lj : Nat → Int32), Wd D A s.heap (oA T 12 a_c x_c ++ (oA T 24 a_w x_w ++ (oA T 2 a_u x_u ++ (oA T 6 a_x x_x ++ (oA T 6 a_l x_l_155 ++ (oA T 20 a_t x_t ++ Z)))))) H locs → lv_has ls 13 [(0, .ref a_c), (1, .ref a_w), (2, .ref a_u), (3, .ref a_x), (4, .ref a_l), (5, .ref a_t), (6, .int v6_155), (7, .int v7_155), (8, .int v8_155), (9, .int v9_155), (10, .int v10_155), (11, .int v11_155)] → f_L_strikes_J155 x_c x_w x_u x_x x_l_155 x_t v6_155 v7_155 v8_155 v9_155 v10_155 v11_155 = some (code, o7j, o9j, y_lj) → (code = 0 → ∀ (H : Heap) (locs : List Loc) (ls : Array Slot), Wd D A s.heap (oA T 12 a_c x_c ++ (oA T 24 a_w x_w ++ (oA T 2 a_u x_u ++ (oA T 6 a_x x_x ++ (oA T 6 a_l y_lj ++ (oA T 20 a_t x_t ++ Z)))))) H locs → lv_has ls 13 [(0, .ref a_c), (1, .ref a_w), (2, .ref a_u), (3, .ref a_x), (4, .ref a_l), (5, .ref a_t), (6, .int v6_155), (7, .int o7j), (8, .int v8_155), (9, .int o9j)] → W p l e (rmL 3 0) s m args below meth c H locs 0 0 Q (F0 m 74 ls [])) → (code = 1 → ∀ (H : Heap) (locs : List Loc) (ls : Array Slot), Wd D A s.heap (oA T 12 a_c x_c ++ (oA T 24 a_w x_w ++ (oA T 2 a_u x_u ++ (oA T 6 a_x x_x ++ (oA T 6 a_l y_lj ++ (oA T 20 a_t x_t ++ Z)))))) H locs → lv_has ls 13 [(0, .ref a_c), (1, .ref a_w), (2, .ref a_u), (3, .ref a_x), (4, .ref a_l), (5, .ref a_t), (6, .int v6_155), (7, .int o7j), (8, .int v8_155)] → W p l e (rmL 3 0) s m args below meth c H locs 0 0 Q (F0 m 200 ls [])) → W p l e (rmL 3 0) s m args below meth c H locs 0 0 Q (F0 m 155 ls []) := by
    intro x_l_155 v6_155 v7_155 v8_155 v9_155 v10_155 v11_155 H locs ls code o7j o9j y_lj hW hl h k0 k1
    rw [f_L_strikes_J155] at h
    refine lv_iconst (v := 0) hx hb dL_strikes_155 (by decide) ?_
    exact J156 _ _ _ _ _ _ _ _ H locs ls _ _ _ _ hW (lv_sub hl [0, 1, 2, 3, 4, 5, 6, 7, 8, 9, 10, 11] rfl) h k0 k1
  have L74 : ∀ (n : Nat) (x_l_74 : Nat → Int32) (v6_74 : Int32) (v7_74 : Int32) (v8_74 : Int32) (v9_74 : Int32) (H : Heap) (locs : List Loc) (ls : Array Slot) (o7_74r : Int32) (o9_74r : Int32) (y_l_74r : Nat → Int32), Wd D A s.heap (oA T 12 a_c x_c ++ (oA T 24 a_w x_w ++ (oA T 2 a_u x_u ++ (oA T 6 a_x x_x ++ (oA T 6 a_l x_l_74 ++ (oA T 20 a_t x_t ++ Z)))))) H locs → lv_has ls 13 [(0, .ref a_c), (1, .ref a_w), (2, .ref a_u), (3, .ref a_x), (4, .ref a_l), (5, .ref a_t), (6, .int v6_74), (7, .int v7_74), (8, .int v8_74), (9, .int v9_74)] → f_L_strikes_L74 n x_c x_w x_u x_x x_l_74 x_t v6_74 v7_74 v8_74 v9_74 = some (o7_74r, o9_74r, y_l_74r) → (∀ (H : Heap) (locs : List Loc) (ls : Array Slot), Wd D A s.heap (oA T 12 a_c x_c ++ (oA T 24 a_w x_w ++ (oA T 2 a_u x_u ++ (oA T 6 a_x x_x ++ (oA T 6 a_l y_l_74r ++ (oA T 20 a_t x_t ++ Z)))))) H locs → lv_has ls 13 [(0, .ref a_c), (1, .ref a_w), (2, .ref a_u), (3, .ref a_x), (4, .ref a_l), (5, .ref a_t), (6, .int v6_74), (7, .int o7_74r), (8, .int v8_74)] → W p l e (rmL 3 0) s m args below meth c H locs 0 0 Q (F0 m 200 ls [])) → W p l e (rmL 3 0) s m args below meth c H locs 0 0 Q (F0 m 74 ls []) := by
    intro n
    induction n with
    | zero =>
      intro x_l_74 v6_74 v7_74 v8_74 v9_74 H locs ls o7_74r o9_74r y_l_74r hW hl h k1
      rw [f_L_strikes_L74] at h
      cases h
    | succ n ih =>
      intro x_l_74 v6_74 v7_74 v8_74 v9_74 H locs ls o7_74r o9_74r y_l_74r hW hl h k1
      rw [f_L_strikes_L74] at h
      refine lv_iload hx hb dL_strikes_74 (lv_at hl 9 rfl) ?_
      refine lv_aload_n hx hb dL_strikes_76 rfl (lv_at hl 0 rfl) ?_
      refine lv_bipush (v := 8) hx hb dL_strikes_77 (by decide) ?_
      refine lv_iload hx hb dL_strikes_79 (lv_at hl 6 rfl) ?_
      refine lv_iadd hx hb dL_strikes_81 ?_
      obtain ⟨g13, h⟩ := grd_s h
      refine g_iald hx hb hK hW 0 rfl g13 dL_strikes_82 ?_
      refine lv_icmp_ge (tgt := 200) hx hb dL_strikes_83 (by decide) (fun c14 => ?_) (fun c14 => ?_)
      · replace h := ite_t c14 h
        obtain ⟨rfl, rfl, rfl⟩ := ret3 h
        exact k1 H locs ls hW (lv_sub hl [0, 1, 2, 3, 4, 5, 6, 7, 8] rfl)
      · replace h := ite_f c14 h
        refine lv_iconst (v := 3) hx hb dL_strikes_86 (by decide) ?_
        refine lv_iload hx hb dL_strikes_87 (lv_at hl 6 rfl) ?_
        refine lv_imul hx hb dL_strikes_89 ?_
        refine lv_iload hx hb dL_strikes_90 (lv_at hl 9 rfl) ?_
        refine lv_iadd hx hb dL_strikes_92 ?_
        refine lv_topi (fun w10_15 ew10_15 => ?_)
        replace h := lb_at ew10_15 h
        refine lv_istore (lv' := [(10, .int w10_15), (0, .ref a_c), (1, .ref a_w), (2, .ref a_u), (3, .ref a_x), (4, .ref a_l), (5, .ref a_t), (6, .int v6_74), (7, .int v7_74), (8, .int v8_74), (9, .int v9_74)]) hx hb dL_strikes_93 hl (by decide) rfl (fun ls hl => ?_)
        refine lv_aload_n hx hb dL_strikes_95 rfl (lv_at hl 2 rfl) ?_
        refine lv_aload_n hx hb dL_strikes_96 rfl (lv_at hl 3 rfl) ?_
        refine lv_aload_n hx hb dL_strikes_97 rfl (lv_at hl 4 rfl) ?_
        refine lv_aload hx hb dL_strikes_98 (lv_at hl 5 rfl) ?_
        refine lv_iload hx hb dL_strikes_100 (lv_at hl 0 rfl) ?_
        refine lv_aload hx hb dL_strikes_102 (lv_at hl 6 rfl) ?_
        refine lv_iconst (v := 5) hx hb dL_strikes_104 (by decide) ?_
        refine lv_iload hx hb dL_strikes_105 (lv_at hl 9 rfl) ?_
        refine lv_imul hx hb dL_strikes_107 ?_
        refine lv_iconst (v := 1) hx hb dL_strikes_108 (by decide) ?_
        refine lv_iadd hx hb dL_strikes_109 ?_
        obtain ⟨g16, h⟩ := grd_s h
        refine g_iald hx hb hK hW 5 rfl g16 dL_strikes_110 ?_
        replace hW := hW.perm pf4
        replace hW := hW.perm pf4
        replace hW := hW.perm pf4
        replace hW := hW.perm pf4
        obtain ⟨r17, q18, h⟩ := bnd1_s h
        refine cs_L_19 hx hb hml hown hts hK hN hE hC hA hW (c_L_leftOf l D T A a_w a_u a_x a_l (oA T 12 a_c x_c ++ (oA T 20 a_t x_t ++ Z)) x_w x_u x_x x_l_74 w10_15 (x_t ((5 * v8_74) + 1).toNatClampNeg) r17 q18) ⟨Nat.le_of_ble_eq_true rfl, Nat.le_of_ble_eq_true rfl⟩ hl.1 rfl (Nat.le_of_ble_eq_true rfl) dL_strikes_111 (hf0 (Nat.zero_le _)) rfl (fun H locs hW => ?_)
        replace hW := hW.perm pf5
        replace hW := hW.perm pf4
        replace hW := hW.perm pf4
        replace hW := hW.perm pf4
        replace hW := hW.perm pf4
        replace hW := hW.perm pf5
        refine lv_istore (lv' := [(11, .int r17), (10, .int w10_15), (0, .ref a_c), (1, .ref a_w), (2, .ref a_u), (3, .ref a_x), (4, .ref a_l), (5, .ref a_t), (6, .int v6_74), (7, .int v7_74), (8, .int v8_74), (9, .int v9_74)]) hx hb dL_strikes_114 hl (by decide) rfl (fun ls hl => ?_)
        refine lv_iload hx hb dL_strikes_116 (lv_at hl 0 rfl) ?_
        refine lv_if_le (tgt := 155) hx hb dL_strikes_118 (by decide) (fun c19 => ?_) (fun c19 => ?_)
        · replace h := ite_t c19 h
          obtain ⟨code37, o7_t36, o9_t36, y_l_t36, q38, h⟩ := bnd4_s h
          refine J155 _ _ _ _ _ _ _ H locs ls code37 o7_t36 o9_t36 y_l_t36 hW (lv_sub hl [2, 3, 4, 5, 6, 7, 8, 9, 10, 11, 1, 0] rfl) q38 (fun hc H locs ls hW hl => ?_) (fun hc H locs ls hW hl => ?_)
          · replace h := ite_t hc h
            exact ih _ _ _ _ _ H locs ls _ _ _ hW (lv_sub hl [0, 1, 2, 3, 4, 5, 6, 7, 8, 9] rfl) h k1
          · replace h := ite_f (by rw [hc]; decide) h
            obtain ⟨rfl, rfl, rfl⟩ := ret3 h
            exact k1 H locs ls hW hl
        · replace h := ite_f c19 h
          refine lv_iload hx hb dL_strikes_121 (lv_at hl 0 rfl) ?_
          refine lv_aload hx hb dL_strikes_123 (lv_at hl 6 rfl) ?_
          refine lv_iload hx hb dL_strikes_125 (lv_at hl 1 rfl) ?_
          obtain ⟨g39, h⟩ := grd_s h
          refine g_iald hx hb hK hW 4 rfl g39 dL_strikes_127 ?_
          refine lv_icmp_ge (tgt := 155) hx hb dL_strikes_128 (by decide) (fun c40 => ?_) (fun c40 => ?_)
          · replace h := ite_t c40 h
            obtain ⟨code42, o7_t41, o9_t41, y_l_t41, q43, h⟩ := bnd4_s h
            refine J155 _ _ _ _ _ _ _ H locs ls code42 o7_t41 o9_t41 y_l_t41 hW (lv_sub hl [2, 3, 4, 5, 6, 7, 8, 9, 10, 11, 1, 0] rfl) q43 (fun hc H locs ls hW hl => ?_) (fun hc H locs ls hW hl => ?_)
            · replace h := ite_t hc h
              exact ih _ _ _ _ _ H locs ls _ _ _ hW (lv_sub hl [0, 1, 2, 3, 4, 5, 6, 7, 8, 9] rfl) h k1
            · replace h := ite_f (by rw [hc]; decide) h
              obtain ⟨rfl, rfl, rfl⟩ := ret3 h
              exact k1 H locs ls hW hl
          · replace h := ite_f c40 h
            refine lv_aload_n hx hb dL_strikes_131 rfl (lv_at hl 2 rfl) ?_
            refine lv_aload_n hx hb dL_strikes_132 rfl (lv_at hl 3 rfl) ?_
            refine lv_aload_n hx hb dL_strikes_133 rfl (lv_at hl 4 rfl) ?_
            refine lv_aload_n hx hb dL_strikes_134 rfl (lv_at hl 5 rfl) ?_
            refine lv_aload hx hb dL_strikes_135 (lv_at hl 6 rfl) ?_
            refine lv_aload hx hb dL_strikes_137 (lv_at hl 7 rfl) ?_
            refine lv_iload hx hb dL_strikes_139 (lv_at hl 8 rfl) ?_
            refine lv_iload hx hb dL_strikes_141 (lv_at hl 10 rfl) ?_
            refine lv_iload hx hb dL_strikes_143 (lv_at hl 11 rfl) ?_
            obtain ⟨r44, q45, h⟩ := bnd1_s h
            refine cs_L_23 hx hb hml hown hts hK hN hE hC hA hW (c_L_holds l D T A a_c a_w a_u a_x a_l a_t (Z) x_c x_w x_u x_x x_l_74 x_t v6_74 v8_74 v9_74 r44 q45) ⟨Nat.le_of_ble_eq_true rfl, Nat.le_of_ble_eq_true rfl⟩ hl.1 rfl (Nat.le_of_ble_eq_true rfl) dL_strikes_145 (hf0 (Nat.zero_le _)) rfl (fun H locs hW => ?_)
            refine lv_if_eq (tgt := 155) hx hb dL_strikes_148 (by decide) (fun c46 => ?_) (fun c46 => ?_)
            · replace h := ite_t c46 h
              obtain ⟨code48, o7_t47, o9_t47, y_l_t47, q49, h⟩ := bnd4_s h
              refine J155 _ _ _ _ _ _ _ H locs ls code48 o7_t47 o9_t47 y_l_t47 hW (lv_sub hl [2, 3, 4, 5, 6, 7, 8, 9, 10, 11, 1, 0] rfl) q49 (fun hc H locs ls hW hl => ?_) (fun hc H locs ls hW hl => ?_)
              · replace h := ite_t hc h
                exact ih _ _ _ _ _ H locs ls _ _ _ hW (lv_sub hl [0, 1, 2, 3, 4, 5, 6, 7, 8, 9] rfl) h k1
              · replace h := ite_f (by rw [hc]; decide) h
                obtain ⟨rfl, rfl, rfl⟩ := ret3 h
                exact k1 H locs ls hW hl
            · replace h := ite_f c46 h
              refine lv_iconst (v := 1) hx hb dL_strikes_151 (by decide) ?_
              refine lv_goto (tgt := 156) hx hb dL_strikes_152 (by decide) ?_
              obtain ⟨code51, o7_t50, o9_t50, y_l_t50, q52, h⟩ := bnd4_s h
              refine J156 _ _ _ _ _ _ _ _ H locs ls code51 o7_t50 o9_t50 y_l_t50 hW (lv_sub hl [2, 3, 4, 5, 6, 7, 8, 9, 10, 11, 1, 0] rfl) q52 (fun hc H locs ls hW hl => ?_) (fun hc H locs ls hW hl => ?_)
              · replace h := ite_t hc h
                exact ih _ _ _ _ _ H locs ls _ _ _ hW (lv_sub hl [0, 1, 2, 3, 4, 5, 6, 7, 8, 9] rfl) h k1
              · replace h := ite_f (by rw [hc]; decide) h
                obtain ⟨rfl, rfl, rfl⟩ := ret3 h
                exact k1 H locs ls hW hl
  have L63 : ∀ (n : Nat) (x_l_63 : Nat → Int32) (v6_63 : Int32) (v7_63 : Int32) (v8_63 : Int32) (H : Heap) (locs : List Loc) (ls : Array Slot) (o7_63r : Int32) (o8_63r : Int32) (y_l_63r : Nat → Int32), Wd D A s.heap (oA T 12 a_c x_c ++ (oA T 24 a_w x_w ++ (oA T 2 a_u x_u ++ (oA T 6 a_x x_x ++ (oA T 6 a_l x_l_63 ++ (oA T 20 a_t x_t ++ Z)))))) H locs → lv_has ls 13 [(0, .ref a_c), (1, .ref a_w), (2, .ref a_u), (3, .ref a_x), (4, .ref a_l), (5, .ref a_t), (6, .int v6_63), (7, .int v7_63), (8, .int v8_63)] → f_L_strikes_L63 n x_c x_w x_u x_x x_l_63 x_t v6_63 v7_63 v8_63 = some (o7_63r, o8_63r, y_l_63r) → (∀ (H : Heap) (locs : List Loc) (ls : Array Slot), Wd D A s.heap (oA T 12 a_c x_c ++ (oA T 24 a_w x_w ++ (oA T 2 a_u x_u ++ (oA T 6 a_x x_x ++ (oA T 6 a_l y_l_63r ++ (oA T 20 a_t x_t ++ Z)))))) H locs → lv_has ls 13 [(0, .ref a_c), (1, .ref a_w), (2, .ref a_u), (3, .ref a_x), (4, .ref a_l), (5, .ref a_t), (6, .int v6_63), (7, .int o7_63r)] → W p l e (rmL 3 0) s m args below meth c H locs 0 0 Q (F0 m 206 ls [])) → W p l e (rmL 3 0) s m args below meth c H locs 0 0 Q (F0 m 63 ls []) := by
    intro n
    induction n with
    | zero =>
      intro x_l_63 v6_63 v7_63 v8_63 H locs ls o7_63r o8_63r y_l_63r hW hl h k1
      rw [f_L_strikes_L63] at h
      cases h
    | succ n ih =>
      intro x_l_63 v6_63 v7_63 v8_63 H locs ls o7_63r o8_63r y_l_63r hW hl h k1
      rw [f_L_strikes_L63] at h
      refine lv_iload hx hb dL_strikes_63 (lv_at hl 8 rfl) ?_
      refine lv_aload_n hx hb dL_strikes_65 rfl (lv_at hl 0 rfl) ?_
      refine lv_iconst (v := 1) hx hb dL_strikes_66 (by decide) ?_
      refine g_iald hx hb hK hW 0 rfl (by decide) dL_strikes_67 ?_
      refine lv_icmp_ge (tgt := 206) hx hb dL_strikes_68 (by decide) (fun c12 => ?_) (fun c12 => ?_)
      · replace h := ite_t c12 h
        obtain ⟨rfl, rfl, rfl⟩ := ret3 h
        exact k1 H locs ls hW (lv_sub hl [0, 1, 2, 3, 4, 5, 6, 7] rfl)
      · replace h := ite_f c12 h
        refine lv_iconst (v := 0) hx hb dL_strikes_71 (by decide) ?_
        refine lv_istore (lv' := [(9, .int 0), (0, .ref a_c), (1, .ref a_w), (2, .ref a_u), (3, .ref a_x), (4, .ref a_l), (5, .ref a_t), (6, .int v6_63), (7, .int v7_63), (8, .int v8_63)]) hx hb dL_strikes_72 hl (by decide) rfl (fun ls hl => ?_)
        obtain ⟨o7_u53, o9_u53, y_l_u53, q54, h⟩ := bnd3_s h
        refine L74 400 _ _ _ _ _ H locs ls o7_u53 o9_u53 y_l_u53 hW (lv_sub hl [1, 2, 3, 4, 5, 6, 7, 8, 9, 0] rfl) q54 (fun H locs ls hW hl => ?_)
        obtain ⟨w8_55, ew8_55⟩ : ∃ y : Int32, y = v8_63 + 1 := ⟨_, rfl⟩
        replace h := lb_at ew8_55 h
        refine lv_iinc (v := w8_55) (lv' := [(8, .int w8_55), (0, .ref a_c), (1, .ref a_w), (2, .ref a_u), (3, .ref a_x), (4, .ref a_l), (5, .ref a_t), (6, .int v6_63), (7, .int o7_u53)]) hx hb dL_strikes_200 hl (k := 8) rfl (by rw [ew8_55]; rfl) (by decide) rfl (fun ls hl => ?_)
        refine lv_goto (tgt := 63) hx hb dL_strikes_203 (by decide) ?_
        exact ih _ _ _ _ H locs ls _ _ _ hW (lv_sub hl [1, 2, 3, 4, 5, 6, 7, 8, 0] rfl) h k1
  have L52 : ∀ (n : Nat) (x_l_52 : Nat → Int32) (v6_52 : Int32) (v7_52 : Int32) (H : Heap) (locs : List Loc) (ls : Array Slot) (o7_52r : Int32) (y_l_52r : Nat → Int32), Wd D A s.heap (oA T 12 a_c x_c ++ (oA T 24 a_w x_w ++ (oA T 2 a_u x_u ++ (oA T 6 a_x x_x ++ (oA T 6 a_l x_l_52 ++ (oA T 20 a_t x_t ++ Z)))))) H locs → lv_has ls 13 [(0, .ref a_c), (1, .ref a_w), (2, .ref a_u), (3, .ref a_x), (4, .ref a_l), (5, .ref a_t), (6, .int v6_52), (7, .int v7_52)] → f_L_strikes_L52 n x_c x_w x_u x_x x_l_52 x_t v6_52 v7_52 = some (o7_52r, y_l_52r) → (∀ (H : Heap) (locs : List Loc) (ls : Array Slot), Wd D A s.heap (oA T 12 a_c x_c ++ (oA T 24 a_w x_w ++ (oA T 2 a_u x_u ++ (oA T 6 a_x x_x ++ (oA T 6 a_l y_l_52r ++ (oA T 20 a_t x_t ++ Z)))))) H locs → lv_has ls 13 [] → W p l e (rmL 3 0) s m args below meth c H locs 0 0 Q (F0 m 209 ls [])) → W p l e (rmL 3 0) s m args below meth c H locs 0 0 Q (F0 m 52 ls []) := by
    intro n
    induction n with
    | zero =>
      intro x_l_52 v6_52 v7_52 H locs ls o7_52r y_l_52r hW hl h k1
      rw [f_L_strikes_L52] at h
      cases h
    | succ n ih =>
      intro x_l_52 v6_52 v7_52 H locs ls o7_52r y_l_52r hW hl h k1
      rw [f_L_strikes_L52] at h
      refine lv_iload hx hb dL_strikes_52 (lv_at hl 7 rfl) ?_
      refine lv_if_eq (tgt := 209) hx hb dL_strikes_54 (by decide) (fun c11 => ?_) (fun c11 => ?_)
      · replace h := ite_t c11 h
        obtain ⟨rfl, rfl⟩ := ret2 h
        exact k1 H locs ls hW (lv_sub hl [] rfl)
      · replace h := ite_f c11 h
        refine lv_iconst (v := 0) hx hb dL_strikes_57 (by decide) ?_
        refine lv_istore (lv' := [(7, .int 0), (0, .ref a_c), (1, .ref a_w), (2, .ref a_u), (3, .ref a_x), (4, .ref a_l), (5, .ref a_t), (6, .int v6_52)]) hx hb dL_strikes_58 hl (by decide) rfl (fun ls hl => ?_)
        refine lv_iconst (v := 0) hx hb dL_strikes_60 (by decide) ?_
        refine lv_istore (lv' := [(8, .int 0), (7, .int 0), (0, .ref a_c), (1, .ref a_w), (2, .ref a_u), (3, .ref a_x), (4, .ref a_l), (5, .ref a_t), (6, .int v6_52)]) hx hb dL_strikes_61 hl (by decide) rfl (fun ls hl => ?_)
        obtain ⟨o7_u56, o8_u56, y_l_u56, q57, h⟩ := bnd3_s h
        refine L63 400 _ _ _ _ H locs ls o7_u56 o8_u56 y_l_u56 hW (lv_sub hl [2, 3, 4, 5, 6, 7, 8, 1, 0] rfl) q57 (fun H locs ls hW hl => ?_)
        refine lv_goto (tgt := 52) hx hb dL_strikes_206 (by decide) ?_
        exact ih _ _ _ H locs ls _ _ hW (lv_sub hl [0, 1, 2, 3, 4, 5, 6, 7] rfl) h k1
  refine lv_iconst (v := 0) hx hb dL_strikes_0 (by decide) ?_
  refine lv_istore (lv' := [(7, .int 0), (0, .ref a_c), (1, .ref a_w), (2, .ref a_u), (3, .ref a_x), (4, .ref a_l), (5, .ref a_t), (6, .int p7)]) hx hb dL_strikes_1 hl (by decide) rfl (fun ls hl => ?_)
  obtain ⟨o7_u9, y_l_u9, q10, h⟩ := bnd2_s h
  refine L3 400 _ _ _ H locs ls o7_u9 y_l_u9 hW (lv_sub hl [1, 2, 3, 4, 5, 6, 7, 0] rfl) q10 (fun H locs ls hW hl => ?_)
  refine lv_iconst (v := 1) hx hb dL_strikes_49 (by decide) ?_
  refine lv_istore (lv' := [(7, .int 1), (0, .ref a_c), (1, .ref a_w), (2, .ref a_u), (3, .ref a_x), (4, .ref a_l), (5, .ref a_t), (6, .int p7)]) hx hb dL_strikes_50 hl (by decide) rfl (fun ls hl => ?_)
  obtain ⟨o7_u58, y_l_u58, q59, h⟩ := bnd2_s h
  refine L52 400 _ _ _ H locs ls o7_u58 y_l_u58 hW (lv_sub hl [1, 2, 3, 4, 5, 6, 7, 0] rfl) q59 (fun H locs ls hW hl => ?_)
  obtain rfl := ret1 h
  rw [hQ]
  exact g_retv hx hb hr hlk hW dL_strikes_209
set_option maxHeartbeats 16000000 in
set_option maxRecDepth 100000 in
theorem c_L_refers (l : Launch) (D : va_G) (T : Nat → ClassId) (A : Nat → Prop) (a_c : Nat) (a_w : Nat) (a_u : Nat) (a_x : Nat) (a_l : Nat) (a_f : Nat) (a_v : Nat) (Z : va_W) (x_c : Nat → Int32) (x_w : Nat → Int32) (x_u : Nat → Int32) (x_x : Nat → Int32) (x_l : Nat → Int32) (x_f : Nat → Int32) (x_v : Nat → Int32) (p8 : Int32) (x_f9 : Nat → Int32) (x_v9 : Nat → Int32) (h : f_L_refers x_c x_w x_u x_x x_l x_f x_v p8 = some (x_f9, x_v9)) : Met l yL_refers (Cond.code yL_refers cL_refers 14 none :: wsL_law) (rmL 2 0) (Pl D T A (oA T 12 a_c x_c ++ (oA T 24 a_w x_w ++ (oA T 2 a_u x_u ++ (oA T 6 a_x x_x ++ (oA T 6 a_l x_l ++ (oA T 6 a_f x_f ++ (oA T 12 a_v x_v ++ Z))))))) [.ref a_c, .ref a_w, .ref a_u, .ref a_x, .ref a_l, .ref a_f, .ref a_v, .int p8]) (Qgv D A (oA T 12 a_c x_c ++ (oA T 24 a_w x_w ++ (oA T 2 a_u x_u ++ (oA T 6 a_x x_x ++ (oA T 6 a_l x_l ++ (oA T 6 a_f x_f9 ++ (oA T 12 a_v x_v9 ++ Z)))))))) 0 0 A := by
  refine Met.ofW (cc := cL_refers) (maxL := 14) (ret := none) (by decide +kernel) rfl ?_
  intro p e s m args below meth c s₁ B hml hv
  obtain ⟨ha, hP, hK, hD, hN, hE, hC, hA⟩ := hv
  have hx := B.exec
  have hb := B.bytes
  have hr := B.returns
  have hlk := B.notSynchronized
  have hts : ∀ w ∈ wsL_law, w.before args s = true := fun w hw => atoms_spec B.pre w (List.mem_cons_of_mem _ hw)
  have hown : s.vm.findClass RL = some m.cls := findClass_of_methodNamed B.named
  have hW : Wd D A s.heap (oA T 12 a_c x_c ++ (oA T 24 a_w x_w ++ (oA T 2 a_u x_u ++ (oA T 6 a_x x_x ++ (oA T 6 a_l x_l ++ (oA T 6 a_f x_f ++ (oA T 12 a_v x_v ++ Z))))))) s.heap [] := ⟨hP, hD, va_S.rf⟩
  have hl := lv_entry [.ref a_c, .ref a_w, .ref a_u, .ref a_x, .ref a_l, .ref a_f, .ref a_v, .int p8] (n := 14) (Nat.le_of_ble_eq_true rfl)
  refine W.eq (en_eq ha) ?_
  generalize (lg_sl [.ref a_c, .ref a_w, .ref a_u, .ref a_x, .ref a_l, .ref a_f, .ref a_v, .int p8] ++ List.replicate (14 - (lg_sl [.ref a_c, .ref a_w, .ref a_u, .ref a_x, .ref a_l, .ref a_f, .ref a_v, .int p8]).length) Slot.unset).toArray = ls at hl ⊢
  have hl : lv_has ls 14 [(0, .ref a_c), (1, .ref a_w), (2, .ref a_u), (3, .ref a_x), (4, .ref a_l), (5, .ref a_f), (6, .ref a_v), (7, .int p8)] := hl
  clear hP hD B ha
  obtain ⟨Q, hQ⟩ : ∃ Q, Q = MQ below (Qgv D A (oA T 12 a_c x_c ++ (oA T 24 a_w x_w ++ (oA T 2 a_u x_u ++ (oA T 6 a_x x_x ++ (oA T 6 a_l x_l ++ (oA T 6 a_f x_f9 ++ (oA T 12 a_v x_v9 ++ Z)))))))) args s 0 0 A := ⟨_, rfl⟩
  rw [← hQ]
  change W p l e (rmL 2 0) s m args below meth c s.heap [] 0 0 Q (F0 m 0 ls [])
  rw [f_L_refers] at h
  suffices hm : ∀ (H : Heap) (locs : List Loc), Wd D A s.heap (oA T 12 a_c x_c ++ (oA T 24 a_w x_w ++ (oA T 2 a_u x_u ++ (oA T 6 a_x x_x ++ (oA T 6 a_l x_l ++ (oA T 6 a_f x_f ++ (oA T 12 a_v x_v ++ Z))))))) H locs → W p l e (rmL 2 0) s m args below meth c H locs 0 0 Q (F0 m 0 ls []) from hm _ _ hW
  clear hW
  intro H locs hW
  have L112 : ∀ (n : Nat) (x_f_112 : Nat → Int32) (x_v_112 : Nat → Int32) (v7_112 : Int32) (v9_112 : Int32) (v10_112 : Int32) (v11_112 : Int32) (v12_112 : Int32) (H : Heap) (locs : List Loc) (ls : Array Slot) (o12_112r : Int32) (y_f_112r : Nat → Int32) (y_v_112r : Nat → Int32), Wd D A s.heap (oA T 12 a_c x_c ++ (oA T 24 a_w x_w ++ (oA T 2 a_u x_u ++ (oA T 6 a_x x_x ++ (oA T 6 a_l x_l ++ (oA T 6 a_f x_f_112 ++ (oA T 12 a_v x_v_112 ++ Z))))))) H locs → lv_has ls 14 [(0, .ref a_c), (1, .ref a_w), (2, .ref a_u), (3, .ref a_x), (4, .ref a_l), (5, .ref a_f), (6, .ref a_v), (7, .int v7_112), (9, .int v9_112), (10, .int v10_112), (11, .int v11_112), (12, .int v12_112)] → f_L_refers_L112 n x_c x_w x_u x_x x_l x_f_112 x_v_112 v7_112 v9_112 v10_112 v11_112 v12_112 = some (o12_112r, y_f_112r, y_v_112r) → (∀ (H : Heap) (locs : List Loc) (ls : Array Slot), Wd D A s.heap (oA T 12 a_c x_c ++ (oA T 24 a_w x_w ++ (oA T 2 a_u x_u ++ (oA T 6 a_x x_x ++ (oA T 6 a_l x_l ++ (oA T 6 a_f y_f_112r ++ (oA T 12 a_v y_v_112r ++ Z))))))) H locs → lv_has ls 14 [(0, .ref a_c), (1, .ref a_w), (2, .ref a_u), (3, .ref a_x), (4, .ref a_l), (5, .ref a_f), (6, .ref a_v), (7, .int v7_112), (9, .int v9_112), (10, .int v10_112)] → W p l e (rmL 2 0) s m args below meth c H locs 0 0 Q (F0 m 267 ls [])) → W p l e (rmL 2 0) s m args below meth c H locs 0 0 Q (F0 m 112 ls []) := by
    intro n
    induction n with
    | zero =>
      intro x_f_112 x_v_112 v7_112 v9_112 v10_112 v11_112 v12_112 H locs ls o12_112r y_f_112r y_v_112r hW hl h k1
      rw [f_L_refers_L112] at h
      cases h
    | succ n ih =>
      intro x_f_112 x_v_112 v7_112 v9_112 v10_112 v11_112 v12_112 H locs ls o12_112r y_f_112r y_v_112r hW hl h k1
      rw [f_L_refers_L112] at h
      refine lv_iload hx hb dL_refers_112 (lv_at hl 10 rfl) ?_
      refine lv_if_eq (tgt := 267) hx hb dL_refers_114 (by decide) (fun c20 => ?_) (fun c20 => ?_)
      · replace h := ite_t c20 h
        obtain ⟨rfl, rfl, rfl⟩ := ret3 h
        exact k1 H locs ls hW (lv_sub hl [0, 1, 2, 3, 4, 5, 6, 7, 8, 9] rfl)
      · replace h := ite_f c20 h
        refine lv_aload hx hb dL_refers_117 (lv_at hl 5 rfl) ?_
        refine lv_iload hx hb dL_refers_119 (lv_at hl 7 rfl) ?_
        obtain ⟨g21, h⟩ := grd_s h
        refine g_iald hx hb hK hW 5 rfl g21 dL_refers_121 ?_
        refine lv_if_ge (tgt := 267) hx hb dL_refers_122 (by decide) (fun c22 => ?_) (fun c22 => ?_)
        · replace h := ite_t c22 h
          obtain ⟨rfl, rfl, rfl⟩ := ret3 h
          exact k1 H locs ls hW (lv_sub hl [0, 1, 2, 3, 4, 5, 6, 7, 8, 9] rfl)
        · replace h := ite_f c22 h
          refine lv_iload hx hb dL_refers_125 (lv_at hl 11 rfl) ?_
          refine lv_aload_n hx hb dL_refers_127 rfl (lv_at hl 1 rfl) ?_
          refine lv_aload_n hx hb dL_refers_128 rfl (lv_at hl 2 rfl) ?_
          refine lv_aload_n hx hb dL_refers_129 rfl (lv_at hl 3 rfl) ?_
          refine lv_iload hx hb dL_refers_130 (lv_at hl 9 rfl) ?_
          obtain ⟨g23, h⟩ := grd_s h
          refine g_iald hx hb hK hW 3 rfl g23 dL_refers_132 ?_
          replace hW := hW.perm pf2
          replace hW := hW.perm pf2
          obtain ⟨r24, q25, h⟩ := bnd1_s h
          refine cs_L_9 hx hb hml hown hts hK hN hE hC hA hW (c_L_readings l D T A a_w a_u (oA T 12 a_c x_c ++ (oA T 6 a_x x_x ++ (oA T 6 a_l x_l ++ (oA T 6 a_f x_f_112 ++ (oA T 12 a_v x_v_112 ++ Z))))) x_w x_u (x_x v10_112.toNatClampNeg) r24 q25) ⟨Nat.le_of_ble_eq_true rfl, Nat.le_of_ble_eq_true rfl⟩ hl.1 rfl (Nat.le_of_ble_eq_true rfl) dL_refers_133 (hf0 (Nat.zero_le _)) rfl (fun H locs hW => ?_)
          replace hW := hW.perm pf6
          replace hW := hW.perm pf6
          replace hW := hW.perm pf6
          replace hW := hW.perm pf6
          replace hW := hW.perm pf5
          replace hW := hW.perm pf5
          replace hW := hW.perm pf6
          refine lv_icmp_ge (tgt := 267) hx hb dL_refers_136 (by decide) (fun c26 => ?_) (fun c26 => ?_)
          · replace h := ite_t c26 h
            obtain ⟨rfl, rfl, rfl⟩ := ret3 h
            exact k1 H locs ls hW (lv_sub hl [0, 1, 2, 3, 4, 5, 6, 7, 8, 9] rfl)
          · replace h := ite_f c26 h
            refine lv_aload_n hx hb dL_refers_139 rfl (lv_at hl 1 rfl) ?_
            refine lv_aload_n hx hb dL_refers_140 rfl (lv_at hl 2 rfl) ?_
            refine lv_aload_n hx hb dL_refers_141 rfl (lv_at hl 3 rfl) ?_
            refine lv_iload hx hb dL_refers_142 (lv_at hl 9 rfl) ?_
            obtain ⟨g27, h⟩ := grd_s h
            refine g_iald hx hb hK hW 3 rfl g27 dL_refers_144 ?_
            refine lv_iload hx hb dL_refers_145 (lv_at hl 11 rfl) ?_
            replace hW := hW.perm pf2
            replace hW := hW.perm pf2
            obtain ⟨r28, q29, h⟩ := bnd1_s h
            refine cs_L_15 hx hb hml hown hts hK hN hE hC hA hW (c_L_reading l D T A a_w a_u (oA T 12 a_c x_c ++ (oA T 6 a_x x_x ++ (oA T 6 a_l x_l ++ (oA T 6 a_f x_f_112 ++ (oA T 12 a_v x_v_112 ++ Z))))) x_w x_u (x_x v10_112.toNatClampNeg) v12_112 r28 q29) ⟨Nat.le_of_ble_eq_true rfl, Nat.le_of_ble_eq_true rfl⟩ hl.1 rfl (Nat.le_of_ble_eq_true rfl) dL_refers_147 (hf0 (Nat.zero_le _)) rfl (fun H locs hW => ?_)
            replace hW := hW.perm pf6
            replace hW := hW.perm pf6
            replace hW := hW.perm pf6
            replace hW := hW.perm pf6
            replace hW := hW.perm pf5
            replace hW := hW.perm pf5
            replace hW := hW.perm pf6
            refine lv_istore (lv' := [(13, .int r28), (0, .ref a_c), (1, .ref a_w), (2, .ref a_u), (3, .ref a_x), (4, .ref a_l), (5, .ref a_f), (6, .ref a_v), (7, .int v7_112), (9, .int v9_112), (10, .int v10_112), (11, .int v11_112), (12, .int v12_112)]) hx hb dL_refers_150 hl (by decide) rfl (fun ls hl => ?_)
            refine lv_aload hx hb dL_refers_152 (lv_at hl 5 rfl) ?_
            refine lv_iload hx hb dL_refers_154 (lv_at hl 10 rfl) ?_
            obtain ⟨g30, h⟩ := grd_s h
            refine g_iald hx hb hK hW 4 rfl g30 dL_refers_156 ?_
            refine lv_iload hx hb dL_refers_157 (lv_at hl 12 rfl) ?_
            refine lv_ishr hx hb dL_refers_159 ?_
            refine lv_iconst (v := 1) hx hb dL_refers_160 (by decide) ?_
            refine lv_iand hx hb dL_refers_161 ?_
            refine lv_iconst (v := 1) hx hb dL_refers_162 (by decide) ?_
            refine lv_icmp_ne (tgt := 261) hx hb dL_refers_163 (by decide) (fun c31 => ?_) (fun c31 => ?_)
            · replace h := ite_f c31 h
              obtain ⟨w12_32, ew12_32⟩ : ∃ y : Int32, y = v12_112 + 1 := ⟨_, rfl⟩
              replace h := lb_at ew12_32 h
              refine lv_iinc (v := w12_32) (lv' := [(12, .int w12_32), (13, .int r28), (0, .ref a_c), (1, .ref a_w), (2, .ref a_u), (3, .ref a_x), (4, .ref a_l), (5, .ref a_f), (6, .ref a_v), (7, .int v7_112), (9, .int v9_112), (10, .int v10_112), (11, .int v11_112)]) hx hb dL_refers_261 hl (k := 12) rfl (by rw [ew12_32]; rfl) (by decide) rfl (fun ls hl => ?_)
              refine lv_goto (tgt := 112) hx hb dL_refers_264 (by decide) ?_
              exact ih _ _ _ _ _ _ _ H locs ls _ _ _ hW (lv_sub hl [2, 3, 4, 5, 6, 7, 8, 9, 10, 11, 12, 0] rfl) h k1
            · replace h := ite_t c31 h
              refine lv_iload hx hb dL_refers_166 (lv_at hl 0 rfl) ?_
              refine lv_sipush (v := 1000) hx hb dL_refers_168 (by decide) ?_
              refine lv_icmp_ge (tgt := 261) hx hb dL_refers_171 (by decide) (fun c33 => ?_) (fun c33 => ?_)
              · replace h := ite_t c33 h
                obtain ⟨w12_34, ew12_34⟩ : ∃ y : Int32, y = v12_112 + 1 := ⟨_, rfl⟩
                replace h := lb_at ew12_34 h
                refine lv_iinc (v := w12_34) (lv' := [(12, .int w12_34), (13, .int r28), (0, .ref a_c), (1, .ref a_w), (2, .ref a_u), (3, .ref a_x), (4, .ref a_l), (5, .ref a_f), (6, .ref a_v), (7, .int v7_112), (9, .int v9_112), (10, .int v10_112), (11, .int v11_112)]) hx hb dL_refers_261 hl (k := 12) rfl (by rw [ew12_34]; rfl) (by decide) rfl (fun ls hl => ?_)
                refine lv_goto (tgt := 112) hx hb dL_refers_264 (by decide) ?_
                exact ih _ _ _ _ _ _ _ H locs ls _ _ _ hW (lv_sub hl [2, 3, 4, 5, 6, 7, 8, 9, 10, 11, 12, 0] rfl) h k1
              · replace h := ite_f c33 h
                refine lv_iload hx hb dL_refers_174 (lv_at hl 0 rfl) ?_
                refine lv_bipush (v := 100) hx hb dL_refers_176 (by decide) ?_
                refine lv_idiv hx hb dL_refers_178 (by decide) ?_
                refine lv_iload hx hb dL_refers_179 (lv_at hl 9 rfl) ?_
                refine lv_bipush (v := 100) hx hb dL_refers_181 (by decide) ?_
                refine lv_idiv hx hb dL_refers_183 (by decide) ?_
                refine lv_bipush (v := 10) hx hb dL_refers_184 (by decide) ?_
                refine lv_irem hx hb dL_refers_186 (by decide) ?_
                obtain ⟨r35, q36, h⟩ := bnd1_s h
                refine cs_L_27 hx hb hml hown hts hK hN hE hC hA hW (c_L_agree l D T A (oA T 12 a_c x_c ++ (oA T 24 a_w x_w ++ (oA T 2 a_u x_u ++ (oA T 6 a_x x_x ++ (oA T 6 a_l x_l ++ (oA T 6 a_f x_f_112 ++ (oA T 12 a_v x_v_112 ++ Z))))))) (r28 / 100) ((v9_112 / 100) - (v9_112 / 100) / 10 * 10) r35 q36) ⟨Nat.le_of_ble_eq_true rfl, Nat.le_of_ble_eq_true rfl⟩ hl.1 rfl (Nat.le_of_ble_eq_true rfl) dL_refers_187 (hf0 (Nat.zero_le _)) rfl (fun H locs hW => ?_)
                refine lv_if_eq (tgt := 261) hx hb dL_refers_190 (by decide) (fun c37 => ?_) (fun c37 => ?_)
                · replace h := ite_t c37 h
                  obtain ⟨w12_38, ew12_38⟩ : ∃ y : Int32, y = v12_112 + 1 := ⟨_, rfl⟩
                  replace h := lb_at ew12_38 h
                  refine lv_iinc (v := w12_38) (lv' := [(12, .int w12_38), (13, .int r28), (0, .ref a_c), (1, .ref a_w), (2, .ref a_u), (3, .ref a_x), (4, .ref a_l), (5, .ref a_f), (6, .ref a_v), (7, .int v7_112), (9, .int v9_112), (10, .int v10_112), (11, .int v11_112)]) hx hb dL_refers_261 hl (k := 12) rfl (by rw [ew12_38]; rfl) (by decide) rfl (fun ls hl => ?_)
                  refine lv_goto (tgt := 112) hx hb dL_refers_264 (by decide) ?_
                  exact ih _ _ _ _ _ _ _ H locs ls _ _ _ hW (lv_sub hl [2, 3, 4, 5, 6, 7, 8, 9, 10, 11, 12, 0] rfl) h k1
                · replace h := ite_f c37 h
                  refine lv_iload hx hb dL_refers_193 (lv_at hl 0 rfl) ?_
                  refine lv_bipush (v := 10) hx hb dL_refers_195 (by decide) ?_
                  refine lv_idiv hx hb dL_refers_197 (by decide) ?_
                  refine lv_bipush (v := 10) hx hb dL_refers_198 (by decide) ?_
                  refine lv_irem hx hb dL_refers_200 (by decide) ?_
                  refine lv_iload hx hb dL_refers_201 (lv_at hl 9 rfl) ?_
                  refine lv_bipush (v := 10) hx hb dL_refers_203 (by decide) ?_
                  refine lv_idiv hx hb dL_refers_205 (by decide) ?_
                  refine lv_bipush (v := 10) hx hb dL_refers_206 (by decide) ?_
                  refine lv_irem hx hb dL_refers_208 (by decide) ?_
                  obtain ⟨r39, q40, h⟩ := bnd1_s h
                  refine cs_L_27 hx hb hml hown hts hK hN hE hC hA hW (c_L_agree l D T A (oA T 12 a_c x_c ++ (oA T 24 a_w x_w ++ (oA T 2 a_u x_u ++ (oA T 6 a_x x_x ++ (oA T 6 a_l x_l ++ (oA T 6 a_f x_f_112 ++ (oA T 12 a_v x_v_112 ++ Z))))))) ((r28 / 10) - (r28 / 10) / 10 * 10) ((v9_112 / 10) - (v9_112 / 10) / 10 * 10) r39 q40) ⟨Nat.le_of_ble_eq_true rfl, Nat.le_of_ble_eq_true rfl⟩ hl.1 rfl (Nat.le_of_ble_eq_true rfl) dL_refers_209 (hf0 (Nat.zero_le _)) rfl (fun H locs hW => ?_)
                  refine lv_if_eq (tgt := 261) hx hb dL_refers_212 (by decide) (fun c41 => ?_) (fun c41 => ?_)
                  · replace h := ite_t c41 h
                    obtain ⟨w12_42, ew12_42⟩ : ∃ y : Int32, y = v12_112 + 1 := ⟨_, rfl⟩
                    replace h := lb_at ew12_42 h
                    refine lv_iinc (v := w12_42) (lv' := [(12, .int w12_42), (13, .int r28), (0, .ref a_c), (1, .ref a_w), (2, .ref a_u), (3, .ref a_x), (4, .ref a_l), (5, .ref a_f), (6, .ref a_v), (7, .int v7_112), (9, .int v9_112), (10, .int v10_112), (11, .int v11_112)]) hx hb dL_refers_261 hl (k := 12) rfl (by rw [ew12_42]; rfl) (by decide) rfl (fun ls hl => ?_)
                    refine lv_goto (tgt := 112) hx hb dL_refers_264 (by decide) ?_
                    exact ih _ _ _ _ _ _ _ H locs ls _ _ _ hW (lv_sub hl [2, 3, 4, 5, 6, 7, 8, 9, 10, 11, 12, 0] rfl) h k1
                  · replace h := ite_f c41 h
                    refine lv_aload hx hb dL_refers_215 (lv_at hl 6 rfl) ?_
                    refine lv_iload hx hb dL_refers_217 (lv_at hl 8 rfl) ?_
                    refine lv_iload hx hb dL_refers_219 (lv_at hl 10 rfl) ?_
                    refine lv_iconst (v := 3) hx hb dL_refers_221 (by decide) ?_
                    refine lv_idiv hx hb dL_refers_222 (by decide) ?_
                    refine lv_bipush (v := 10) hx hb dL_refers_223 (by decide) ?_
                    refine lv_imul hx hb dL_refers_225 ?_
                    refine lv_iload hx hb dL_refers_226 (lv_at hl 10 rfl) ?_
                    refine lv_iconst (v := 3) hx hb dL_refers_228 (by decide) ?_
                    refine lv_irem hx hb dL_refers_229 (by decide) ?_
                    refine lv_iadd hx hb dL_refers_230 ?_
                    obtain ⟨g43, h⟩ := grd_s h
                    refine g_iast (ws9 := oA T 12 a_c x_c ++ (oA T 24 a_w x_w ++ (oA T 2 a_u x_u ++ (oA T 6 a_x x_x ++ (oA T 6 a_l x_l ++ (oA T 6 a_f (upd x_f_112 v7_112.toNatClampNeg (((v10_112 / 3) * 10) + (v10_112 - v10_112 / 3 * 3))) ++ (oA T 12 a_v x_v_112 ++ Z))))))) hx hb hK hW 5 rfl g43 rfl dL_refers_231 (fun H locs hW => ?_)
                    obtain ⟨x_f44, ex_f44⟩ : ∃ y : Nat → Int32, y = upd x_f_112 v7_112.toNatClampNeg (((v10_112 / 3) * 10) + (v10_112 - v10_112 / 3 * 3)) := ⟨_, rfl⟩
                    rw [← ex_f44] at hW
                    replace h := lb_at ex_f44 h
                    refine lv_aload hx hb dL_refers_232 (lv_at hl 7 rfl) ?_
                    refine lv_iconst (v := 2) hx hb dL_refers_234 (by decide) ?_
                    refine lv_iload hx hb dL_refers_235 (lv_at hl 8 rfl) ?_
                    refine lv_imul hx hb dL_refers_237 ?_
                    refine lv_iload hx hb dL_refers_238 (lv_at hl 0 rfl) ?_
                    refine lv_bipush (v := 100) hx hb dL_refers_240 (by decide) ?_
                    refine lv_idiv hx hb dL_refers_242 (by decide) ?_
                    obtain ⟨g45, h⟩ := grd_s h
                    refine g_iast (ws9 := oA T 12 a_c x_c ++ (oA T 24 a_w x_w ++ (oA T 2 a_u x_u ++ (oA T 6 a_x x_x ++ (oA T 6 a_l x_l ++ (oA T 6 a_f x_f44 ++ (oA T 12 a_v (upd x_v_112 (2 * v7_112).toNatClampNeg (r28 / 100)) ++ Z))))))) hx hb hK hW 6 rfl g45 rfl dL_refers_243 (fun H locs hW => ?_)
                    obtain ⟨x_v46, ex_v46⟩ : ∃ y : Nat → Int32, y = upd x_v_112 (2 * v7_112).toNatClampNeg (r28 / 100) := ⟨_, rfl⟩
                    rw [← ex_v46] at hW
                    replace h := lb_at ex_v46 h
                    refine lv_aload hx hb dL_refers_244 (lv_at hl 7 rfl) ?_
                    refine lv_iconst (v := 2) hx hb dL_refers_246 (by decide) ?_
                    refine lv_iload hx hb dL_refers_247 (lv_at hl 8 rfl) ?_
                    refine lv_imul hx hb dL_refers_249 ?_
                    refine lv_iconst (v := 1) hx hb dL_refers_250 (by decide) ?_
                    refine lv_iadd hx hb dL_refers_251 ?_
                    refine lv_iload hx hb dL_refers_252 (lv_at hl 0 rfl) ?_
                    refine lv_bipush (v := 10) hx hb dL_refers_254 (by decide) ?_
                    refine lv_idiv hx hb dL_refers_256 (by decide) ?_
                    refine lv_bipush (v := 10) hx hb dL_refers_257 (by decide) ?_
                    refine lv_irem hx hb dL_refers_259 (by decide) ?_
                    obtain ⟨g47, h⟩ := grd_s h
                    refine g_iast (ws9 := oA T 12 a_c x_c ++ (oA T 24 a_w x_w ++ (oA T 2 a_u x_u ++ (oA T 6 a_x x_x ++ (oA T 6 a_l x_l ++ (oA T 6 a_f x_f44 ++ (oA T 12 a_v (upd x_v46 ((2 * v7_112) + 1).toNatClampNeg ((r28 / 10) - (r28 / 10) / 10 * 10)) ++ Z))))))) hx hb hK hW 6 rfl g47 rfl dL_refers_260 (fun H locs hW => ?_)
                    obtain ⟨x_v48, ex_v48⟩ : ∃ y : Nat → Int32, y = upd x_v46 ((2 * v7_112) + 1).toNatClampNeg ((r28 / 10) - (r28 / 10) / 10 * 10) := ⟨_, rfl⟩
                    rw [← ex_v48] at hW
                    replace h := lb_at ex_v48 h
                    obtain ⟨w12_49, ew12_49⟩ : ∃ y : Int32, y = v12_112 + 1 := ⟨_, rfl⟩
                    replace h := lb_at ew12_49 h
                    refine lv_iinc (v := w12_49) (lv' := [(12, .int w12_49), (13, .int r28), (0, .ref a_c), (1, .ref a_w), (2, .ref a_u), (3, .ref a_x), (4, .ref a_l), (5, .ref a_f), (6, .ref a_v), (7, .int v7_112), (9, .int v9_112), (10, .int v10_112), (11, .int v11_112)]) hx hb dL_refers_261 hl (k := 12) rfl (by rw [ew12_49]; rfl) (by decide) rfl (fun ls hl => ?_)
                    refine lv_goto (tgt := 112) hx hb dL_refers_264 (by decide) ?_
                    exact ih _ _ _ _ _ _ _ H locs ls _ _ _ hW (lv_sub hl [2, 3, 4, 5, 6, 7, 8, 9, 10, 11, 12, 0] rfl) h k1
  have J107 : ∀ (x_f_107 : Nat → Int32) (x_v_107 : Nat → Int32) (v7_107 : Int32) (v9_107 : Int32) (v10_107 : Int32) (s0_107 : Int32) (H : Heap) (locs : List Loc) (ls : Array Slot) (code : Nat) (o10j : Int32) (y_fj : Nat → Int32) (y_vj : Nat → Int32), Wd D A s.heap (oA T 12 a_c x_c ++ (oA T 24 a_w x_w ++ (oA T 2 a_u x_u ++ (oA T 6 a_x x_x ++ (oA T 6 a_l x_l ++ (oA T 6 a_f x_f_107 ++ (oA T 12 a_v x_v_107 ++ Z))))))) H locs → lv_has ls 14 [(0, .ref a_c), (1, .ref a_w), (2, .ref a_u), (3, .ref a_x), (4, .ref a_l), (5, .ref a_f), (6, .ref a_v), (7, .int v7_107), (9, .int v9_107), (10, .int v10_107)] → f_L_refers_J107 x_c x_w x_u x_x x_l x_f_107 x_v_107 v7_107 v9_107 v10_107 s0_107 = some (code, o10j, y_fj, y_vj) → (code = 0 → ∀ (H : Heap) (locs : List Loc) (ls : Array Slot), Wd D A s.heap (oA T 12 a_c x_c ++ (oA T 24 a_w x_w ++ (oA T 2 a_u x_u ++ (oA T 6 a_x x_x ++ (oA T 6 a_l x_l ++ (oA T 6 a_f y_fj ++ (oA T 12 a_v y_vj ++ Z))))))) H locs → lv_has ls 14 [(0, .ref a_c), (1, .ref a_w), (2, .ref a_u), (3, .ref a_x), (4, .ref a_l), (5, .ref a_f), (6, .ref a_v), (7, .int v7_107), (9, .int v9_107), (10, .int o10j)] → W p l e (rmL 2 0) s m args below meth c H locs 0 0 Q (F0 m 73 ls [])) → (code = 1 → ∀ (H : Heap) (locs : List Loc) (ls : Array Slot), Wd D A s.heap (oA T 12 a_c x_c ++ (oA T 24 a_w x_w ++ (oA T 2 a_u x_u ++ (oA T 6 a_x x_x ++ (oA T 6 a_l x_l ++ (oA T 6 a_f y_fj ++ (oA T 12 a_v y_vj ++ Z))))))) H locs → lv_has ls 14 [] → W p l e (rmL 2 0) s m args below meth c H locs 0 0 Q (F0 m 273 ls [])) → W p l e (rmL 2 0) s m args below meth c H locs 0 0 Q (F0 m 107 ls [.int s0_107]) := by
    intro x_f_107 x_v_107 v7_107 v9_107 v10_107 s0_107 H locs ls code o10j y_fj y_vj hW hl h k0 k1
    rw [f_L_refers_J107] at h
    refine lv_istore (lv' := [(11, .int s0_107), (0, .ref a_c), (1, .ref a_w), (2, .ref a_u), (3, .ref a_x), (4, .ref a_l), (5, .ref a_f), (6, .ref a_v), (7, .int v7_107), (9, .int v9_107), (10, .int v10_107)]) hx hb dL_refers_107 hl (by decide) rfl (fun ls hl => ?_)
    refine lv_iconst (v := 0) hx hb dL_refers_109 (by decide) ?_
    refine lv_istore (lv' := [(12, .int 0), (11, .int s0_107), (0, .ref a_c), (1, .ref a_w), (2, .ref a_u), (3, .ref a_x), (4, .ref a_l), (5, .ref a_f), (6, .ref a_v), (7, .int v7_107), (9, .int v9_107), (10, .int v10_107)]) hx hb dL_refers_110 hl (by decide) rfl (fun ls hl => ?_)
    obtain ⟨o12_u50, y_f_u50, y_v_u50, q51, h⟩ := bnd3_s h
    refine L112 400 _ _ _ _ _ _ _ H locs ls o12_u50 y_f_u50 y_v_u50 hW (lv_sub hl [2, 3, 4, 5, 6, 7, 8, 9, 10, 11, 1, 0] rfl) q51 (fun H locs ls hW hl => ?_)
    obtain ⟨w10_52, ew10_52⟩ : ∃ y : Int32, y = v10_107 + (-1) := ⟨_, rfl⟩
    replace h := lb_at ew10_52 h
    refine lv_iinc (v := w10_52) (lv' := [(10, .int w10_52), (0, .ref a_c), (1, .ref a_w), (2, .ref a_u), (3, .ref a_x), (4, .ref a_l), (5, .ref a_f), (6, .ref a_v), (7, .int v7_107), (9, .int v9_107)]) hx hb dL_refers_267 hl (k := 9) rfl (by rw [ew10_52]; rfl) (by decide) rfl (fun ls hl => ?_)
    refine lv_goto (tgt := 73) hx hb dL_refers_270 (by decide) ?_
    obtain ⟨rfl, rfl, rfl, rfl⟩ := ret4 h
    exact k0 rfl H locs ls hW (lv_sub hl [1, 2, 3, 4, 5, 6, 7, 8, 9, 0] rfl)
  have L73 : ∀ (n : Nat) (x_f_73 : Nat → Int32) (x_v_73 : Nat → Int32) (v7_73 : Int32) (v9_73 : Int32) (v10_73 : Int32) (H : Heap) (locs : List Loc) (ls : Array Slot) (o10_73r : Int32) (y_f_73r : Nat → Int32) (y_v_73r : Nat → Int32), Wd D A s.heap (oA T 12 a_c x_c ++ (oA T 24 a_w x_w ++ (oA T 2 a_u x_u ++ (oA T 6 a_x x_x ++ (oA T 6 a_l x_l ++ (oA T 6 a_f x_f_73 ++ (oA T 12 a_v x_v_73 ++ Z))))))) H locs → lv_has ls 14 [(0, .ref a_c), (1, .ref a_w), (2, .ref a_u), (3, .ref a_x), (4, .ref a_l), (5, .ref a_f), (6, .ref a_v), (7, .int v7_73), (9, .int v9_73), (10, .int v10_73)] → f_L_refers_L73 n x_c x_w x_u x_x x_l x_f_73 x_v_73 v7_73 v9_73 v10_73 = some (o10_73r, y_f_73r, y_v_73r) → (∀ (H : Heap) (locs : List Loc) (ls : Array Slot), Wd D A s.heap (oA T 12 a_c x_c ++ (oA T 24 a_w x_w ++ (oA T 2 a_u x_u ++ (oA T 6 a_x x_x ++ (oA T 6 a_l x_l ++ (oA T 6 a_f y_f_73r ++ (oA T 12 a_v y_v_73r ++ Z))))))) H locs → lv_has ls 14 [] → W p l e (rmL 2 0) s m args below meth c H locs 0 0 Q (F0 m 273 ls [])) → W p l e (rmL 2 0) s m args below meth c H locs 0 0 Q (F0 m 73 ls []) := by
    intro n
    induction n with
    | zero =>
      intro x_f_73 x_v_73 v7_73 v9_73 v10_73 H locs ls o10_73r y_f_73r y_v_73r hW hl h k1
      rw [f_L_refers_L73] at h
      cases h
    | succ n ih =>
      intro x_f_73 x_v_73 v7_73 v9_73 v10_73 H locs ls o10_73r y_f_73r y_v_73r hW hl h k1
      rw [f_L_refers_L73] at h
      refine lv_iload hx hb dL_refers_73 (lv_at hl 9 rfl) ?_
      refine lv_if_lt (tgt := 273) hx hb dL_refers_75 (by decide) (fun c15 => ?_) (fun c15 => ?_)
      · replace h := ite_t c15 h
        obtain ⟨rfl, rfl, rfl⟩ := ret3 h
        exact k1 H locs ls hW (lv_sub hl [] rfl)
      · replace h := ite_f c15 h
        refine lv_aload hx hb dL_refers_78 (lv_at hl 5 rfl) ?_
        refine lv_iload hx hb dL_refers_80 (lv_at hl 7 rfl) ?_
        obtain ⟨g16, h⟩ := grd_s h
        refine g_iald hx hb hK hW 5 rfl g16 dL_refers_82 ?_
        refine lv_if_ge (tgt := 273) hx hb dL_refers_83 (by decide) (fun c17 => ?_) (fun c17 => ?_)
        · replace h := ite_t c17 h
          obtain ⟨rfl, rfl, rfl⟩ := ret3 h
          exact k1 H locs ls hW (lv_sub hl [] rfl)
        · replace h := ite_f c17 h
          refine lv_iload hx hb dL_refers_86 (lv_at hl 9 rfl) ?_
          refine lv_iconst (v := 3) hx hb dL_refers_88 (by decide) ?_
          refine lv_irem hx hb dL_refers_89 (by decide) ?_
          refine lv_aload_n hx hb dL_refers_90 rfl (lv_at hl 0 rfl) ?_
          refine lv_bipush (v := 8) hx hb dL_refers_91 (by decide) ?_
          refine lv_iload hx hb dL_refers_93 (lv_at hl 9 rfl) ?_
          refine lv_iconst (v := 3) hx hb dL_refers_95 (by decide) ?_
          refine lv_idiv hx hb dL_refers_96 (by decide) ?_
          refine lv_iadd hx hb dL_refers_97 ?_
          obtain ⟨g18, h⟩ := grd_s h
          refine g_iald hx hb hK hW 0 rfl g18 dL_refers_98 ?_
          refine lv_icmp_ge (tgt := 106) hx hb dL_refers_99 (by decide) (fun c19 => ?_) (fun c19 => ?_)
          · replace h := ite_t c19 h
            refine lv_iconst (v := 0) hx hb dL_refers_106 (by decide) ?_
            obtain ⟨code54, o10_t53, y_f_t53, y_v_t53, q55, h⟩ := bnd4_s h
            refine J107 _ _ _ _ _ _ H locs ls code54 o10_t53 y_f_t53 y_v_t53 hW (lv_sub hl [0, 1, 2, 3, 4, 5, 6, 7, 8, 9] rfl) q55 (fun hc H locs ls hW hl => ?_) (fun hc H locs ls hW hl => ?_)
            · replace h := ite_t hc h
              exact ih _ _ _ _ _ H locs ls _ _ _ hW (lv_sub hl [0, 1, 2, 3, 4, 5, 6, 7, 8, 9] rfl) h k1
            · replace h := ite_f (by rw [hc]; decide) h
              obtain ⟨rfl, rfl, rfl⟩ := ret3 h
              exact k1 H locs ls hW hl
          · replace h := ite_f c19 h
            refine lv_iconst (v := 1) hx hb dL_refers_102 (by decide) ?_
            refine lv_goto (tgt := 107) hx hb dL_refers_103 (by decide) ?_
            obtain ⟨code57, o10_t56, y_f_t56, y_v_t56, q58, h⟩ := bnd4_s h
            refine J107 _ _ _ _ _ _ H locs ls code57 o10_t56 y_f_t56 y_v_t56 hW (lv_sub hl [0, 1, 2, 3, 4, 5, 6, 7, 8, 9] rfl) q58 (fun hc H locs ls hW hl => ?_) (fun hc H locs ls hW hl => ?_)
            · replace h := ite_t hc h
              exact ih _ _ _ _ _ H locs ls _ _ _ hW (lv_sub hl [0, 1, 2, 3, 4, 5, 6, 7, 8, 9] rfl) h k1
            · replace h := ite_f (by rw [hc]; decide) h
              obtain ⟨rfl, rfl, rfl⟩ := ret3 h
              exact k1 H locs ls hW hl
  have J62 : ∀ (x_f_62 : Nat → Int32) (x_v_62 : Nat → Int32) (v7_62 : Int32) (s2_62 : Int32) (s3_62 : Int32) (H : Heap) (locs : List Loc) (ls : Array Slot), Wd D A s.heap (oA T 12 a_c x_c ++ (oA T 24 a_w x_w ++ (oA T 2 a_u x_u ++ (oA T 6 a_x x_x ++ (oA T 6 a_l x_l ++ (oA T 6 a_f x_f_62 ++ (oA T 12 a_v x_v_62 ++ Z))))))) H locs → lv_has ls 14 [(0, .ref a_c), (1, .ref a_w), (2, .ref a_u), (3, .ref a_x), (4, .ref a_l), (5, .ref a_f), (6, .ref a_v), (7, .int v7_62)] → f_L_refers_J62 x_c x_w x_u x_x x_l x_f_62 x_v_62 v7_62 s2_62 s3_62 = some (x_f9, x_v9) → W p l e (rmL 2 0) s m args below meth c H locs 0 0 Q (F0 m 62 ls [.int s3_62, .int s2_62, .ref a_u, .ref a_w]) := by
    intro x_f_62 x_v_62 v7_62 s2_62 s3_62 H locs ls hW hl h
    rw [f_L_refers_J62] at h
    replace hW := hW.perm pf2
    replace hW := hW.perm pf2
    obtain ⟨r12, q13, h⟩ := bnd1_s h
    refine cs_L_15 hx hb hml hown hts hK hN hE hC hA hW (c_L_reading l D T A a_w a_u (oA T 12 a_c x_c ++ (oA T 6 a_x x_x ++ (oA T 6 a_l x_l ++ (oA T 6 a_f x_f_62 ++ (oA T 12 a_v x_v_62 ++ Z))))) x_w x_u s2_62 s3_62 r12 q13) ⟨Nat.le_of_ble_eq_true rfl, Nat.le_of_ble_eq_true rfl⟩ hl.1 rfl (Nat.le_of_ble_eq_true rfl) dL_refers_62 (hf0 (Nat.zero_le _)) rfl (fun H locs hW => ?_)
    replace hW := hW.perm pf6
    replace hW := hW.perm pf6
    replace hW := hW.perm pf6
    replace hW := hW.perm pf6
    replace hW := hW.perm pf5
    replace hW := hW.perm pf5
    replace hW := hW.perm pf6
    refine lv_istore (lv' := [(9, .int r12), (0, .ref a_c), (1, .ref a_w), (2, .ref a_u), (3, .ref a_x), (4, .ref a_l), (5, .ref a_f), (6, .ref a_v), (7, .int v7_62)]) hx hb dL_refers_65 hl (by decide) rfl (fun ls hl => ?_)
    refine lv_iload hx hb dL_refers_67 (lv_at hl 8 rfl) ?_
    refine lv_iconst (v := 1) hx hb dL_refers_69 (by decide) ?_
    refine lv_isub hx hb dL_refers_70 ?_
    refine lv_topi (fun w10_14 ew10_14 => ?_)
    replace h := lb_at ew10_14 h
    refine lv_istore (lv' := [(10, .int w10_14), (9, .int r12), (0, .ref a_c), (1, .ref a_w), (2, .ref a_u), (3, .ref a_x), (4, .ref a_l), (5, .ref a_f), (6, .ref a_v), (7, .int v7_62)]) hx hb dL_refers_71 hl (by decide) rfl (fun ls hl => ?_)
    obtain ⟨o10_u59, y_f_u59, y_v_u59, q60, h⟩ := bnd3_s h
    refine L73 400 _ _ _ _ _ H locs ls o10_u59 y_f_u59 y_v_u59 hW (lv_sub hl [2, 3, 4, 5, 6, 7, 8, 9, 1, 0] rfl) q60 (fun H locs ls hW hl => ?_)
    obtain ⟨rfl, rfl⟩ := ret2 h
    rw [hQ]
    exact g_retv hx hb hr hlk hW dL_refers_273
  refine lv_aload hx hb dL_refers_0 (lv_at hl 5 rfl) ?_
  refine lv_iload hx hb dL_refers_2 (lv_at hl 7 rfl) ?_
  refine lv_iconst (v := (-1)) hx hb dL_refers_4 (by decide) ?_
  obtain ⟨g1, h⟩ := grd_s h
  refine g_iast (ws9 := oA T 12 a_c x_c ++ (oA T 24 a_w x_w ++ (oA T 2 a_u x_u ++ (oA T 6 a_x x_x ++ (oA T 6 a_l x_l ++ (oA T 6 a_f (upd x_f p8.toNatClampNeg (-1)) ++ (oA T 12 a_v x_v ++ Z))))))) hx hb hK hW 5 rfl g1 rfl dL_refers_5 (fun H locs hW => ?_)
  obtain ⟨x_f2, ex_f2⟩ : ∃ y : Nat → Int32, y = upd x_f p8.toNatClampNeg (-1) := ⟨_, rfl⟩
  rw [← ex_f2] at hW
  replace h := lb_at ex_f2 h
  refine lv_aload hx hb dL_refers_6 (lv_at hl 6 rfl) ?_
  refine lv_iconst (v := 2) hx hb dL_refers_8 (by decide) ?_
  refine lv_iload hx hb dL_refers_9 (lv_at hl 7 rfl) ?_
  refine lv_imul hx hb dL_refers_11 ?_
  refine lv_iconst (v := 0) hx hb dL_refers_12 (by decide) ?_
  obtain ⟨g3, h⟩ := grd_s h
  refine g_iast (ws9 := oA T 12 a_c x_c ++ (oA T 24 a_w x_w ++ (oA T 2 a_u x_u ++ (oA T 6 a_x x_x ++ (oA T 6 a_l x_l ++ (oA T 6 a_f x_f2 ++ (oA T 12 a_v (upd x_v (2 * p8).toNatClampNeg 0) ++ Z))))))) hx hb hK hW 6 rfl g3 rfl dL_refers_13 (fun H locs hW => ?_)
  obtain ⟨x_v4, ex_v4⟩ : ∃ y : Nat → Int32, y = upd x_v (2 * p8).toNatClampNeg 0 := ⟨_, rfl⟩
  rw [← ex_v4] at hW
  replace h := lb_at ex_v4 h
  refine lv_aload hx hb dL_refers_14 (lv_at hl 6 rfl) ?_
  refine lv_iconst (v := 2) hx hb dL_refers_16 (by decide) ?_
  refine lv_iload hx hb dL_refers_17 (lv_at hl 7 rfl) ?_
  refine lv_imul hx hb dL_refers_19 ?_
  refine lv_iconst (v := 1) hx hb dL_refers_20 (by decide) ?_
  refine lv_iadd hx hb dL_refers_21 ?_
  refine lv_iconst (v := 0) hx hb dL_refers_22 (by decide) ?_
  obtain ⟨g5, h⟩ := grd_s h
  refine g_iast (ws9 := oA T 12 a_c x_c ++ (oA T 24 a_w x_w ++ (oA T 2 a_u x_u ++ (oA T 6 a_x x_x ++ (oA T 6 a_l x_l ++ (oA T 6 a_f x_f2 ++ (oA T 12 a_v (upd x_v4 ((2 * p8) + 1).toNatClampNeg 0) ++ Z))))))) hx hb hK hW 6 rfl g5 rfl dL_refers_23 (fun H locs hW => ?_)
  obtain ⟨x_v6, ex_v6⟩ : ∃ y : Nat → Int32, y = upd x_v4 ((2 * p8) + 1).toNatClampNeg 0 := ⟨_, rfl⟩
  rw [← ex_v6] at hW
  replace h := lb_at ex_v6 h
  refine lv_aload_n hx hb dL_refers_24 rfl (lv_at hl 1 rfl) ?_
  refine lv_aload_n hx hb dL_refers_25 rfl (lv_at hl 2 rfl) ?_
  refine lv_aload_n hx hb dL_refers_26 rfl (lv_at hl 3 rfl) ?_
  refine lv_aload hx hb dL_refers_27 (lv_at hl 4 rfl) ?_
  refine lv_iload hx hb dL_refers_29 (lv_at hl 7 rfl) ?_
  refine lv_iconst (v := 1) hx hb dL_refers_31 (by decide) ?_
  replace hW := hW.perm pf4
  replace hW := hW.perm pf4
  replace hW := hW.perm pf4
  replace hW := hW.perm pf4
  obtain ⟨r7, q8, h⟩ := bnd1_s h
  refine cs_L_19 hx hb hml hown hts hK hN hE hC hA hW (c_L_leftOf l D T A a_w a_u a_x a_l (oA T 12 a_c x_c ++ (oA T 6 a_f x_f2 ++ (oA T 12 a_v x_v6 ++ Z))) x_w x_u x_x x_l p8 1 r7 q8) ⟨Nat.le_of_ble_eq_true rfl, Nat.le_of_ble_eq_true rfl⟩ hl.1 rfl (Nat.le_of_ble_eq_true rfl) dL_refers_32 (hf0 (Nat.zero_le _)) rfl (fun H locs hW => ?_)
  replace hW := hW.perm pf6
  replace hW := hW.perm pf6
  replace hW := hW.perm pf5
  replace hW := hW.perm pf5
  replace hW := hW.perm pf5
  replace hW := hW.perm pf5
  replace hW := hW.perm pf6
  refine lv_istore (lv' := [(8, .int r7), (0, .ref a_c), (1, .ref a_w), (2, .ref a_u), (3, .ref a_x), (4, .ref a_l), (5, .ref a_f), (6, .ref a_v), (7, .int p8)]) hx hb dL_refers_35 hl (by decide) rfl (fun ls hl => ?_)
  refine lv_iload hx hb dL_refers_37 (lv_at hl 0 rfl) ?_
  refine lv_if_ne (tgt := 43) hx hb dL_refers_39 (by decide) (fun c9 => ?_) (fun c9 => ?_)
  · replace h := ite_f c9 h
    refine lv_aload_n hx hb dL_refers_43 rfl (lv_at hl 2 rfl) ?_
    refine lv_aload_n hx hb dL_refers_44 rfl (lv_at hl 3 rfl) ?_
    refine lv_aload_n hx hb dL_refers_45 rfl (lv_at hl 4 rfl) ?_
    refine lv_iload hx hb dL_refers_46 (lv_at hl 8 rfl) ?_
    obtain ⟨g10, h⟩ := grd_s h
    refine g_iald hx hb hK hW 3 rfl g10 dL_refers_48 ?_
    refine lv_iload hx hb dL_refers_49 (lv_at hl 0 rfl) ?_
    refine lv_iconst (v := 2) hx hb dL_refers_51 (by decide) ?_
    refine lv_irem hx hb dL_refers_52 (by decide) ?_
    refine lv_iconst (v := 1) hx hb dL_refers_53 (by decide) ?_
    refine lv_icmp_ne (tgt := 61) hx hb dL_refers_54 (by decide) (fun c11 => ?_) (fun c11 => ?_)
    · replace h := ite_f c11 h
      refine lv_iconst (v := 1) hx hb dL_refers_61 (by decide) ?_
      exact J62 _ _ _ _ _ H locs ls hW (lv_sub hl [1, 2, 3, 4, 5, 6, 7, 8] rfl) h
    · replace h := ite_t c11 h
      refine lv_iconst (v := 0) hx hb dL_refers_57 (by decide) ?_
      refine lv_goto (tgt := 62) hx hb dL_refers_58 (by decide) ?_
      exact J62 _ _ _ _ _ H locs ls hW (lv_sub hl [1, 2, 3, 4, 5, 6, 7, 8] rfl) h
  · replace h := ite_t c9 h
    obtain ⟨rfl, rfl⟩ := ret2 h
    rw [hQ]
    exact g_retv hx hb hr hlk hW dL_refers_42
set_option maxHeartbeats 16000000 in
set_option maxRecDepth 100000 in
theorem c_L_looks (l : Launch) (D : va_G) (T : Nat → ClassId) (A : Nat → Prop) (a_c : Nat) (a_w : Nat) (a_u : Nat) (a_x : Nat) (a_l : Nat) (a_f : Nat) (a_v : Nat) (a_t : Nat) (Z : va_W) (x_c : Nat → Int32) (x_w : Nat → Int32) (x_u : Nat → Int32) (x_x : Nat → Int32) (x_l : Nat → Int32) (x_f : Nat → Int32) (x_v : Nat → Int32) (x_t : Nat → Int32) (x_l9 : Nat → Int32) (x_f9 : Nat → Int32) (x_v9 : Nat → Int32) (h : f_L_looks x_c x_w x_u x_x x_l x_f x_v x_t = some (x_l9, x_f9, x_v9)) : Met l yL_looks (Cond.code yL_looks cL_looks 9 none :: wsL_law) (rmL 4 0) (Pl D T A (oA T 12 a_c x_c ++ (oA T 24 a_w x_w ++ (oA T 2 a_u x_u ++ (oA T 6 a_x x_x ++ (oA T 6 a_l x_l ++ (oA T 6 a_f x_f ++ (oA T 12 a_v x_v ++ (oA T 20 a_t x_t ++ Z)))))))) [.ref a_c, .ref a_w, .ref a_u, .ref a_x, .ref a_l, .ref a_f, .ref a_v, .ref a_t]) (Qgv D A (oA T 12 a_c x_c ++ (oA T 24 a_w x_w ++ (oA T 2 a_u x_u ++ (oA T 6 a_x x_x ++ (oA T 6 a_l x_l9 ++ (oA T 6 a_f x_f9 ++ (oA T 12 a_v x_v9 ++ (oA T 20 a_t x_t ++ Z))))))))) 0 0 A := by
  refine Met.ofW (cc := cL_looks) (maxL := 9) (ret := none) (by decide +kernel) rfl ?_
  intro p e s m args below meth c s₁ B hml hv
  obtain ⟨ha, hP, hK, hD, hN, hE, hC, hA⟩ := hv
  have hx := B.exec
  have hb := B.bytes
  have hr := B.returns
  have hlk := B.notSynchronized
  have hts : ∀ w ∈ wsL_law, w.before args s = true := fun w hw => atoms_spec B.pre w (List.mem_cons_of_mem _ hw)
  have hown : s.vm.findClass RL = some m.cls := findClass_of_methodNamed B.named
  have hW : Wd D A s.heap (oA T 12 a_c x_c ++ (oA T 24 a_w x_w ++ (oA T 2 a_u x_u ++ (oA T 6 a_x x_x ++ (oA T 6 a_l x_l ++ (oA T 6 a_f x_f ++ (oA T 12 a_v x_v ++ (oA T 20 a_t x_t ++ Z)))))))) s.heap [] := ⟨hP, hD, va_S.rf⟩
  have hl := lv_entry [.ref a_c, .ref a_w, .ref a_u, .ref a_x, .ref a_l, .ref a_f, .ref a_v, .ref a_t] (n := 9) (Nat.le_of_ble_eq_true rfl)
  refine W.eq (en_eq ha) ?_
  generalize (lg_sl [.ref a_c, .ref a_w, .ref a_u, .ref a_x, .ref a_l, .ref a_f, .ref a_v, .ref a_t] ++ List.replicate (9 - (lg_sl [.ref a_c, .ref a_w, .ref a_u, .ref a_x, .ref a_l, .ref a_f, .ref a_v, .ref a_t]).length) Slot.unset).toArray = ls at hl ⊢
  have hl : lv_has ls 9 [(0, .ref a_c), (1, .ref a_w), (2, .ref a_u), (3, .ref a_x), (4, .ref a_l), (5, .ref a_f), (6, .ref a_v), (7, .ref a_t)] := hl
  clear hP hD B ha
  obtain ⟨Q, hQ⟩ : ∃ Q, Q = MQ below (Qgv D A (oA T 12 a_c x_c ++ (oA T 24 a_w x_w ++ (oA T 2 a_u x_u ++ (oA T 6 a_x x_x ++ (oA T 6 a_l x_l9 ++ (oA T 6 a_f x_f9 ++ (oA T 12 a_v x_v9 ++ (oA T 20 a_t x_t ++ Z))))))))) args s 0 0 A := ⟨_, rfl⟩
  rw [← hQ]
  change W p l e (rmL 4 0) s m args below meth c s.heap [] 0 0 Q (F0 m 0 ls [])
  rw [f_L_looks] at h
  suffices hm : ∀ (H : Heap) (locs : List Loc), Wd D A s.heap (oA T 12 a_c x_c ++ (oA T 24 a_w x_w ++ (oA T 2 a_u x_u ++ (oA T 6 a_x x_x ++ (oA T 6 a_l x_l ++ (oA T 6 a_f x_f ++ (oA T 12 a_v x_v ++ (oA T 20 a_t x_t ++ Z)))))))) H locs → W p l e (rmL 4 0) s m args below meth c H locs 0 0 Q (F0 m 0 ls []) from hm _ _ hW
  clear hW
  intro H locs hW
  have L27 : ∀ (n : Nat) (x_l_27 : Nat → Int32) (x_f_27 : Nat → Int32) (x_v_27 : Nat → Int32) (v8_27 : Int32) (H : Heap) (locs : List Loc) (ls : Array Slot) (o8_27r : Int32) (y_f_27r : Nat → Int32) (y_v_27r : Nat → Int32), Wd D A s.heap (oA T 12 a_c x_c ++ (oA T 24 a_w x_w ++ (oA T 2 a_u x_u ++ (oA T 6 a_x x_x ++ (oA T 6 a_l x_l_27 ++ (oA T 6 a_f x_f_27 ++ (oA T 12 a_v x_v_27 ++ (oA T 20 a_t x_t ++ Z)))))))) H locs → lv_has ls 9 [(0, .ref a_c), (1, .ref a_w), (2, .ref a_u), (3, .ref a_x), (4, .ref a_l), (5, .ref a_f), (6, .ref a_v), (8, .int v8_27)] → f_L_looks_L27 n x_c x_w x_u x_x x_l_27 x_f_27 x_v_27 x_t v8_27 = some (o8_27r, y_f_27r, y_v_27r) → (∀ (H : Heap) (locs : List Loc) (ls : Array Slot), Wd D A s.heap (oA T 12 a_c x_c ++ (oA T 24 a_w x_w ++ (oA T 2 a_u x_u ++ (oA T 6 a_x x_x ++ (oA T 6 a_l x_l_27 ++ (oA T 6 a_f y_f_27r ++ (oA T 12 a_v y_v_27r ++ (oA T 20 a_t x_t ++ Z)))))))) H locs → lv_has ls 9 [] → W p l e (rmL 4 0) s m args below meth c H locs 0 0 Q (F0 m 71 ls [])) → W p l e (rmL 4 0) s m args below meth c H locs 0 0 Q (F0 m 27 ls []) := by
    intro n
    induction n with
    | zero =>
      intro x_l_27 x_f_27 x_v_27 v8_27 H locs ls o8_27r y_f_27r y_v_27r hW hl h k1
      rw [f_L_looks_L27] at h
      cases h
    | succ n ih =>
      intro x_l_27 x_f_27 x_v_27 v8_27 H locs ls o8_27r y_f_27r y_v_27r hW hl h k1
      rw [f_L_looks_L27] at h
      refine lv_iload hx hb dL_looks_27 (lv_at hl 7 rfl) ?_
      refine lv_bipush (v := 6) hx hb dL_looks_29 (by decide) ?_
      refine lv_icmp_ge (tgt := 71) hx hb dL_looks_31 (by decide) (fun c5 => ?_) (fun c5 => ?_)
      · replace h := ite_t c5 h
        obtain ⟨rfl, rfl, rfl⟩ := ret3 h
        exact k1 H locs ls hW (lv_sub hl [] rfl)
      · replace h := ite_f c5 h
        refine lv_iload hx hb dL_looks_34 (lv_at hl 7 rfl) ?_
        refine lv_iconst (v := 3) hx hb dL_looks_36 (by decide) ?_
        refine lv_irem hx hb dL_looks_37 (by decide) ?_
        refine lv_aload_n hx hb dL_looks_38 rfl (lv_at hl 0 rfl) ?_
        refine lv_bipush (v := 8) hx hb dL_looks_39 (by decide) ?_
        refine lv_iload hx hb dL_looks_41 (lv_at hl 7 rfl) ?_
        refine lv_iconst (v := 3) hx hb dL_looks_43 (by decide) ?_
        refine lv_idiv hx hb dL_looks_44 (by decide) ?_
        refine lv_iadd hx hb dL_looks_45 ?_
        obtain ⟨g6, h⟩ := grd_s h
        refine g_iald hx hb hK hW 0 rfl g6 dL_looks_46 ?_
        refine lv_icmp_ge (tgt := 65) hx hb dL_looks_47 (by decide) (fun c7 => ?_) (fun c7 => ?_)
        · replace h := ite_t c7 h
          obtain ⟨w8_8, ew8_8⟩ : ∃ y : Int32, y = v8_27 + 1 := ⟨_, rfl⟩
          replace h := lb_at ew8_8 h
          refine lv_iinc (v := w8_8) (lv' := [(8, .int w8_8), (0, .ref a_c), (1, .ref a_w), (2, .ref a_u), (3, .ref a_x), (4, .ref a_l), (5, .ref a_f), (6, .ref a_v)]) hx hb dL_looks_65 hl (k := 7) rfl (by rw [ew8_8]; rfl) (by decide) rfl (fun ls hl => ?_)
          refine lv_goto (tgt := 27) hx hb dL_looks_68 (by decide) ?_
          exact ih _ _ _ _ H locs ls _ _ _ hW (lv_sub hl [1, 2, 3, 4, 5, 6, 7, 0] rfl) h k1
        · replace h := ite_f c7 h
          refine lv_aload_n hx hb dL_looks_50 rfl (lv_at hl 0 rfl) ?_
          refine lv_aload_n hx hb dL_looks_51 rfl (lv_at hl 1 rfl) ?_
          refine lv_aload_n hx hb dL_looks_52 rfl (lv_at hl 2 rfl) ?_
          refine lv_aload_n hx hb dL_looks_53 rfl (lv_at hl 3 rfl) ?_
          refine lv_aload hx hb dL_looks_54 (lv_at hl 4 rfl) ?_
          refine lv_aload hx hb dL_looks_56 (lv_at hl 5 rfl) ?_
          refine lv_aload hx hb dL_looks_58 (lv_at hl 6 rfl) ?_
          refine lv_iload hx hb dL_looks_60 (lv_at hl 7 rfl) ?_
          obtain ⟨x_f9, x_v10, q11, h⟩ := bnd2_s h
          refine cs_L_35 hx hb hml hown hts hK hN hE hC hA hW (c_L_refers l D T A a_c a_w a_u a_x a_l a_f a_v (oA T 20 a_t x_t ++ Z) x_c x_w x_u x_x x_l_27 x_f_27 x_v_27 v8_27 x_f9 x_v10 q11) ⟨Nat.le_of_ble_eq_true rfl, Nat.le_of_ble_eq_true rfl⟩ hl.1 rfl (Nat.le_of_ble_eq_true rfl) dL_looks_62 (hf0 (Nat.zero_le _)) rfl (fun H locs hW => ?_)
          obtain ⟨w8_12, ew8_12⟩ : ∃ y : Int32, y = v8_27 + 1 := ⟨_, rfl⟩
          replace h := lb_at ew8_12 h
          refine lv_iinc (v := w8_12) (lv' := [(8, .int w8_12), (0, .ref a_c), (1, .ref a_w), (2, .ref a_u), (3, .ref a_x), (4, .ref a_l), (5, .ref a_f), (6, .ref a_v)]) hx hb dL_looks_65 hl (k := 7) rfl (by rw [ew8_12]; rfl) (by decide) rfl (fun ls hl => ?_)
          refine lv_goto (tgt := 27) hx hb dL_looks_68 (by decide) ?_
          exact ih _ _ _ _ H locs ls _ _ _ hW (lv_sub hl [1, 2, 3, 4, 5, 6, 7, 0] rfl) h k1
  refine lv_aload_n hx hb dL_looks_0 rfl (lv_at hl 0 rfl) ?_
  refine lv_aload_n hx hb dL_looks_1 rfl (lv_at hl 1 rfl) ?_
  refine lv_aload_n hx hb dL_looks_2 rfl (lv_at hl 2 rfl) ?_
  refine lv_aload_n hx hb dL_looks_3 rfl (lv_at hl 3 rfl) ?_
  refine lv_aload hx hb dL_looks_4 (lv_at hl 4 rfl) ?_
  refine lv_aload hx hb dL_looks_6 (lv_at hl 7 rfl) ?_
  refine lv_iconst (v := 0) hx hb dL_looks_8 (by decide) ?_
  replace hW := hW.perm pf7
  replace hW := hW.perm pf5
  replace hW := hW.perm pf5
  replace hW := hW.perm pf5
  replace hW := hW.perm pf5
  replace hW := hW.perm pf5
  obtain ⟨x_l1, q2, h⟩ := bnd1_s h
  refine cs_L_31 hx hb hml hown hts hK hN hE hC hA hW (c_L_strikes l D T A a_c a_w a_u a_x a_l a_t (oA T 6 a_f x_f ++ (oA T 12 a_v x_v ++ Z)) x_c x_w x_u x_x x_l x_t 0 x_l1 q2) ⟨Nat.le_of_ble_eq_true rfl, Nat.le_of_ble_eq_true rfl⟩ hl.1 rfl (Nat.le_of_ble_eq_true rfl) dL_looks_9 (hf0 (Nat.zero_le _)) rfl (fun H locs hW => ?_)
  replace hW := hW.perm pf5
  replace hW := hW.perm pf7
  replace hW := hW.perm pf7
  replace hW := hW.perm pf7
  replace hW := hW.perm pf7
  replace hW := hW.perm pf7
  replace hW := hW.perm pf7
  replace hW := hW.perm pf7
  refine lv_aload_n hx hb dL_looks_12 rfl (lv_at hl 0 rfl) ?_
  refine lv_aload_n hx hb dL_looks_13 rfl (lv_at hl 1 rfl) ?_
  refine lv_aload_n hx hb dL_looks_14 rfl (lv_at hl 2 rfl) ?_
  refine lv_aload_n hx hb dL_looks_15 rfl (lv_at hl 3 rfl) ?_
  refine lv_aload hx hb dL_looks_16 (lv_at hl 4 rfl) ?_
  refine lv_aload hx hb dL_looks_18 (lv_at hl 7 rfl) ?_
  refine lv_iconst (v := 1) hx hb dL_looks_20 (by decide) ?_
  replace hW := hW.perm pf7
  replace hW := hW.perm pf5
  replace hW := hW.perm pf5
  replace hW := hW.perm pf5
  replace hW := hW.perm pf5
  replace hW := hW.perm pf5
  obtain ⟨x_l3, q4, h⟩ := bnd1_s h
  refine cs_L_31 hx hb hml hown hts hK hN hE hC hA hW (c_L_strikes l D T A a_c a_w a_u a_x a_l a_t (oA T 6 a_f x_f ++ (oA T 12 a_v x_v ++ Z)) x_c x_w x_u x_x x_l1 x_t 1 x_l3 q4) ⟨Nat.le_of_ble_eq_true rfl, Nat.le_of_ble_eq_true rfl⟩ hl.1 rfl (Nat.le_of_ble_eq_true rfl) dL_looks_21 (hf0 (Nat.zero_le _)) rfl (fun H locs hW => ?_)
  replace hW := hW.perm pf5
  replace hW := hW.perm pf7
  replace hW := hW.perm pf7
  replace hW := hW.perm pf7
  replace hW := hW.perm pf7
  replace hW := hW.perm pf7
  replace hW := hW.perm pf7
  replace hW := hW.perm pf7
  refine lv_iconst (v := 0) hx hb dL_looks_24 (by decide) ?_
  refine lv_istore (lv' := [(8, .int 0), (0, .ref a_c), (1, .ref a_w), (2, .ref a_u), (3, .ref a_x), (4, .ref a_l), (5, .ref a_f), (6, .ref a_v), (7, .ref a_t)]) hx hb dL_looks_25 hl (by decide) rfl (fun ls hl => ?_)
  obtain ⟨o8_u13, y_f_u13, y_v_u13, q14, h⟩ := bnd3_s h
  refine L27 400 _ _ _ _ H locs ls o8_u13 y_f_u13 y_v_u13 hW (lv_sub hl [1, 2, 3, 4, 5, 6, 7, 0] rfl) q14 (fun H locs ls hW hl => ?_)
  obtain ⟨rfl, rfl, rfl⟩ := ret3 h
  rw [hQ]
  exact g_retv hx hb hr hlk hW dL_looks_71
set_option maxHeartbeats 16000000 in
set_option maxRecDepth 100000 in
theorem c_L_use (l : Launch) (D : va_G) (T : Nat → ClassId) (A : Nat → Prop) (a_g : Nat) (a_q : Nat) (a_n : Nat) (a_e : Nat) (a_j : Nat) (Z : va_W) (x_g : Nat → Int32) (x_q : Nat → Int32) (x_n : Nat → Int32) (x_e : Nat → Int32) (x_j : Nat → Int32) (p6 : Int32) (p7 : Int32) (p8 : Int32) (r : Int32) (h : f_L_use x_g x_q x_n x_e x_j p6 p7 p8 = some r) : Met l yL_use (Cond.code yL_use cL_use 16 (some .int) :: wsL_law) (rmL 1 1) (Pl D T A (oA T 20 a_g x_g ++ (oA T 60 a_q x_q ++ (oA T 5 a_n x_n ++ (oA T 64 a_e x_e ++ (oA T 64 a_j x_j ++ Z))))) [.ref a_g, .ref a_q, .ref a_n, .ref a_e, .ref a_j, .int p6, .int p7, .int p8]) (Qgi D A (oA T 20 a_g x_g ++ (oA T 60 a_q x_q ++ (oA T 5 a_n x_n ++ (oA T 64 a_e x_e ++ (oA T 64 a_j x_j ++ Z))))) r) 1 16 A := by
  refine Met.ofW (cc := cL_use) (maxL := 16) (ret := (some .int)) (by decide +kernel) rfl ?_
  intro p e s m args below meth c s₁ B hml hv
  obtain ⟨ha, hP, hK, hD, hN, hE, hC, hA⟩ := hv
  have hx := B.exec
  have hb := B.bytes
  have hr := B.returns
  have hlk := B.notSynchronized
  have hts : ∀ w ∈ wsL_law, w.before args s = true := fun w hw => atoms_spec B.pre w (List.mem_cons_of_mem _ hw)
  have hown : s.vm.findClass RL = some m.cls := findClass_of_methodNamed B.named
  have hW : Wd D A s.heap (oA T 20 a_g x_g ++ (oA T 60 a_q x_q ++ (oA T 5 a_n x_n ++ (oA T 64 a_e x_e ++ (oA T 64 a_j x_j ++ Z))))) s.heap [] := ⟨hP, hD, va_S.rf⟩
  have hl := lv_entry [.ref a_g, .ref a_q, .ref a_n, .ref a_e, .ref a_j, .int p6, .int p7, .int p8] (n := 16) (Nat.le_of_ble_eq_true rfl)
  refine W.eq (en_eq ha) ?_
  generalize (lg_sl [.ref a_g, .ref a_q, .ref a_n, .ref a_e, .ref a_j, .int p6, .int p7, .int p8] ++ List.replicate (16 - (lg_sl [.ref a_g, .ref a_q, .ref a_n, .ref a_e, .ref a_j, .int p6, .int p7, .int p8]).length) Slot.unset).toArray = ls at hl ⊢
  have hl : lv_has ls 16 [(0, .ref a_g), (1, .ref a_q), (2, .ref a_n), (3, .ref a_e), (4, .ref a_j), (5, .int p6), (6, .int p7), (7, .int p8)] := hl
  clear hP hD B ha
  obtain ⟨Q, hQ⟩ : ∃ Q, Q = MQ below (Qgi D A (oA T 20 a_g x_g ++ (oA T 60 a_q x_q ++ (oA T 5 a_n x_n ++ (oA T 64 a_e x_e ++ (oA T 64 a_j x_j ++ Z))))) r) args s 1 16 A := ⟨_, rfl⟩
  rw [← hQ]
  change W p l e (rmL 1 1) s m args below meth c s.heap [] 0 (16 * 0) Q (F0 m 0 ls [])
  rw [f_L_use] at h
  suffices hm : ∀ (H : Heap) (locs : List Loc), Wd D A s.heap (oA T 20 a_g x_g ++ (oA T 60 a_q x_q ++ (oA T 5 a_n x_n ++ (oA T 64 a_e x_e ++ (oA T 64 a_j x_j ++ Z))))) H locs → W p l e (rmL 1 1) s m args below meth c H locs 0 (16 * 0) Q (F0 m 0 ls []) from hm _ _ hW
  clear hW
  intro H locs hW
  refine lv_bipush (v := 9) hx hb dL_use_0 (by decide) ?_
  refine l_newa (b := 1) hx hb hts hK hA hW 9 (by decide) (by decide) (by decide) (by decide) (by decide) (hfB (Nat.le_of_ble_eq_true rfl)) dL_use_2 (fun a_nw1 H hW => ?_)
  refine lv_astore (lv' := [(8, .ref a_nw1), (0, .ref a_g), (1, .ref a_q), (2, .ref a_n), (3, .ref a_e), (4, .ref a_j), (5, .int p6), (6, .int p7), (7, .int p8)]) hx hb dL_use_4 hl (by decide) rfl (fun ls hl => ?_)
  obtain ⟨x_nw10, ex_nw10⟩ : ∃ y : Nat → Int32, y = (fun _ => 0) := ⟨_, rfl⟩
  replace h := lb_at ex_nw10 h
  have hW : Wd D A s.heap (oA T 9 a_nw1 x_nw10 ++ (oA T 20 a_g x_g ++ (oA T 60 a_q x_q ++ (oA T 5 a_n x_n ++ (oA T 64 a_e x_e ++ (oA T 64 a_j x_j ++ Z)))))) H locs := by rw [ex_nw10]; exact hW
  have L34 : ∀ (n : Nat) (x_nw1_34 : Nat → Int32) (x_N_34 : Nat) (v5_34 : Int32) (v6_34 : Int32) (v7_34 : Int32) (v9_34 : Int32) (v10_34 : Int32) (v11_34 : Int32) (hN_34 : x_N_34 ≤ 1) (H : Heap) (locs : List Loc) (ls : Array Slot) (o11_34r : Int32) (y_nw1_34r : Nat → Int32), Wd D A s.heap (oA T 9 a_nw1 x_nw1_34 ++ (oA T 20 a_g x_g ++ (oA T 60 a_q x_q ++ (oA T 5 a_n x_n ++ (oA T 64 a_e x_e ++ (oA T 64 a_j x_j ++ Z)))))) H locs → lv_has ls 16 [(0, .ref a_g), (1, .ref a_q), (2, .ref a_n), (3, .ref a_e), (5, .int v5_34), (6, .int v6_34), (7, .int v7_34), (8, .ref a_nw1), (9, .int v9_34), (10, .int v10_34), (11, .int v11_34)] → f_L_use_L34 n x_g x_q x_n x_e x_j x_nw1_34 x_N_34 v5_34 v6_34 v7_34 v9_34 v10_34 v11_34 = some (o11_34r, y_nw1_34r) → (∀ (H : Heap) (locs : List Loc) (ls : Array Slot), Wd D A s.heap (oA T 9 a_nw1 y_nw1_34r ++ (oA T 20 a_g x_g ++ (oA T 60 a_q x_q ++ (oA T 5 a_n x_n ++ (oA T 64 a_e x_e ++ (oA T 64 a_j x_j ++ Z)))))) H locs → lv_has ls 16 [(0, .ref a_g), (1, .ref a_q), (2, .ref a_n), (5, .int v5_34), (8, .ref a_nw1), (9, .int v9_34), (10, .int v10_34)] → W p l e (rmL 1 1) s m args below meth c H locs x_N_34 (16 * x_N_34) Q (F0 m 88 ls [])) → W p l e (rmL 1 1) s m args below meth c H locs x_N_34 (16 * x_N_34) Q (F0 m 34 ls []) := by
    intro n
    induction n with
    | zero =>
      intro x_nw1_34 x_N_34 v5_34 v6_34 v7_34 v9_34 v10_34 v11_34 hN_34 H locs ls o11_34r y_nw1_34r hW hl h k1
      rw [f_L_use_L34] at h
      cases h
    | succ n ih =>
      intro x_nw1_34 x_N_34 v5_34 v6_34 v7_34 v9_34 v10_34 v11_34 hN_34 H locs ls o11_34r y_nw1_34r hW hl h k1
      rw [f_L_use_L34] at h
      refine lv_iload hx hb dL_use_34 (lv_at hl 10 rfl) ?_
      refine lv_iconst (v := 3) hx hb dL_use_36 (by decide) ?_
      refine lv_icmp_ge (tgt := 88) hx hb dL_use_37 (by decide) (fun c5 => ?_) (fun c5 => ?_)
      · replace h := ite_t c5 h
        obtain ⟨rfl, rfl⟩ := ret2 h
        exact k1 H locs ls hW (lv_sub hl [0, 1, 2, 4, 7, 8, 9] rfl)
      · replace h := ite_f c5 h
        refine lv_aload hx hb dL_use_40 (lv_at hl 7 rfl) ?_
        refine lv_iconst (v := 3) hx hb dL_use_42 (by decide) ?_
        refine lv_iload hx hb dL_use_43 (lv_at hl 10 rfl) ?_
        refine lv_iadd hx hb dL_use_45 ?_
        refine lv_aload_n hx hb dL_use_46 rfl (lv_at hl 3 rfl) ?_
        refine lv_iload hx hb dL_use_47 (lv_at hl 5 rfl) ?_
        obtain ⟨g6, h⟩ := grd_s h
        refine g_iald hx hb hK hW 4 rfl g6 dL_use_49 ?_
        refine lv_iload hx hb dL_use_50 (lv_at hl 10 rfl) ?_
        obtain ⟨r7, q8, h⟩ := bnd1_s h
        refine cs_L_39 hx hb hml hown hts hK hN hE hC hA hW (c_L_digit l D T A (oA T 9 a_nw1 x_nw1_34 ++ (oA T 20 a_g x_g ++ (oA T 60 a_q x_q ++ (oA T 5 a_n x_n ++ (oA T 64 a_e x_e ++ (oA T 64 a_j x_j ++ Z)))))) (x_e v6_34.toNatClampNeg) v11_34 r7 q8) ⟨Nat.le_of_ble_eq_true rfl, Nat.le_of_ble_eq_true rfl⟩ hl.1 rfl (Nat.le_of_ble_eq_true rfl) dL_use_52 (hf0 hN_34) rfl (fun H locs hW => ?_)
        obtain ⟨g9, h⟩ := grd_s h
        refine g_iast (ws9 := oA T 9 a_nw1 (upd x_nw1_34 (3 + v11_34).toNatClampNeg r7) ++ (oA T 20 a_g x_g ++ (oA T 60 a_q x_q ++ (oA T 5 a_n x_n ++ (oA T 64 a_e x_e ++ (oA T 64 a_j x_j ++ Z)))))) hx hb hK hW 0 rfl g9 rfl dL_use_55 (fun H locs hW => ?_)
        obtain ⟨x_nw110, ex_nw110⟩ : ∃ y : Nat → Int32, y = upd x_nw1_34 (3 + v11_34).toNatClampNeg r7 := ⟨_, rfl⟩
        rw [← ex_nw110] at hW
        replace h := lb_at ex_nw110 h
        refine lv_aload hx hb dL_use_56 (lv_at hl 7 rfl) ?_
        refine lv_bipush (v := 6) hx hb dL_use_58 (by decide) ?_
        refine lv_iload hx hb dL_use_60 (lv_at hl 10 rfl) ?_
        refine lv_iadd hx hb dL_use_62 ?_
        refine lv_iload hx hb dL_use_63 (lv_at hl 6 rfl) ?_
        refine lv_if_ge (tgt := 72) hx hb dL_use_65 (by decide) (fun c11 => ?_) (fun c11 => ?_)
        · replace h := ite_t c11 h
          refine lv_aload_n hx hb dL_use_72 rfl (lv_at hl 3 rfl) ?_
          refine lv_iload hx hb dL_use_73 (lv_at hl 6 rfl) ?_
          obtain ⟨g12, h⟩ := grd_s h
          refine g_iald hx hb hK hW 4 rfl g12 dL_use_75 ?_
          refine lv_iload hx hb dL_use_76 (lv_at hl 10 rfl) ?_
          obtain ⟨r13, q14, h⟩ := bnd1_s h
          refine cs_L_39 hx hb hml hown hts hK hN hE hC hA hW (c_L_digit l D T A (oA T 9 a_nw1 x_nw110 ++ (oA T 20 a_g x_g ++ (oA T 60 a_q x_q ++ (oA T 5 a_n x_n ++ (oA T 64 a_e x_e ++ (oA T 64 a_j x_j ++ Z)))))) (x_e v7_34.toNatClampNeg) v11_34 r13 q14) ⟨Nat.le_of_ble_eq_true rfl, Nat.le_of_ble_eq_true rfl⟩ hl.1 rfl (Nat.le_of_ble_eq_true rfl) dL_use_78 (hf0 hN_34) rfl (fun H locs hW => ?_)
          obtain ⟨g15, h⟩ := grd_s h
          refine g_iast (ws9 := oA T 9 a_nw1 (upd x_nw110 (6 + v11_34).toNatClampNeg r13) ++ (oA T 20 a_g x_g ++ (oA T 60 a_q x_q ++ (oA T 5 a_n x_n ++ (oA T 64 a_e x_e ++ (oA T 64 a_j x_j ++ Z)))))) hx hb hK hW 0 rfl g15 rfl dL_use_81 (fun H locs hW => ?_)
          obtain ⟨x_nw116, ex_nw116⟩ : ∃ y : Nat → Int32, y = upd x_nw110 (6 + v11_34).toNatClampNeg r13 := ⟨_, rfl⟩
          rw [← ex_nw116] at hW
          replace h := lb_at ex_nw116 h
          obtain ⟨w11_17, ew11_17⟩ : ∃ y : Int32, y = v11_34 + 1 := ⟨_, rfl⟩
          replace h := lb_at ew11_17 h
          refine lv_iinc (v := w11_17) (lv' := [(11, .int w11_17), (0, .ref a_g), (1, .ref a_q), (2, .ref a_n), (3, .ref a_e), (5, .int v5_34), (6, .int v6_34), (7, .int v7_34), (8, .ref a_nw1), (9, .int v9_34), (10, .int v10_34)]) hx hb dL_use_82 hl (k := 10) rfl (by rw [ew11_17]; rfl) (by decide) rfl (fun ls hl => ?_)
          refine lv_goto (tgt := 34) hx hb dL_use_85 (by decide) ?_
          exact ih _ _ _ _ _ _ _ _ hN_34 H locs ls _ _ hW (lv_sub hl [1, 2, 3, 4, 5, 6, 7, 8, 9, 10, 0] rfl) h k1
        · replace h := ite_f c11 h
          refine lv_iconst (v := 0) hx hb dL_use_68 (by decide) ?_
          refine lv_goto (tgt := 81) hx hb dL_use_69 (by decide) ?_
          obtain ⟨g18, h⟩ := grd_s h
          refine g_iast (ws9 := oA T 9 a_nw1 (upd x_nw110 (6 + v11_34).toNatClampNeg 0) ++ (oA T 20 a_g x_g ++ (oA T 60 a_q x_q ++ (oA T 5 a_n x_n ++ (oA T 64 a_e x_e ++ (oA T 64 a_j x_j ++ Z)))))) hx hb hK hW 0 rfl g18 rfl dL_use_81 (fun H locs hW => ?_)
          obtain ⟨x_nw119, ex_nw119⟩ : ∃ y : Nat → Int32, y = upd x_nw110 (6 + v11_34).toNatClampNeg 0 := ⟨_, rfl⟩
          rw [← ex_nw119] at hW
          replace h := lb_at ex_nw119 h
          obtain ⟨w11_20, ew11_20⟩ : ∃ y : Int32, y = v11_34 + 1 := ⟨_, rfl⟩
          replace h := lb_at ew11_20 h
          refine lv_iinc (v := w11_20) (lv' := [(11, .int w11_20), (0, .ref a_g), (1, .ref a_q), (2, .ref a_n), (3, .ref a_e), (5, .int v5_34), (6, .int v6_34), (7, .int v7_34), (8, .ref a_nw1), (9, .int v9_34), (10, .int v10_34)]) hx hb dL_use_82 hl (k := 10) rfl (by rw [ew11_20]; rfl) (by decide) rfl (fun ls hl => ?_)
          refine lv_goto (tgt := 34) hx hb dL_use_85 (by decide) ?_
          exact ih _ _ _ _ _ _ _ _ hN_34 H locs ls _ _ hW (lv_sub hl [1, 2, 3, 4, 5, 6, 7, 8, 9, 10, 0] rfl) h k1
  have J258 : ∀ (x_nw1_258 : Nat → Int32) (x_N_258 : Nat) (v5_258 : Int32) (v9_258 : Int32) (v10_258 : Int32) (v11_258 : Int32) (v13_258 : Int32) (v14_258 : Int32) (s1_258 : Int32) (s2_258 : Int32) (hN_258 : x_N_258 ≤ 1) (H : Heap) (locs : List Loc) (ls : Array Slot) (code : Nat) (o9j : Int32) (o10j : Int32) (o11j : Int32) (y_nw1j : Nat → Int32), Wd D A s.heap (oA T 9 a_nw1 x_nw1_258 ++ (oA T 20 a_g x_g ++ (oA T 60 a_q x_q ++ (oA T 5 a_n x_n ++ (oA T 64 a_e x_e ++ (oA T 64 a_j x_j ++ Z)))))) H locs → lv_has ls 16 [(0, .ref a_g), (1, .ref a_q), (2, .ref a_n), (5, .int v5_258), (8, .ref a_nw1), (9, .int v9_258), (10, .int v10_258), (11, .int v11_258), (13, .int v13_258), (14, .int v14_258)] → f_L_use_J258 x_g x_q x_n x_e x_j x_nw1_258 x_N_258 v5_258 v9_258 v10_258 v11_258 v13_258 v14_258 s1_258 s2_258 = some (code, o9j, o10j, o11j, y_nw1j) → (code = 0 → ∀ (H : Heap) (locs : List Loc) (ls : Array Slot), Wd D A s.heap (oA T 9 a_nw1 y_nw1j ++ (oA T 20 a_g x_g ++ (oA T 60 a_q x_q ++ (oA T 5 a_n x_n ++ (oA T 64 a_e x_e ++ (oA T 64 a_j x_j ++ Z)))))) H locs → lv_has ls 16 [(0, .ref a_g), (1, .ref a_q), (2, .ref a_n), (5, .int v5_258), (8, .ref a_nw1), (9, .int o9j), (10, .int o10j), (11, .int o11j)] → W p l e (rmL 1 1) s m args below meth c H locs x_N_258 (16 * x_N_258) Q (F0 m 91 ls [])) → (code = 1 → ∀ (H : Heap) (locs : List Loc) (ls : Array Slot), Wd D A s.heap (oA T 9 a_nw1 y_nw1j ++ (oA T 20 a_g x_g ++ (oA T 60 a_q x_q ++ (oA T 5 a_n x_n ++ (oA T 64 a_e x_e ++ (oA T 64 a_j x_j ++ Z)))))) H locs → lv_has ls 16 [(0, .ref a_g), (5, .int v5_258), (8, .ref a_nw1), (9, .int o9j), (10, .int o10j)] → W p l e (rmL 1 1) s m args below meth c H locs x_N_258 (16 * x_N_258) Q (F0 m 291 ls [])) → (code = 2 → ∀ (H : Heap) (locs : List Loc) (ls : Array Slot), Wd D A s.heap (oA T 9 a_nw1 y_nw1j ++ (oA T 20 a_g x_g ++ (oA T 60 a_q x_q ++ (oA T 5 a_n x_n ++ (oA T 64 a_e x_e ++ (oA T 64 a_j x_j ++ Z)))))) H locs → lv_has ls 16 [] → W p l e (rmL 1 1) s m args below meth c H locs x_N_258 (16 * x_N_258) Q (F0 m 192 ls [])) → W p l e (rmL 1 1) s m args below meth c H locs x_N_258 (16 * x_N_258) Q (F0 m 258 ls [.int s2_258, .int s1_258, .ref a_nw1]) := by
    intro x_nw1_258 x_N_258 v5_258 v9_258 v10_258 v11_258 v13_258 v14_258 s1_258 s2_258 hN_258 H locs ls code o9j o10j o11j y_nw1j hW hl h k0 k1 k2
    rw [f_L_use_J258] at h
    obtain ⟨g42, h⟩ := grd_s h
    refine g_iast (ws9 := oA T 9 a_nw1 (upd x_nw1_258 s1_258.toNatClampNeg s2_258) ++ (oA T 20 a_g x_g ++ (oA T 60 a_q x_q ++ (oA T 5 a_n x_n ++ (oA T 64 a_e x_e ++ (oA T 64 a_j x_j ++ Z)))))) hx hb hK hW 0 rfl g42 rfl dL_use_258 (fun H locs hW => ?_)
    obtain ⟨x_nw143, ex_nw143⟩ : ∃ y : Nat → Int32, y = upd x_nw1_258 s1_258.toNatClampNeg s2_258 := ⟨_, rfl⟩
    rw [← ex_nw143] at hW
    replace h := lb_at ex_nw143 h
    refine lv_aload hx hb dL_use_259 (lv_at hl 4 rfl) ?_
    refine lv_iload hx hb dL_use_261 (lv_at hl 9 rfl) ?_
    refine lv_aload hx hb dL_use_263 (lv_at hl 4 rfl) ?_
    refine lv_iload hx hb dL_use_265 (lv_at hl 9 rfl) ?_
    obtain ⟨g44, h⟩ := grd_s h
    refine g_iald hx hb hK hW 0 rfl g44 dL_use_267 ?_
    refine lv_if_ne (tgt := 279) hx hb dL_use_268 (by decide) (fun c45 => ?_) (fun c45 => ?_)
    · replace h := ite_f c45 h
      refine lv_aload hx hb dL_use_279 (lv_at hl 4 rfl) ?_
      refine lv_iload hx hb dL_use_281 (lv_at hl 9 rfl) ?_
      obtain ⟨g46, h⟩ := grd_s h
      refine g_iald hx hb hK hW 0 rfl g46 dL_use_283 ?_
      obtain ⟨g47, h⟩ := grd_s h
      refine g_iast (ws9 := oA T 9 a_nw1 (upd x_nw143 v14_258.toNatClampNeg (x_nw143 v14_258.toNatClampNeg)) ++ (oA T 20 a_g x_g ++ (oA T 60 a_q x_q ++ (oA T 5 a_n x_n ++ (oA T 64 a_e x_e ++ (oA T 64 a_j x_j ++ Z)))))) hx hb hK hW 0 rfl g47 rfl dL_use_284 (fun H locs hW => ?_)
      obtain ⟨x_nw148, ex_nw148⟩ : ∃ y : Nat → Int32, y = upd x_nw143 v14_258.toNatClampNeg (x_nw143 v14_258.toNatClampNeg) := ⟨_, rfl⟩
      rw [← ex_nw148] at hW
      replace h := lb_at ex_nw148 h
      obtain ⟨w11_49, ew11_49⟩ : ∃ y : Int32, y = v11_258 + 1 := ⟨_, rfl⟩
      replace h := lb_at ew11_49 h
      refine lv_iinc (v := w11_49) (lv' := [(11, .int w11_49), (0, .ref a_g), (1, .ref a_q), (2, .ref a_n), (5, .int v5_258), (8, .ref a_nw1), (9, .int v9_258), (10, .int v10_258), (13, .int v13_258), (14, .int v14_258)]) hx hb dL_use_285 hl (k := 7) rfl (by rw [ew11_49]; rfl) (by decide) rfl (fun ls hl => ?_)
      refine lv_goto (tgt := 91) hx hb dL_use_288 (by decide) ?_
      obtain ⟨rfl, rfl, rfl, rfl, rfl⟩ := ret5 h
      exact k0 rfl H locs ls hW (lv_sub hl [1, 2, 3, 4, 5, 6, 7, 0] rfl)
    · replace h := ite_t c45 h
      refine lv_aload hx hb dL_use_271 (lv_at hl 4 rfl) ?_
      refine lv_iload hx hb dL_use_273 (lv_at hl 8 rfl) ?_
      obtain ⟨g50, h⟩ := grd_s h
      refine g_iald hx hb hK hW 0 rfl g50 dL_use_275 ?_
      refine lv_goto (tgt := 284) hx hb dL_use_276 (by decide) ?_
      obtain ⟨g51, h⟩ := grd_s h
      refine g_iast (ws9 := oA T 9 a_nw1 (upd x_nw143 v14_258.toNatClampNeg (x_nw143 v13_258.toNatClampNeg)) ++ (oA T 20 a_g x_g ++ (oA T 60 a_q x_q ++ (oA T 5 a_n x_n ++ (oA T 64 a_e x_e ++ (oA T 64 a_j x_j ++ Z)))))) hx hb hK hW 0 rfl g51 rfl dL_use_284 (fun H locs hW => ?_)
      obtain ⟨x_nw152, ex_nw152⟩ : ∃ y : Nat → Int32, y = upd x_nw143 v14_258.toNatClampNeg (x_nw143 v13_258.toNatClampNeg) := ⟨_, rfl⟩
      rw [← ex_nw152] at hW
      replace h := lb_at ex_nw152 h
      obtain ⟨w11_53, ew11_53⟩ : ∃ y : Int32, y = v11_258 + 1 := ⟨_, rfl⟩
      replace h := lb_at ew11_53 h
      refine lv_iinc (v := w11_53) (lv' := [(11, .int w11_53), (0, .ref a_g), (1, .ref a_q), (2, .ref a_n), (5, .int v5_258), (8, .ref a_nw1), (9, .int v9_258), (10, .int v10_258), (13, .int v13_258), (14, .int v14_258)]) hx hb dL_use_285 hl (k := 7) rfl (by rw [ew11_53]; rfl) (by decide) rfl (fun ls hl => ?_)
      refine lv_goto (tgt := 91) hx hb dL_use_288 (by decide) ?_
      obtain ⟨rfl, rfl, rfl, rfl, rfl⟩ := ret5 h
      exact k0 rfl H locs ls hW (lv_sub hl [1, 2, 3, 4, 5, 6, 7, 0] rfl)
  have J230 : ∀ (x_nw1_230 : Nat → Int32) (x_N_230 : Nat) (v5_230 : Int32) (v10_230 : Int32) (v11_230 : Int32) (v13_230 : Int32) (v14_230 : Int32) (s0_230 : Int32) (s1_230 : Int32) (hN_230 : x_N_230 ≤ 1) (H : Heap) (locs : List Loc) (ls : Array Slot) (code : Nat) (o9j : Int32) (o10j : Int32) (o11j : Int32) (y_nw1j : Nat → Int32), Wd D A s.heap (oA T 9 a_nw1 x_nw1_230 ++ (oA T 20 a_g x_g ++ (oA T 60 a_q x_q ++ (oA T 5 a_n x_n ++ (oA T 64 a_e x_e ++ (oA T 64 a_j x_j ++ Z)))))) H locs → lv_has ls 16 [(0, .ref a_g), (1, .ref a_q), (2, .ref a_n), (5, .int v5_230), (8, .ref a_nw1), (10, .int v10_230), (11, .int v11_230), (13, .int v13_230), (14, .int v14_230)] → f_L_use_J230 x_g x_q x_n x_e x_j x_nw1_230 x_N_230 v5_230 v10_230 v11_230 v13_230 v14_230 s0_230 s1_230 = some (code, o9j, o10j, o11j, y_nw1j) → (code = 0 → ∀ (H : Heap) (locs : List Loc) (ls : Array Slot), Wd D A s.heap (oA T 9 a_nw1 y_nw1j ++ (oA T 20 a_g x_g ++ (oA T 60 a_q x_q ++ (oA T 5 a_n x_n ++ (oA T 64 a_e x_e ++ (oA T 64 a_j x_j ++ Z)))))) H locs → lv_has ls 16 [(0, .ref a_g), (1, .ref a_q), (2, .ref a_n), (5, .int v5_230), (8, .ref a_nw1), (9, .int o9j), (10, .int o10j), (11, .int o11j)] → W p l e (rmL 1 1) s m args below meth c H locs x_N_230 (16 * x_N_230) Q (F0 m 91 ls [])) → (code = 1 → ∀ (H : Heap) (locs : List Loc) (ls : Array Slot), Wd D A s.heap (oA T 9 a_nw1 y_nw1j ++ (oA T 20 a_g x_g ++ (oA T 60 a_q x_q ++ (oA T 5 a_n x_n ++ (oA T 64 a_e x_e ++ (oA T 64 a_j x_j ++ Z)))))) H locs → lv_has ls 16 [(0, .ref a_g), (5, .int v5_230), (8, .ref a_nw1), (9, .int o9j), (10, .int o10j)] → W p l e (rmL 1 1) s m args below meth c H locs x_N_230 (16 * x_N_230) Q (F0 m 291 ls [])) → (code = 2 → ∀ (H : Heap) (locs : List Loc) (ls : Array Slot), Wd D A s.heap (oA T 9 a_nw1 y_nw1j ++ (oA T 20 a_g x_g ++ (oA T 60 a_q x_q ++ (oA T 5 a_n x_n ++ (oA T 64 a_e x_e ++ (oA T 64 a_j x_j ++ Z)))))) H locs → lv_has ls 16 [] → W p l e (rmL 1 1) s m args below meth c H locs x_N_230 (16 * x_N_230) Q (F0 m 192 ls [])) → W p l e (rmL 1 1) s m args below meth c H locs x_N_230 (16 * x_N_230) Q (F0 m 230 ls [.int s1_230, .int s0_230]) := by
    intro x_nw1_230 x_N_230 v5_230 v10_230 v11_230 v13_230 v14_230 s0_230 s1_230 hN_230 H locs ls code o9j o10j o11j y_nw1j hW hl h k0 k1 k2
    rw [f_L_use_J230] at h
    refine lv_iadd hx hb dL_use_230 ?_
    refine lv_topi (fun w9_38 ew9_38 => ?_)
    replace h := lb_at ew9_38 h
    refine lv_istore (lv' := [(9, .int w9_38), (0, .ref a_g), (1, .ref a_q), (2, .ref a_n), (5, .int v5_230), (8, .ref a_nw1), (10, .int v10_230), (11, .int v11_230), (13, .int v13_230), (14, .int v14_230)]) hx hb dL_use_231 hl (by decide) rfl (fun ls hl => ?_)
    refine lv_aload hx hb dL_use_233 (lv_at hl 5 rfl) ?_
    refine lv_iload hx hb dL_use_235 (lv_at hl 8 rfl) ?_
    refine lv_aload hx hb dL_use_237 (lv_at hl 5 rfl) ?_
    refine lv_iload hx hb dL_use_239 (lv_at hl 8 rfl) ?_
    obtain ⟨g39, h⟩ := grd_s h
    refine g_iald hx hb hK hW 0 rfl g39 dL_use_241 ?_
    refine lv_if_ne (tgt := 253) hx hb dL_use_242 (by decide) (fun c40 => ?_) (fun c40 => ?_)
    · replace h := ite_f c40 h
      refine lv_aload hx hb dL_use_253 (lv_at hl 5 rfl) ?_
      refine lv_iload hx hb dL_use_255 (lv_at hl 8 rfl) ?_
      obtain ⟨g41, h⟩ := grd_s h
      refine g_iald hx hb hK hW 0 rfl g41 dL_use_257 ?_
      exact J258 _ _ _ _ _ _ _ _ _ _ hN_230 H locs ls _ _ _ _ _ hW (lv_sub hl [1, 2, 3, 4, 5, 0, 6, 7, 8, 9] rfl) h k0 k1 k2
    · replace h := ite_t c40 h
      refine lv_aload hx hb dL_use_245 (lv_at hl 5 rfl) ?_
      refine lv_iload hx hb dL_use_247 (lv_at hl 9 rfl) ?_
      obtain ⟨g54, h⟩ := grd_s h
      refine g_iald hx hb hK hW 0 rfl g54 dL_use_249 ?_
      refine lv_goto (tgt := 258) hx hb dL_use_250 (by decide) ?_
      exact J258 _ _ _ _ _ _ _ _ _ _ hN_230 H locs ls _ _ _ _ _ hW (lv_sub hl [1, 2, 3, 4, 5, 0, 6, 7, 8, 9] rfl) h k0 k1 k2
  have J209 : ∀ (x_nw1_209 : Nat → Int32) (x_N_209 : Nat) (v5_209 : Int32) (v9_209 : Int32) (v11_209 : Int32) (v12_209 : Int32) (v13_209 : Int32) (v14_209 : Int32) (v15_209 : Int32) (s0_209 : Int32) (s1_209 : Int32) (hN_209 : x_N_209 ≤ 1) (H : Heap) (locs : List Loc) (ls : Array Slot) (code : Nat) (o9j : Int32) (o10j : Int32) (o11j : Int32) (y_nw1j : Nat → Int32), Wd D A s.heap (oA T 9 a_nw1 x_nw1_209 ++ (oA T 20 a_g x_g ++ (oA T 60 a_q x_q ++ (oA T 5 a_n x_n ++ (oA T 64 a_e x_e ++ (oA T 64 a_j x_j ++ Z)))))) H locs → lv_has ls 16 [(0, .ref a_g), (1, .ref a_q), (2, .ref a_n), (5, .int v5_209), (8, .ref a_nw1), (9, .int v9_209), (11, .int v11_209), (12, .int v12_209), (13, .int v13_209), (14, .int v14_209), (15, .int v15_209)] → f_L_use_J209 x_g x_q x_n x_e x_j x_nw1_209 x_N_209 v5_209 v9_209 v11_209 v12_209 v13_209 v14_209 v15_209 s0_209 s1_209 = some (code, o9j, o10j, o11j, y_nw1j) → (code = 0 → ∀ (H : Heap) (locs : List Loc) (ls : Array Slot), Wd D A s.heap (oA T 9 a_nw1 y_nw1j ++ (oA T 20 a_g x_g ++ (oA T 60 a_q x_q ++ (oA T 5 a_n x_n ++ (oA T 64 a_e x_e ++ (oA T 64 a_j x_j ++ Z)))))) H locs → lv_has ls 16 [(0, .ref a_g), (1, .ref a_q), (2, .ref a_n), (5, .int v5_209), (8, .ref a_nw1), (9, .int o9j), (10, .int o10j), (11, .int o11j)] → W p l e (rmL 1 1) s m args below meth c H locs x_N_209 (16 * x_N_209) Q (F0 m 91 ls [])) → (code = 1 → ∀ (H : Heap) (locs : List Loc) (ls : Array Slot), Wd D A s.heap (oA T 9 a_nw1 y_nw1j ++ (oA T 20 a_g x_g ++ (oA T 60 a_q x_q ++ (oA T 5 a_n x_n ++ (oA T 64 a_e x_e ++ (oA T 64 a_j x_j ++ Z)))))) H locs → lv_has ls 16 [(0, .ref a_g), (5, .int v5_209), (8, .ref a_nw1), (9, .int o9j), (10, .int o10j)] → W p l e (rmL 1 1) s m args below meth c H locs x_N_209 (16 * x_N_209) Q (F0 m 291 ls [])) → (code = 2 → ∀ (H : Heap) (locs : List Loc) (ls : Array Slot), Wd D A s.heap (oA T 9 a_nw1 y_nw1j ++ (oA T 20 a_g x_g ++ (oA T 60 a_q x_q ++ (oA T 5 a_n x_n ++ (oA T 64 a_e x_e ++ (oA T 64 a_j x_j ++ Z)))))) H locs → lv_has ls 16 [] → W p l e (rmL 1 1) s m args below meth c H locs x_N_209 (16 * x_N_209) Q (F0 m 192 ls [])) → W p l e (rmL 1 1) s m args below meth c H locs x_N_209 (16 * x_N_209) Q (F0 m 209 ls [.int s1_209, .int s0_209]) := by
    intro x_nw1_209 x_N_209 v5_209 v9_209 v11_209 v12_209 v13_209 v14_209 v15_209 s0_209 s1_209 hN_209 H locs ls code o9j o10j o11j y_nw1j hW hl h k0 k1 k2
    rw [f_L_use_J209] at h
    refine lv_iadd hx hb dL_use_209 ?_
    refine lv_topi (fun w10_36 ew10_36 => ?_)
    replace h := lb_at ew10_36 h
    refine lv_istore (lv' := [(10, .int w10_36), (0, .ref a_g), (1, .ref a_q), (2, .ref a_n), (5, .int v5_209), (8, .ref a_nw1), (9, .int v9_209), (11, .int v11_209), (12, .int v12_209), (13, .int v13_209), (14, .int v14_209), (15, .int v15_209)]) hx hb dL_use_210 hl (by decide) rfl (fun ls hl => ?_)
    refine lv_iload hx hb dL_use_212 (lv_at hl 6 rfl) ?_
    refine lv_iload hx hb dL_use_214 (lv_at hl 11 rfl) ?_
    refine lv_if_eq (tgt := 229) hx hb dL_use_216 (by decide) (fun c37 => ?_) (fun c37 => ?_)
    · replace h := ite_t c37 h
      refine lv_iconst (v := 0) hx hb dL_use_229 (by decide) ?_
      exact J230 _ _ _ _ _ _ _ _ _ hN_209 H locs ls _ _ _ _ _ hW (lv_sub hl [1, 2, 3, 4, 5, 0, 7, 9, 10] rfl) h k0 k1 k2
    · replace h := ite_f c37 h
      refine lv_aload_n hx hb dL_use_219 rfl (lv_at hl 2 rfl) ?_
      refine lv_iload hx hb dL_use_220 (lv_at hl 8 rfl) ?_
      refine lv_bipush (v := 9) hx hb dL_use_222 (by decide) ?_
      refine lv_iadd hx hb dL_use_224 ?_
      obtain ⟨g55, h⟩ := grd_s h
      refine g_iald hx hb hK hW 2 rfl g55 dL_use_225 ?_
      refine lv_goto (tgt := 230) hx hb dL_use_226 (by decide) ?_
      exact J230 _ _ _ _ _ _ _ _ _ hN_209 H locs ls _ _ _ _ _ hW (lv_sub hl [1, 2, 3, 4, 5, 0, 7, 9, 10] rfl) h k0 k1 k2
  have J194 : ∀ (x_nw1_194 : Nat → Int32) (x_N_194 : Nat) (v5_194 : Int32) (v9_194 : Int32) (v10_194 : Int32) (v11_194 : Int32) (v12_194 : Int32) (v13_194 : Int32) (v14_194 : Int32) (v15_194 : Int32) (hN_194 : x_N_194 ≤ 1) (H : Heap) (locs : List Loc) (ls : Array Slot) (code : Nat) (o9j : Int32) (o10j : Int32) (o11j : Int32) (y_nw1j : Nat → Int32), Wd D A s.heap (oA T 9 a_nw1 x_nw1_194 ++ (oA T 20 a_g x_g ++ (oA T 60 a_q x_q ++ (oA T 5 a_n x_n ++ (oA T 64 a_e x_e ++ (oA T 64 a_j x_j ++ Z)))))) H locs → lv_has ls 16 [(0, .ref a_g), (1, .ref a_q), (2, .ref a_n), (5, .int v5_194), (8, .ref a_nw1), (9, .int v9_194), (10, .int v10_194), (11, .int v11_194), (12, .int v12_194), (13, .int v13_194), (14, .int v14_194), (15, .int v15_194)] → f_L_use_J194 x_g x_q x_n x_e x_j x_nw1_194 x_N_194 v5_194 v9_194 v10_194 v11_194 v12_194 v13_194 v14_194 v15_194 = some (code, o9j, o10j, o11j, y_nw1j) → (code = 0 → ∀ (H : Heap) (locs : List Loc) (ls : Array Slot), Wd D A s.heap (oA T 9 a_nw1 y_nw1j ++ (oA T 20 a_g x_g ++ (oA T 60 a_q x_q ++ (oA T 5 a_n x_n ++ (oA T 64 a_e x_e ++ (oA T 64 a_j x_j ++ Z)))))) H locs → lv_has ls 16 [(0, .ref a_g), (1, .ref a_q), (2, .ref a_n), (5, .int v5_194), (8, .ref a_nw1), (9, .int o9j), (10, .int o10j), (11, .int o11j)] → W p l e (rmL 1 1) s m args below meth c H locs x_N_194 (16 * x_N_194) Q (F0 m 91 ls [])) → (code = 1 → ∀ (H : Heap) (locs : List Loc) (ls : Array Slot), Wd D A s.heap (oA T 9 a_nw1 y_nw1j ++ (oA T 20 a_g x_g ++ (oA T 60 a_q x_q ++ (oA T 5 a_n x_n ++ (oA T 64 a_e x_e ++ (oA T 64 a_j x_j ++ Z)))))) H locs → lv_has ls 16 [(0, .ref a_g), (5, .int v5_194), (8, .ref a_nw1), (9, .int o9j), (10, .int o10j)] → W p l e (rmL 1 1) s m args below meth c H locs x_N_194 (16 * x_N_194) Q (F0 m 291 ls [])) → (code = 2 → ∀ (H : Heap) (locs : List Loc) (ls : Array Slot), Wd D A s.heap (oA T 9 a_nw1 y_nw1j ++ (oA T 20 a_g x_g ++ (oA T 60 a_q x_q ++ (oA T 5 a_n x_n ++ (oA T 64 a_e x_e ++ (oA T 64 a_j x_j ++ Z)))))) H locs → lv_has ls 16 [] → W p l e (rmL 1 1) s m args below meth c H locs x_N_194 (16 * x_N_194) Q (F0 m 192 ls [])) → W p l e (rmL 1 1) s m args below meth c H locs x_N_194 (16 * x_N_194) Q (F0 m 194 ls []) := by
    intro x_nw1_194 x_N_194 v5_194 v9_194 v10_194 v11_194 v12_194 v13_194 v14_194 v15_194 hN_194 H locs ls code o9j o10j o11j y_nw1j hW hl h k0 k1 k2
    rw [f_L_use_J194] at h
    refine lv_iload hx hb dL_use_194 (lv_at hl 6 rfl) ?_
    refine lv_iload hx hb dL_use_196 (lv_at hl 11 rfl) ?_
    refine lv_if_eq (tgt := 208) hx hb dL_use_198 (by decide) (fun c35 => ?_) (fun c35 => ?_)
    · replace h := ite_t c35 h
      refine lv_iconst (v := 0) hx hb dL_use_208 (by decide) ?_
      exact J209 _ _ _ _ _ _ _ _ _ _ _ hN_194 H locs ls _ _ _ _ _ hW (lv_sub hl [0, 1, 2, 3, 4, 5, 7, 8, 9, 10, 11] rfl) h k0 k1 k2
    · replace h := ite_f c35 h
      refine lv_iconst (v := 1) hx hb dL_use_201 (by decide) ?_
      refine lv_iload hx hb dL_use_202 (lv_at hl 7 rfl) ?_
      refine lv_ishl hx hb dL_use_204 ?_
      refine lv_goto (tgt := 209) hx hb dL_use_205 (by decide) ?_
      exact J209 _ _ _ _ _ _ _ _ _ _ _ hN_194 H locs ls _ _ _ _ _ hW (lv_sub hl [0, 1, 2, 3, 4, 5, 7, 8, 9, 10, 11] rfl) h k0 k1 k2
  have J175 : ∀ (x_nw1_175 : Nat → Int32) (x_N_175 : Nat) (v5_175 : Int32) (v9_175 : Int32) (v10_175 : Int32) (v11_175 : Int32) (v12_175 : Int32) (v13_175 : Int32) (v14_175 : Int32) (s0_175 : Int32) (hN_175 : x_N_175 ≤ 1) (H : Heap) (locs : List Loc) (ls : Array Slot) (code : Nat) (o9j : Int32) (o10j : Int32) (o11j : Int32) (y_nw1j : Nat → Int32), Wd D A s.heap (oA T 9 a_nw1 x_nw1_175 ++ (oA T 20 a_g x_g ++ (oA T 60 a_q x_q ++ (oA T 5 a_n x_n ++ (oA T 64 a_e x_e ++ (oA T 64 a_j x_j ++ Z)))))) H locs → lv_has ls 16 [(0, .ref a_g), (1, .ref a_q), (2, .ref a_n), (5, .int v5_175), (8, .ref a_nw1), (9, .int v9_175), (10, .int v10_175), (11, .int v11_175), (12, .int v12_175), (13, .int v13_175), (14, .int v14_175)] → f_L_use_J175 x_g x_q x_n x_e x_j x_nw1_175 x_N_175 v5_175 v9_175 v10_175 v11_175 v12_175 v13_175 v14_175 s0_175 = some (code, o9j, o10j, o11j, y_nw1j) → (code = 0 → ∀ (H : Heap) (locs : List Loc) (ls : Array Slot), Wd D A s.heap (oA T 9 a_nw1 y_nw1j ++ (oA T 20 a_g x_g ++ (oA T 60 a_q x_q ++ (oA T 5 a_n x_n ++ (oA T 64 a_e x_e ++ (oA T 64 a_j x_j ++ Z)))))) H locs → lv_has ls 16 [(0, .ref a_g), (1, .ref a_q), (2, .ref a_n), (5, .int v5_175), (8, .ref a_nw1), (9, .int o9j), (10, .int o10j), (11, .int o11j)] → W p l e (rmL 1 1) s m args below meth c H locs x_N_175 (16 * x_N_175) Q (F0 m 91 ls [])) → (code = 1 → ∀ (H : Heap) (locs : List Loc) (ls : Array Slot), Wd D A s.heap (oA T 9 a_nw1 y_nw1j ++ (oA T 20 a_g x_g ++ (oA T 60 a_q x_q ++ (oA T 5 a_n x_n ++ (oA T 64 a_e x_e ++ (oA T 64 a_j x_j ++ Z)))))) H locs → lv_has ls 16 [(0, .ref a_g), (5, .int v5_175), (8, .ref a_nw1), (9, .int o9j), (10, .int o10j)] → W p l e (rmL 1 1) s m args below meth c H locs x_N_175 (16 * x_N_175) Q (F0 m 291 ls [])) → (code = 2 → ∀ (H : Heap) (locs : List Loc) (ls : Array Slot), Wd D A s.heap (oA T 9 a_nw1 y_nw1j ++ (oA T 20 a_g x_g ++ (oA T 60 a_q x_q ++ (oA T 5 a_n x_n ++ (oA T 64 a_e x_e ++ (oA T 64 a_j x_j ++ Z)))))) H locs → lv_has ls 16 [] → W p l e (rmL 1 1) s m args below meth c H locs x_N_175 (16 * x_N_175) Q (F0 m 192 ls [])) → W p l e (rmL 1 1) s m args below meth c H locs x_N_175 (16 * x_N_175) Q (F0 m 175 ls [.int s0_175]) := by
    intro x_nw1_175 x_N_175 v5_175 v9_175 v10_175 v11_175 v12_175 v13_175 v14_175 s0_175 hN_175 H locs ls code o9j o10j o11j y_nw1j hW hl h k0 k1 k2
    rw [f_L_use_J175] at h
    refine lv_istore (lv' := [(15, .int s0_175), (0, .ref a_g), (1, .ref a_q), (2, .ref a_n), (5, .int v5_175), (8, .ref a_nw1), (9, .int v9_175), (10, .int v10_175), (11, .int v11_175), (12, .int v12_175), (13, .int v13_175), (14, .int v14_175)]) hx hb dL_use_175 hl (by decide) rfl (fun ls hl => ?_)
    refine lv_iload hx hb dL_use_177 (lv_at hl 0 rfl) ?_
    refine lv_if_eq (tgt := 194) hx hb dL_use_179 (by decide) (fun c34 => ?_) (fun c34 => ?_)
    · replace h := ite_t c34 h
      exact J194 _ _ _ _ _ _ _ _ _ _ hN_175 H locs ls _ _ _ _ _ hW (lv_sub hl [1, 2, 3, 4, 5, 6, 7, 8, 9, 10, 11, 0] rfl) h k0 k1 k2
    · replace h := ite_f c34 h
      refine lv_aload_n hx hb dL_use_182 rfl (lv_at hl 2 rfl) ?_
      refine lv_iload hx hb dL_use_183 (lv_at hl 9 rfl) ?_
      refine lv_bipush (v := 9) hx hb dL_use_185 (by decide) ?_
      refine lv_iadd hx hb dL_use_187 ?_
      obtain ⟨g56, h⟩ := grd_s h
      refine g_iald hx hb hK hW 2 rfl g56 dL_use_188 ?_
      refine lv_if_ne (tgt := 194) hx hb dL_use_189 (by decide) (fun c57 => ?_) (fun c57 => ?_)
      · replace h := ite_f c57 h
        exact J194 _ _ _ _ _ _ _ _ _ _ hN_175 H locs ls _ _ _ _ _ hW (lv_sub hl [1, 2, 3, 4, 5, 6, 7, 8, 9, 10, 11, 0] rfl) h k0 k1 k2
      · replace h := ite_t c57 h
        obtain ⟨rfl, rfl, rfl, rfl, rfl⟩ := ret5 h
        exact k2 rfl H locs ls hW (lv_sub hl [] rfl)
  have J174 : ∀ (x_nw1_174 : Nat → Int32) (x_N_174 : Nat) (v5_174 : Int32) (v9_174 : Int32) (v10_174 : Int32) (v11_174 : Int32) (v12_174 : Int32) (v13_174 : Int32) (v14_174 : Int32) (hN_174 : x_N_174 ≤ 1) (H : Heap) (locs : List Loc) (ls : Array Slot) (code : Nat) (o9j : Int32) (o10j : Int32) (o11j : Int32) (y_nw1j : Nat → Int32), Wd D A s.heap (oA T 9 a_nw1 x_nw1_174 ++ (oA T 20 a_g x_g ++ (oA T 60 a_q x_q ++ (oA T 5 a_n x_n ++ (oA T 64 a_e x_e ++ (oA T 64 a_j x_j ++ Z)))))) H locs → lv_has ls 16 [(0, .ref a_g), (1, .ref a_q), (2, .ref a_n), (5, .int v5_174), (8, .ref a_nw1), (9, .int v9_174), (10, .int v10_174), (11, .int v11_174), (12, .int v12_174), (13, .int v13_174), (14, .int v14_174)] → f_L_use_J174 x_g x_q x_n x_e x_j x_nw1_174 x_N_174 v5_174 v9_174 v10_174 v11_174 v12_174 v13_174 v14_174 = some (code, o9j, o10j, o11j, y_nw1j) → (code = 0 → ∀ (H : Heap) (locs : List Loc) (ls : Array Slot), Wd D A s.heap (oA T 9 a_nw1 y_nw1j ++ (oA T 20 a_g x_g ++ (oA T 60 a_q x_q ++ (oA T 5 a_n x_n ++ (oA T 64 a_e x_e ++ (oA T 64 a_j x_j ++ Z)))))) H locs → lv_has ls 16 [(0, .ref a_g), (1, .ref a_q), (2, .ref a_n), (5, .int v5_174), (8, .ref a_nw1), (9, .int o9j), (10, .int o10j), (11, .int o11j)] → W p l e (rmL 1 1) s m args below meth c H locs x_N_174 (16 * x_N_174) Q (F0 m 91 ls [])) → (code = 1 → ∀ (H : Heap) (locs : List Loc) (ls : Array Slot), Wd D A s.heap (oA T 9 a_nw1 y_nw1j ++ (oA T 20 a_g x_g ++ (oA T 60 a_q x_q ++ (oA T 5 a_n x_n ++ (oA T 64 a_e x_e ++ (oA T 64 a_j x_j ++ Z)))))) H locs → lv_has ls 16 [(0, .ref a_g), (5, .int v5_174), (8, .ref a_nw1), (9, .int o9j), (10, .int o10j)] → W p l e (rmL 1 1) s m args below meth c H locs x_N_174 (16 * x_N_174) Q (F0 m 291 ls [])) → (code = 2 → ∀ (H : Heap) (locs : List Loc) (ls : Array Slot), Wd D A s.heap (oA T 9 a_nw1 y_nw1j ++ (oA T 20 a_g x_g ++ (oA T 60 a_q x_q ++ (oA T 5 a_n x_n ++ (oA T 64 a_e x_e ++ (oA T 64 a_j x_j ++ Z)))))) H locs → lv_has ls 16 [] → W p l e (rmL 1 1) s m args below meth c H locs x_N_174 (16 * x_N_174) Q (F0 m 192 ls [])) → W p l e (rmL 1 1) s m args below meth c H locs x_N_174 (16 * x_N_174) Q (F0 m 174 ls []) := by
    intro x_nw1_174 x_N_174 v5_174 v9_174 v10_174 v11_174 v12_174 v13_174 v14_174 hN_174 H locs ls code o9j o10j o11j y_nw1j hW hl h k0 k1 k2
    rw [f_L_use_J174] at h
    refine lv_iconst (v := 0) hx hb dL_use_174 (by decide) ?_
    exact J175 _ _ _ _ _ _ _ _ _ _ hN_174 H locs ls _ _ _ _ _ hW (lv_sub hl [0, 1, 2, 3, 4, 5, 6, 7, 8, 9, 10] rfl) h k0 k1 k2
  have L91 : ∀ (n : Nat) (x_nw1_91 : Nat → Int32) (x_N_91 : Nat) (v5_91 : Int32) (v9_91 : Int32) (v10_91 : Int32) (v11_91 : Int32) (hN_91 : x_N_91 ≤ 1) (H : Heap) (locs : List Loc) (ls : Array Slot) (code : Nat) (o9_91r : Int32) (o10_91r : Int32) (o11_91r : Int32) (y_nw1_91r : Nat → Int32), Wd D A s.heap (oA T 9 a_nw1 x_nw1_91 ++ (oA T 20 a_g x_g ++ (oA T 60 a_q x_q ++ (oA T 5 a_n x_n ++ (oA T 64 a_e x_e ++ (oA T 64 a_j x_j ++ Z)))))) H locs → lv_has ls 16 [(0, .ref a_g), (1, .ref a_q), (2, .ref a_n), (5, .int v5_91), (8, .ref a_nw1), (9, .int v9_91), (10, .int v10_91), (11, .int v11_91)] → f_L_use_L91 n x_g x_q x_n x_e x_j x_nw1_91 x_N_91 v5_91 v9_91 v10_91 v11_91 = some (code, o9_91r, o10_91r, o11_91r, y_nw1_91r) → (code = 1 → ∀ (H : Heap) (locs : List Loc) (ls : Array Slot), Wd D A s.heap (oA T 9 a_nw1 y_nw1_91r ++ (oA T 20 a_g x_g ++ (oA T 60 a_q x_q ++ (oA T 5 a_n x_n ++ (oA T 64 a_e x_e ++ (oA T 64 a_j x_j ++ Z)))))) H locs → lv_has ls 16 [(0, .ref a_g), (5, .int v5_91), (8, .ref a_nw1), (9, .int o9_91r), (10, .int o10_91r)] → W p l e (rmL 1 1) s m args below meth c H locs x_N_91 (16 * x_N_91) Q (F0 m 291 ls [])) → (code = 2 → ∀ (H : Heap) (locs : List Loc) (ls : Array Slot), Wd D A s.heap (oA T 9 a_nw1 y_nw1_91r ++ (oA T 20 a_g x_g ++ (oA T 60 a_q x_q ++ (oA T 5 a_n x_n ++ (oA T 64 a_e x_e ++ (oA T 64 a_j x_j ++ Z)))))) H locs → lv_has ls 16 [] → W p l e (rmL 1 1) s m args below meth c H locs x_N_91 (16 * x_N_91) Q (F0 m 192 ls [])) → W p l e (rmL 1 1) s m args below meth c H locs x_N_91 (16 * x_N_91) Q (F0 m 91 ls []) := by
    intro n
    induction n with
    | zero =>
      intro x_nw1_91 x_N_91 v5_91 v9_91 v10_91 v11_91 hN_91 H locs ls code o9_91r o10_91r o11_91r y_nw1_91r hW hl h k1 k2
      rw [f_L_use_L91] at h
      cases h
    | succ n ih =>
      intro x_nw1_91 x_N_91 v5_91 v9_91 v10_91 v11_91 hN_91 H locs ls code o9_91r o10_91r o11_91r y_nw1_91r hW hl h k1 k2
      rw [f_L_use_L91] at h
      refine lv_iload hx hb dL_use_91 (lv_at hl 7 rfl) ?_
      refine lv_aload_n hx hb dL_use_93 rfl (lv_at hl 2 rfl) ?_
      refine lv_iload hx hb dL_use_94 (lv_at hl 3 rfl) ?_
      obtain ⟨g23, h⟩ := grd_s h
      refine g_iald hx hb hK hW 3 rfl g23 dL_use_96 ?_
      refine lv_icmp_ge (tgt := 291) hx hb dL_use_97 (by decide) (fun c24 => ?_) (fun c24 => ?_)
      · replace h := ite_t c24 h
        obtain ⟨rfl, rfl, rfl, rfl, rfl⟩ := ret5 h
        exact k1 rfl H locs ls hW (lv_sub hl [0, 3, 4, 5, 6] rfl)
      · replace h := ite_f c24 h
        refine lv_bipush (v := 12) hx hb dL_use_100 (by decide) ?_
        refine lv_iload hx hb dL_use_102 (lv_at hl 3 rfl) ?_
        refine lv_imul hx hb dL_use_104 ?_
        refine lv_iload hx hb dL_use_105 (lv_at hl 7 rfl) ?_
        refine lv_iadd hx hb dL_use_107 ?_
        refine lv_topi (fun w12_25 ew12_25 => ?_)
        replace h := lb_at ew12_25 h
        refine lv_istore (lv' := [(12, .int w12_25), (0, .ref a_g), (1, .ref a_q), (2, .ref a_n), (5, .int v5_91), (8, .ref a_nw1), (9, .int v9_91), (10, .int v10_91), (11, .int v11_91)]) hx hb dL_use_108 hl (by decide) rfl (fun ls hl => ?_)
        refine lv_iconst (v := 3) hx hb dL_use_110 (by decide) ?_
        refine lv_aload_n hx hb dL_use_111 rfl (lv_at hl 2 rfl) ?_
        refine lv_iload hx hb dL_use_112 (lv_at hl 0 rfl) ?_
        refine lv_iconst (v := 3) hx hb dL_use_114 (by decide) ?_
        refine lv_iadd hx hb dL_use_115 ?_
        obtain ⟨g26, h⟩ := grd_s h
        refine g_iald hx hb hK hW 2 rfl g26 dL_use_116 ?_
        refine lv_imul hx hb dL_use_117 ?_
        refine lv_aload_n hx hb dL_use_118 rfl (lv_at hl 2 rfl) ?_
        refine lv_iload hx hb dL_use_119 (lv_at hl 0 rfl) ?_
        obtain ⟨g27, h⟩ := grd_s h
        refine g_iald hx hb hK hW 2 rfl g27 dL_use_121 ?_
        refine lv_iadd hx hb dL_use_122 ?_
        refine lv_topi (fun w13_28 ew13_28 => ?_)
        replace h := lb_at ew13_28 h
        refine lv_istore (lv' := [(13, .int w13_28), (12, .int w12_25), (0, .ref a_g), (1, .ref a_q), (2, .ref a_n), (5, .int v5_91), (8, .ref a_nw1), (9, .int v9_91), (10, .int v10_91), (11, .int v11_91)]) hx hb dL_use_123 hl (by decide) rfl (fun ls hl => ?_)
        refine lv_iconst (v := 3) hx hb dL_use_125 (by decide) ?_
        refine lv_aload_n hx hb dL_use_126 rfl (lv_at hl 3 rfl) ?_
        refine lv_iload hx hb dL_use_127 (lv_at hl 1 rfl) ?_
        refine lv_bipush (v := 6) hx hb dL_use_129 (by decide) ?_
        refine lv_iadd hx hb dL_use_131 ?_
        obtain ⟨g29, h⟩ := grd_s h
        refine g_iald hx hb hK hW 2 rfl g29 dL_use_132 ?_
        refine lv_imul hx hb dL_use_133 ?_
        refine lv_aload_n hx hb dL_use_134 rfl (lv_at hl 3 rfl) ?_
        refine lv_iload hx hb dL_use_135 (lv_at hl 1 rfl) ?_
        obtain ⟨g30, h⟩ := grd_s h
        refine g_iald hx hb hK hW 2 rfl g30 dL_use_137 ?_
        refine lv_iadd hx hb dL_use_138 ?_
        refine lv_topi (fun w14_31 ew14_31 => ?_)
        replace h := lb_at ew14_31 h
        refine lv_istore (lv' := [(14, .int w14_31), (13, .int w13_28), (12, .int w12_25), (0, .ref a_g), (1, .ref a_q), (2, .ref a_n), (5, .int v5_91), (8, .ref a_nw1), (9, .int v9_91), (10, .int v10_91), (11, .int v11_91)]) hx hb dL_use_139 hl (by decide) rfl (fun ls hl => ?_)
        refine lv_aload hx hb dL_use_141 (lv_at hl 7 rfl) ?_
        refine lv_iload hx hb dL_use_143 (lv_at hl 1 rfl) ?_
        obtain ⟨g32, h⟩ := grd_s h
        refine g_iald hx hb hK hW 0 rfl g32 dL_use_145 ?_
        refine lv_if_le (tgt := 174) hx hb dL_use_146 (by decide) (fun c33 => ?_) (fun c33 => ?_)
        · replace h := ite_t c33 h
          obtain ⟨code59, o9_t58, o10_t58, o11_t58, y_nw1_t58, q60, h⟩ := bnd5_s h
          refine J174 _ _ _ _ _ _ _ _ _ hN_91 H locs ls code59 o9_t58 o10_t58 o11_t58 y_nw1_t58 hW (lv_sub hl [3, 4, 5, 6, 7, 8, 9, 10, 2, 1, 0] rfl) q60 (fun hc H locs ls hW hl => ?_) (fun hc H locs ls hW hl => ?_) (fun hc H locs ls hW hl => ?_)
          · replace h := ite_t hc h
            exact ih _ _ _ _ _ _ hN_91 H locs ls _ _ _ _ _ hW (lv_sub hl [0, 1, 2, 3, 4, 5, 6, 7] rfl) h k1 k2
          · replace h := ite_f (by rw [hc]; decide) h
            obtain ⟨rfl, rfl, rfl, rfl, rfl⟩ := ret5 h
            exact k1 hc H locs ls hW hl
          · replace h := ite_f (by rw [hc]; decide) h
            obtain ⟨rfl, rfl, rfl, rfl, rfl⟩ := ret5 h
            exact k2 hc H locs ls hW hl
        · replace h := ite_f c33 h
          refine lv_aload hx hb dL_use_149 (lv_at hl 7 rfl) ?_
          refine lv_iload hx hb dL_use_151 (lv_at hl 0 rfl) ?_
          obtain ⟨g61, h⟩ := grd_s h
          refine g_iald hx hb hK hW 0 rfl g61 dL_use_153 ?_
          refine lv_if_le (tgt := 174) hx hb dL_use_154 (by decide) (fun c62 => ?_) (fun c62 => ?_)
          · replace h := ite_t c62 h
            obtain ⟨code64, o9_t63, o10_t63, o11_t63, y_nw1_t63, q65, h⟩ := bnd5_s h
            refine J174 _ _ _ _ _ _ _ _ _ hN_91 H locs ls code64 o9_t63 o10_t63 o11_t63 y_nw1_t63 hW (lv_sub hl [3, 4, 5, 6, 7, 8, 9, 10, 2, 1, 0] rfl) q65 (fun hc H locs ls hW hl => ?_) (fun hc H locs ls hW hl => ?_) (fun hc H locs ls hW hl => ?_)
            · replace h := ite_t hc h
              exact ih _ _ _ _ _ _ hN_91 H locs ls _ _ _ _ _ hW (lv_sub hl [0, 1, 2, 3, 4, 5, 6, 7] rfl) h k1 k2
            · replace h := ite_f (by rw [hc]; decide) h
              obtain ⟨rfl, rfl, rfl, rfl, rfl⟩ := ret5 h
              exact k1 hc H locs ls hW hl
            · replace h := ite_f (by rw [hc]; decide) h
              obtain ⟨rfl, rfl, rfl, rfl, rfl⟩ := ret5 h
              exact k2 hc H locs ls hW hl
          · replace h := ite_f c62 h
            refine lv_aload hx hb dL_use_157 (lv_at hl 7 rfl) ?_
            refine lv_iload hx hb dL_use_159 (lv_at hl 1 rfl) ?_
            obtain ⟨g66, h⟩ := grd_s h
            refine g_iald hx hb hK hW 0 rfl g66 dL_use_161 ?_
            refine lv_aload hx hb dL_use_162 (lv_at hl 7 rfl) ?_
            refine lv_iload hx hb dL_use_164 (lv_at hl 0 rfl) ?_
            obtain ⟨g67, h⟩ := grd_s h
            refine g_iald hx hb hK hW 0 rfl g67 dL_use_166 ?_
            refine lv_icmp_eq (tgt := 174) hx hb dL_use_167 (by decide) (fun c68 => ?_) (fun c68 => ?_)
            · replace h := ite_t c68 h
              obtain ⟨code70, o9_t69, o10_t69, o11_t69, y_nw1_t69, q71, h⟩ := bnd5_s h
              refine J174 _ _ _ _ _ _ _ _ _ hN_91 H locs ls code70 o9_t69 o10_t69 o11_t69 y_nw1_t69 hW (lv_sub hl [3, 4, 5, 6, 7, 8, 9, 10, 2, 1, 0] rfl) q71 (fun hc H locs ls hW hl => ?_) (fun hc H locs ls hW hl => ?_) (fun hc H locs ls hW hl => ?_)
              · replace h := ite_t hc h
                exact ih _ _ _ _ _ _ hN_91 H locs ls _ _ _ _ _ hW (lv_sub hl [0, 1, 2, 3, 4, 5, 6, 7] rfl) h k1 k2
              · replace h := ite_f (by rw [hc]; decide) h
                obtain ⟨rfl, rfl, rfl, rfl, rfl⟩ := ret5 h
                exact k1 hc H locs ls hW hl
              · replace h := ite_f (by rw [hc]; decide) h
                obtain ⟨rfl, rfl, rfl, rfl, rfl⟩ := ret5 h
                exact k2 hc H locs ls hW hl
            · replace h := ite_f c68 h
              refine lv_iconst (v := 1) hx hb dL_use_170 (by decide) ?_
              refine lv_goto (tgt := 175) hx hb dL_use_171 (by decide) ?_
              obtain ⟨code73, o9_t72, o10_t72, o11_t72, y_nw1_t72, q74, h⟩ := bnd5_s h
              refine J175 _ _ _ _ _ _ _ _ _ _ hN_91 H locs ls code73 o9_t72 o10_t72 o11_t72 y_nw1_t72 hW (lv_sub hl [3, 4, 5, 6, 7, 8, 9, 10, 2, 1, 0] rfl) q74 (fun hc H locs ls hW hl => ?_) (fun hc H locs ls hW hl => ?_) (fun hc H locs ls hW hl => ?_)
              · replace h := ite_t hc h
                exact ih _ _ _ _ _ _ hN_91 H locs ls _ _ _ _ _ hW (lv_sub hl [0, 1, 2, 3, 4, 5, 6, 7] rfl) h k1 k2
              · replace h := ite_f (by rw [hc]; decide) h
                obtain ⟨rfl, rfl, rfl, rfl, rfl⟩ := ret5 h
                exact k1 hc H locs ls hW hl
              · replace h := ite_f (by rw [hc]; decide) h
                obtain ⟨rfl, rfl, rfl, rfl, rfl⟩ := ret5 h
                exact k2 hc H locs ls hW hl
  have J25 : ∀ (x_nw1_25 : Nat → Int32) (x_N_25 : Nat) (v5_25 : Int32) (v6_25 : Int32) (v7_25 : Int32) (s0_25 : Int32) (s1_25 : Int32) (hN_25 : x_N_25 ≤ 1) (H : Heap) (locs : List Loc) (ls : Array Slot), Wd D A s.heap (oA T 9 a_nw1 x_nw1_25 ++ (oA T 20 a_g x_g ++ (oA T 60 a_q x_q ++ (oA T 5 a_n x_n ++ (oA T 64 a_e x_e ++ (oA T 64 a_j x_j ++ Z)))))) H locs → lv_has ls 16 [(0, .ref a_g), (1, .ref a_q), (2, .ref a_n), (3, .ref a_e), (5, .int v5_25), (6, .int v6_25), (7, .int v7_25), (8, .ref a_nw1)] → f_L_use_J25 x_g x_q x_n x_e x_j x_nw1_25 x_N_25 v5_25 v6_25 v7_25 s0_25 s1_25 = some r → W p l e (rmL 1 1) s m args below meth c H locs x_N_25 (16 * x_N_25) Q (F0 m 25 ls [.int s1_25, .int s0_25]) := by
    intro x_nw1_25 x_N_25 v5_25 v6_25 v7_25 s0_25 s1_25 hN_25 H locs ls hW hl h
    rw [f_L_use_J25] at h
    refine lv_iadd hx hb dL_use_25 ?_
    refine lv_topi (fun w9_4 ew9_4 => ?_)
    replace h := lb_at ew9_4 h
    refine lv_istore (lv' := [(9, .int w9_4), (0, .ref a_g), (1, .ref a_q), (2, .ref a_n), (3, .ref a_e), (5, .int v5_25), (6, .int v6_25), (7, .int v7_25), (8, .ref a_nw1)]) hx hb dL_use_26 hl (by decide) rfl (fun ls hl => ?_)
    refine lv_iconst (v := 0) hx hb dL_use_28 (by decide) ?_
    refine lv_istore (lv' := [(10, .int 0), (9, .int w9_4), (0, .ref a_g), (1, .ref a_q), (2, .ref a_n), (3, .ref a_e), (5, .int v5_25), (6, .int v6_25), (7, .int v7_25), (8, .ref a_nw1)]) hx hb dL_use_29 hl (by decide) rfl (fun ls hl => ?_)
    refine lv_iconst (v := 0) hx hb dL_use_31 (by decide) ?_
    refine lv_istore (lv' := [(11, .int 0), (10, .int 0), (9, .int w9_4), (0, .ref a_g), (1, .ref a_q), (2, .ref a_n), (3, .ref a_e), (5, .int v5_25), (6, .int v6_25), (7, .int v7_25), (8, .ref a_nw1)]) hx hb dL_use_32 hl (by decide) rfl (fun ls hl => ?_)
    obtain ⟨o11_u21, y_nw1_u21, q22, h⟩ := bnd2_s h
    refine L34 400 _ _ _ _ _ _ _ _ hN_25 H locs ls o11_u21 y_nw1_u21 hW (lv_sub hl [3, 4, 5, 6, 7, 8, 9, 10, 2, 1, 0] rfl) q22 (fun H locs ls hW hl => ?_)
    refine lv_iconst (v := 0) hx hb dL_use_88 (by decide) ?_
    refine lv_istore (lv' := [(11, .int 0), (0, .ref a_g), (1, .ref a_q), (2, .ref a_n), (5, .int v5_25), (8, .ref a_nw1), (9, .int w9_4), (10, .int 0)]) hx hb dL_use_89 hl (by decide) rfl (fun ls hl => ?_)
    obtain ⟨code76, o9_u75, o10_u75, o11_u75, y_nw1_u75, q77, h⟩ := bnd5_s h
    refine L91 400 _ _ _ _ _ _ hN_25 H locs ls code76 o9_u75 o10_u75 o11_u75 y_nw1_u75 hW (lv_sub hl [1, 2, 3, 4, 5, 6, 7, 0] rfl) q77 (fun hc H locs ls hW hl => ?_) (fun hc H locs ls hW hl => ?_)
    · replace h := ite_t hc h
      refine lv_ldc (v := 10000000) hx hb hown (hts _ wm39_2) dL_use_291 ?_
      refine lv_iload hx hb dL_use_293 (lv_at hl 4 rfl) ?_
      refine lv_imul hx hb dL_use_295 ?_
      refine lv_sipush (v := 10000) hx hb dL_use_296 (by decide) ?_
      refine lv_iload hx hb dL_use_299 (lv_at hl 3 rfl) ?_
      refine lv_imul hx hb dL_use_301 ?_
      refine lv_iadd hx hb dL_use_302 ?_
      refine lv_sipush (v := 1000) hx hb dL_use_303 (by decide) ?_
      refine lv_aload_n hx hb dL_use_306 rfl (lv_at hl 0 rfl) ?_
      refine lv_iconst (v := 4) hx hb dL_use_307 (by decide) ?_
      refine lv_iload hx hb dL_use_308 (lv_at hl 1 rfl) ?_
      refine lv_imul hx hb dL_use_310 ?_
      obtain ⟨g78, h⟩ := grd_s h
      refine g_iald hx hb hK hW 1 rfl g78 dL_use_311 ?_
      refine lv_imul hx hb dL_use_312 ?_
      refine lv_iadd hx hb dL_use_313 ?_
      refine lv_bipush (v := 100) hx hb dL_use_314 (by decide) ?_
      refine lv_aload hx hb dL_use_316 (lv_at hl 2 rfl) ?_
      refine lv_iconst (v := 0) hx hb dL_use_318 (by decide) ?_
      refine g_iald hx hb hK hW 0 rfl (by decide) dL_use_319 ?_
      refine lv_imul hx hb dL_use_320 ?_
      refine lv_iadd hx hb dL_use_321 ?_
      refine lv_bipush (v := 10) hx hb dL_use_322 (by decide) ?_
      refine lv_aload hx hb dL_use_324 (lv_at hl 2 rfl) ?_
      refine lv_iconst (v := 1) hx hb dL_use_326 (by decide) ?_
      refine g_iald hx hb hK hW 0 rfl (by decide) dL_use_327 ?_
      refine lv_imul hx hb dL_use_328 ?_
      refine lv_iadd hx hb dL_use_329 ?_
      refine lv_aload hx hb dL_use_330 (lv_at hl 2 rfl) ?_
      refine lv_iconst (v := 2) hx hb dL_use_332 (by decide) ?_
      refine g_iald hx hb hK hW 0 rfl (by decide) dL_use_333 ?_
      refine lv_iadd hx hb dL_use_334 ?_
      obtain rfl := ret1 h
      rw [hQ]
      replace hW := hW.tl
      refine W.widen (k := 1) (n := 16) hN_25 (Nat.mul_le_mul_left 16 hN_25) ?_
      exact g_reti hx hb hr hlk hW dL_use_335
    · replace h := ite_f (by rw [hc]; decide) h
      refine lv_iconst (v := (-1)) hx hb dL_use_192 (by decide) ?_
      obtain rfl := ret1 h
      rw [hQ]
      replace hW := hW.tl
      refine W.widen (k := 1) (n := 16) hN_25 (Nat.mul_le_mul_left 16 hN_25) ?_
      exact g_reti hx hb hr hlk hW dL_use_193
  refine lv_aload hx hb dL_use_6 (lv_at hl 5 rfl) ?_
  refine lv_iload hx hb dL_use_8 (lv_at hl 7 rfl) ?_
  obtain ⟨g1, h⟩ := grd_s h
  refine g_iald hx hb hK hW 5 rfl g1 dL_use_10 ?_
  refine lv_iload hx hb dL_use_11 (lv_at hl 8 rfl) ?_
  refine lv_if_ge (tgt := 20) hx hb dL_use_13 (by decide) (fun c2 => ?_) (fun c2 => ?_)
  · replace h := ite_t c2 h
    refine lv_aload hx hb dL_use_20 (lv_at hl 5 rfl) ?_
    refine lv_iload hx hb dL_use_22 (lv_at hl 8 rfl) ?_
    obtain ⟨g3, h⟩ := grd_s h
    refine g_iald hx hb hK hW 5 rfl g3 dL_use_24 ?_
    exact J25 _ _ _ _ _ _ _ (Nat.le_of_ble_eq_true rfl) H locs ls hW (lv_sub hl [1, 2, 3, 4, 6, 7, 8, 0] rfl) h
  · replace h := ite_f c2 h
    refine lv_iconst (v := 0) hx hb dL_use_16 (by decide) ?_
    refine lv_goto (tgt := 25) hx hb dL_use_17 (by decide) ?_
    exact J25 _ _ _ _ _ _ _ (Nat.le_of_ble_eq_true rfl) H locs ls hW (lv_sub hl [1, 2, 3, 4, 6, 7, 8, 0] rfl) h
set_option maxHeartbeats 16000000 in
set_option maxRecDepth 100000 in
theorem c_L_lays (l : Launch) (D : va_G) (T : Nat → ClassId) (A : Nat → Prop) (a_c : Nat) (a_e : Nat) (a_j : Nat) (a_a : Nat) (a_b : Nat) (a_m : Nat) (Z : va_W) (x_c : Nat → Int32) (x_e : Nat → Int32) (x_j : Nat → Int32) (x_a : Nat → Int32) (x_b : Nat → Int32) (x_m : Nat → Int32) (p7 : Int32) (p8 : Int32) (p9 : Int32) (p10 : Int32) (x_c9 : Nat → Int32) (x_e9 : Nat → Int32) (x_j9 : Nat → Int32) (x_a9 : Nat → Int32) (x_b9 : Nat → Int32) (x_m9 : Nat → Int32) (h : f_L_lays x_c x_e x_j x_a x_b x_m p7 p8 p9 p10 = some (x_c9, x_e9, x_j9, x_a9, x_b9, x_m9)) : Met l yL_lays (Cond.code yL_lays cL_lays 12 none :: wsL_law) (rmL 0 0) (Pl D T A (oA T 12 a_c x_c ++ (oA T 64 a_e x_e ++ (oA T 64 a_j x_j ++ (oA T 64 a_a x_a ++ (oA T 48 a_b x_b ++ (oA T 6 a_m x_m ++ Z)))))) [.ref a_c, .ref a_e, .ref a_j, .ref a_a, .ref a_b, .ref a_m, .int p7, .int p8, .int p9, .int p10]) (Qgv D A (oA T 12 a_c x_c9 ++ (oA T 64 a_e x_e9 ++ (oA T 64 a_j x_j9 ++ (oA T 64 a_a x_a9 ++ (oA T 48 a_b x_b9 ++ (oA T 6 a_m x_m9 ++ Z))))))) 0 0 A := by
  refine Met.ofW (cc := cL_lays) (maxL := 12) (ret := none) (by decide +kernel) rfl ?_
  intro p e s m args below meth c s₁ B hml hv
  obtain ⟨ha, hP, hK, hD, hN, hE, hC, hA⟩ := hv
  have hx := B.exec
  have hb := B.bytes
  have hr := B.returns
  have hlk := B.notSynchronized
  have hts : ∀ w ∈ wsL_law, w.before args s = true := fun w hw => atoms_spec B.pre w (List.mem_cons_of_mem _ hw)
  have hown : s.vm.findClass RL = some m.cls := findClass_of_methodNamed B.named
  have hW : Wd D A s.heap (oA T 12 a_c x_c ++ (oA T 64 a_e x_e ++ (oA T 64 a_j x_j ++ (oA T 64 a_a x_a ++ (oA T 48 a_b x_b ++ (oA T 6 a_m x_m ++ Z)))))) s.heap [] := ⟨hP, hD, va_S.rf⟩
  have hl := lv_entry [.ref a_c, .ref a_e, .ref a_j, .ref a_a, .ref a_b, .ref a_m, .int p7, .int p8, .int p9, .int p10] (n := 12) (Nat.le_of_ble_eq_true rfl)
  refine W.eq (en_eq ha) ?_
  generalize (lg_sl [.ref a_c, .ref a_e, .ref a_j, .ref a_a, .ref a_b, .ref a_m, .int p7, .int p8, .int p9, .int p10] ++ List.replicate (12 - (lg_sl [.ref a_c, .ref a_e, .ref a_j, .ref a_a, .ref a_b, .ref a_m, .int p7, .int p8, .int p9, .int p10]).length) Slot.unset).toArray = ls at hl ⊢
  have hl : lv_has ls 12 [(0, .ref a_c), (1, .ref a_e), (2, .ref a_j), (3, .ref a_a), (4, .ref a_b), (5, .ref a_m), (6, .int p7), (7, .int p8), (8, .int p9), (9, .int p10)] := hl
  clear hP hD B ha
  obtain ⟨Q, hQ⟩ : ∃ Q, Q = MQ below (Qgv D A (oA T 12 a_c x_c9 ++ (oA T 64 a_e x_e9 ++ (oA T 64 a_j x_j9 ++ (oA T 64 a_a x_a9 ++ (oA T 48 a_b x_b9 ++ (oA T 6 a_m x_m9 ++ Z))))))) args s 0 0 A := ⟨_, rfl⟩
  rw [← hQ]
  change W p l e (rmL 0 0) s m args below meth c s.heap [] 0 0 Q (F0 m 0 ls [])
  rw [f_L_lays] at h
  suffices hm : ∀ (H : Heap) (locs : List Loc), Wd D A s.heap (oA T 12 a_c x_c ++ (oA T 64 a_e x_e ++ (oA T 64 a_j x_j ++ (oA T 64 a_a x_a ++ (oA T 48 a_b x_b ++ (oA T 6 a_m x_m ++ Z)))))) H locs → W p l e (rmL 0 0) s m args below meth c H locs 0 0 Q (F0 m 0 ls []) from hm _ _ hW
  clear hW
  intro H locs hW
  have L10 : ∀ (n : Nat) (x_c_10 : Nat → Int32) (x_e_10 : Nat → Int32) (x_j_10 : Nat → Int32) (x_a_10 : Nat → Int32) (x_b_10 : Nat → Int32) (x_m_10 : Nat → Int32) (v6_10 : Int32) (v7_10 : Int32) (v8_10 : Int32) (v9_10 : Int32) (v10_10 : Int32) (v11_10 : Int32) (H : Heap) (locs : List Loc) (ls : Array Slot) (o10_10r : Int32) (o11_10r : Int32), Wd D A s.heap (oA T 12 a_c x_c_10 ++ (oA T 64 a_e x_e_10 ++ (oA T 64 a_j x_j_10 ++ (oA T 64 a_a x_a_10 ++ (oA T 48 a_b x_b_10 ++ (oA T 6 a_m x_m_10 ++ Z)))))) H locs → lv_has ls 12 [(0, .ref a_c), (1, .ref a_e), (2, .ref a_j), (3, .ref a_a), (4, .ref a_b), (5, .ref a_m), (6, .int v6_10), (7, .int v7_10), (8, .int v8_10), (9, .int v9_10), (10, .int v10_10), (11, .int v11_10)] → f_L_lays_L10 n x_c_10 x_e_10 x_j_10 x_a_10 x_b_10 x_m_10 v6_10 v7_10 v8_10 v9_10 v10_10 v11_10 = some (o10_10r, o11_10r) → (∀ (H : Heap) (locs : List Loc) (ls : Array Slot), Wd D A s.heap (oA T 12 a_c x_c_10 ++ (oA T 64 a_e x_e_10 ++ (oA T 64 a_j x_j_10 ++ (oA T 64 a_a x_a_10 ++ (oA T 48 a_b x_b_10 ++ (oA T 6 a_m x_m_10 ++ Z)))))) H locs → lv_has ls 12 [(0, .ref a_c), (1, .ref a_e), (2, .ref a_j), (3, .ref a_a), (4, .ref a_b), (5, .ref a_m), (6, .int v6_10), (7, .int v7_10), (8, .int v8_10), (9, .int v9_10), (10, .int o10_10r)] → W p l e (rmL 0 0) s m args below meth c H locs 0 0 Q (F0 m 63 ls [])) → W p l e (rmL 0 0) s m args below meth c H locs 0 0 Q (F0 m 10 ls []) := by
    intro n
    induction n with
    | zero =>
      intro x_c_10 x_e_10 x_j_10 x_a_10 x_b_10 x_m_10 v6_10 v7_10 v8_10 v9_10 v10_10 v11_10 H locs ls o10_10r o11_10r hW hl h k1
      rw [f_L_lays_L10] at h
      cases h
    | succ n ih =>
      intro x_c_10 x_e_10 x_j_10 x_a_10 x_b_10 x_m_10 v6_10 v7_10 v8_10 v9_10 v10_10 v11_10 H locs ls o10_10r o11_10r hW hl h k1
      rw [f_L_lays_L10] at h
      refine lv_iload hx hb dL_lays_10 (lv_at hl 11 rfl) ?_
      refine lv_aload hx hb dL_lays_12 (lv_at hl 5 rfl) ?_
      refine lv_iload hx hb dL_lays_14 (lv_at hl 6 rfl) ?_
      obtain ⟨g3, h⟩ := grd_s h
      refine g_iald hx hb hK hW 5 rfl g3 dL_lays_16 ?_
      refine lv_icmp_ge (tgt := 63) hx hb dL_lays_17 (by decide) (fun c4 => ?_) (fun c4 => ?_)
      · replace h := ite_t c4 h
        obtain ⟨rfl, rfl⟩ := ret2 h
        exact k1 H locs ls hW (lv_sub hl [0, 1, 2, 3, 4, 5, 6, 7, 8, 9, 10] rfl)
      · replace h := ite_f c4 h
        refine lv_iload hx hb dL_lays_20 (lv_at hl 10 rfl) ?_
        refine lv_aload hx hb dL_lays_22 (lv_at hl 5 rfl) ?_
        refine lv_iload hx hb dL_lays_24 (lv_at hl 6 rfl) ?_
        obtain ⟨g5, h⟩ := grd_s h
        refine g_iald hx hb hK hW 5 rfl g5 dL_lays_26 ?_
        refine lv_icmp_ne (tgt := 53) hx hb dL_lays_27 (by decide) (fun c6 => ?_) (fun c6 => ?_)
        · replace h := ite_f c6 h
          refine lv_iload hx hb dL_lays_53 (lv_at hl 10 rfl) ?_
          refine lv_istore (lv' := [(10, .int v10_10), (0, .ref a_c), (1, .ref a_e), (2, .ref a_j), (3, .ref a_a), (4, .ref a_b), (5, .ref a_m), (6, .int v6_10), (7, .int v7_10), (8, .int v8_10), (9, .int v9_10), (11, .int v11_10)]) hx hb dL_lays_55 hl (by decide) rfl (fun ls hl => ?_)
          obtain ⟨w11_7, ew11_7⟩ : ∃ y : Int32, y = v11_10 + 1 := ⟨_, rfl⟩
          replace h := lb_at ew11_7 h
          refine lv_iinc (v := w11_7) (lv' := [(11, .int w11_7), (10, .int v10_10), (0, .ref a_c), (1, .ref a_e), (2, .ref a_j), (3, .ref a_a), (4, .ref a_b), (5, .ref a_m), (6, .int v6_10), (7, .int v7_10), (8, .int v8_10), (9, .int v9_10)]) hx hb dL_lays_57 hl (k := 11) rfl (by rw [ew11_7]; rfl) (by decide) rfl (fun ls hl => ?_)
          refine lv_goto (tgt := 10) hx hb dL_lays_60 (by decide) ?_
          exact ih _ _ _ _ _ _ _ _ _ _ _ _ H locs ls _ _ hW (lv_sub hl [2, 3, 4, 5, 6, 7, 8, 9, 10, 11, 1, 0] rfl) h k1
        · replace h := ite_t c6 h
          refine lv_aload_n hx hb dL_lays_30 rfl (lv_at hl 1 rfl) ?_
          refine lv_aload hx hb dL_lays_31 (lv_at hl 4 rfl) ?_
          refine lv_bipush (v := 8) hx hb dL_lays_33 (by decide) ?_
          refine lv_iload hx hb dL_lays_35 (lv_at hl 6 rfl) ?_
          refine lv_imul hx hb dL_lays_37 ?_
          refine lv_iload hx hb dL_lays_38 (lv_at hl 11 rfl) ?_
          refine lv_iadd hx hb dL_lays_40 ?_
          obtain ⟨g8, h⟩ := grd_s h
          refine g_iald hx hb hK hW 4 rfl g8 dL_lays_41 ?_
          obtain ⟨g9, h⟩ := grd_s h
          refine g_iald hx hb hK hW 1 rfl g9 dL_lays_42 ?_
          refine lv_iload hx hb dL_lays_43 (lv_at hl 7 rfl) ?_
          refine lv_icmp_ne (tgt := 53) hx hb dL_lays_45 (by decide) (fun c10 => ?_) (fun c10 => ?_)
          · replace h := ite_f c10 h
            refine lv_iload hx hb dL_lays_53 (lv_at hl 10 rfl) ?_
            refine lv_istore (lv' := [(10, .int v10_10), (0, .ref a_c), (1, .ref a_e), (2, .ref a_j), (3, .ref a_a), (4, .ref a_b), (5, .ref a_m), (6, .int v6_10), (7, .int v7_10), (8, .int v8_10), (9, .int v9_10), (11, .int v11_10)]) hx hb dL_lays_55 hl (by decide) rfl (fun ls hl => ?_)
            obtain ⟨w11_11, ew11_11⟩ : ∃ y : Int32, y = v11_10 + 1 := ⟨_, rfl⟩
            replace h := lb_at ew11_11 h
            refine lv_iinc (v := w11_11) (lv' := [(11, .int w11_11), (10, .int v10_10), (0, .ref a_c), (1, .ref a_e), (2, .ref a_j), (3, .ref a_a), (4, .ref a_b), (5, .ref a_m), (6, .int v6_10), (7, .int v7_10), (8, .int v8_10), (9, .int v9_10)]) hx hb dL_lays_57 hl (k := 11) rfl (by rw [ew11_11]; rfl) (by decide) rfl (fun ls hl => ?_)
            refine lv_goto (tgt := 10) hx hb dL_lays_60 (by decide) ?_
            exact ih _ _ _ _ _ _ _ _ _ _ _ _ H locs ls _ _ hW (lv_sub hl [2, 3, 4, 5, 6, 7, 8, 9, 10, 11, 1, 0] rfl) h k1
          · replace h := ite_t c10 h
            refine lv_iload hx hb dL_lays_48 (lv_at hl 11 rfl) ?_
            refine lv_goto (tgt := 55) hx hb dL_lays_50 (by decide) ?_
            refine lv_istore (lv' := [(10, .int v11_10), (0, .ref a_c), (1, .ref a_e), (2, .ref a_j), (3, .ref a_a), (4, .ref a_b), (5, .ref a_m), (6, .int v6_10), (7, .int v7_10), (8, .int v8_10), (9, .int v9_10), (11, .int v11_10)]) hx hb dL_lays_55 hl (by decide) rfl (fun ls hl => ?_)
            obtain ⟨w11_12, ew11_12⟩ : ∃ y : Int32, y = v11_10 + 1 := ⟨_, rfl⟩
            replace h := lb_at ew11_12 h
            refine lv_iinc (v := w11_12) (lv' := [(11, .int w11_12), (10, .int v11_10), (0, .ref a_c), (1, .ref a_e), (2, .ref a_j), (3, .ref a_a), (4, .ref a_b), (5, .ref a_m), (6, .int v6_10), (7, .int v7_10), (8, .int v8_10), (9, .int v9_10)]) hx hb dL_lays_57 hl (k := 11) rfl (by rw [ew11_12]; rfl) (by decide) rfl (fun ls hl => ?_)
            refine lv_goto (tgt := 10) hx hb dL_lays_60 (by decide) ?_
            exact ih _ _ _ _ _ _ _ _ _ _ _ _ H locs ls _ _ hW (lv_sub hl [2, 3, 4, 5, 6, 7, 8, 9, 10, 11, 1, 0] rfl) h k1
  have J135 : ∀ (x_c_135 : Nat → Int32) (x_e_135 : Nat → Int32) (x_j_135 : Nat → Int32) (x_a_135 : Nat → Int32) (x_b_135 : Nat → Int32) (x_m_135 : Nat → Int32) (v6_135 : Int32) (v7_135 : Int32) (v8_135 : Int32) (v9_135 : Int32) (v10_135 : Int32) (s1_135 : Int32) (s2_135 : Int32) (s3_135 : Int32) (H : Heap) (locs : List Loc) (ls : Array Slot), Wd D A s.heap (oA T 12 a_c x_c_135 ++ (oA T 64 a_e x_e_135 ++ (oA T 64 a_j x_j_135 ++ (oA T 64 a_a x_a_135 ++ (oA T 48 a_b x_b_135 ++ (oA T 6 a_m x_m_135 ++ Z)))))) H locs → lv_has ls 12 [(0, .ref a_c), (1, .ref a_e), (2, .ref a_j), (3, .ref a_a), (4, .ref a_b), (6, .int v6_135), (7, .int v7_135), (8, .int v8_135), (9, .int v9_135), (10, .int v10_135)] → f_L_lays_J135 x_c_135 x_e_135 x_j_135 x_a_135 x_b_135 x_m_135 v6_135 v7_135 v8_135 v9_135 v10_135 s1_135 s2_135 s3_135 = some (x_c9, x_e9, x_j9, x_a9, x_b9, x_m9) → W p l e (rmL 0 0) s m args below meth c H locs 0 0 Q (F0 m 135 ls [.int s3_135, .int s2_135, .int s1_135, .ref a_m]) := by
    intro x_c_135 x_e_135 x_j_135 x_a_135 x_b_135 x_m_135 v6_135 v7_135 v8_135 v9_135 v10_135 s1_135 s2_135 s3_135 H locs ls hW hl h
    rw [f_L_lays_J135] at h
    refine lv_iadd hx hb dL_lays_135 ?_
    obtain ⟨g22, h⟩ := grd_s h
    refine g_iast (ws9 := oA T 12 a_c x_c_135 ++ (oA T 64 a_e x_e_135 ++ (oA T 64 a_j x_j_135 ++ (oA T 64 a_a x_a_135 ++ (oA T 48 a_b x_b_135 ++ (oA T 6 a_m (upd x_m_135 s1_135.toNatClampNeg (s2_135 + s3_135)) ++ Z)))))) hx hb hK hW 5 rfl g22 rfl dL_lays_136 (fun H locs hW => ?_)
    obtain ⟨x_m23, ex_m23⟩ : ∃ y : Nat → Int32, y = upd x_m_135 s1_135.toNatClampNeg (s2_135 + s3_135) := ⟨_, rfl⟩
    rw [← ex_m23] at hW
    replace h := lb_at ex_m23 h
    refine lv_aload hx hb dL_lays_137 (lv_at hl 4 rfl) ?_
    refine lv_bipush (v := 8) hx hb dL_lays_139 (by decide) ?_
    refine lv_iload hx hb dL_lays_141 (lv_at hl 5 rfl) ?_
    refine lv_imul hx hb dL_lays_143 ?_
    refine lv_iload hx hb dL_lays_144 (lv_at hl 9 rfl) ?_
    refine lv_iadd hx hb dL_lays_146 ?_
    refine lv_aload_n hx hb dL_lays_147 rfl (lv_at hl 0 rfl) ?_
    refine lv_bipush (v := 6) hx hb dL_lays_148 (by decide) ?_
    refine g_iald hx hb hK hW 0 rfl (by decide) dL_lays_150 ?_
    obtain ⟨g24, h⟩ := grd_s h
    refine g_iast (ws9 := oA T 12 a_c x_c_135 ++ (oA T 64 a_e x_e_135 ++ (oA T 64 a_j x_j_135 ++ (oA T 64 a_a x_a_135 ++ (oA T 48 a_b (upd x_b_135 ((8 * v6_135) + v10_135).toNatClampNeg (x_c_135 (6 : Int32).toNatClampNeg)) ++ (oA T 6 a_m x_m23 ++ Z)))))) hx hb hK hW 4 rfl g24 rfl dL_lays_151 (fun H locs hW => ?_)
    obtain ⟨x_b25, ex_b25⟩ : ∃ y : Nat → Int32, y = upd x_b_135 ((8 * v6_135) + v10_135).toNatClampNeg (x_c_135 (6 : Int32).toNatClampNeg) := ⟨_, rfl⟩
    rw [← ex_b25] at hW
    replace h := lb_at ex_b25 h
    refine lv_aload_n hx hb dL_lays_152 rfl (lv_at hl 1 rfl) ?_
    refine lv_aload_n hx hb dL_lays_153 rfl (lv_at hl 0 rfl) ?_
    refine lv_bipush (v := 6) hx hb dL_lays_154 (by decide) ?_
    refine g_iald hx hb hK hW 0 rfl (by decide) dL_lays_156 ?_
    refine lv_iload hx hb dL_lays_157 (lv_at hl 6 rfl) ?_
    obtain ⟨g26, h⟩ := grd_s h
    refine g_iast (ws9 := oA T 12 a_c x_c_135 ++ (oA T 64 a_e (upd x_e_135 (x_c_135 (6 : Int32).toNatClampNeg).toNatClampNeg v7_135) ++ (oA T 64 a_j x_j_135 ++ (oA T 64 a_a x_a_135 ++ (oA T 48 a_b x_b25 ++ (oA T 6 a_m x_m23 ++ Z)))))) hx hb hK hW 1 rfl g26 rfl dL_lays_159 (fun H locs hW => ?_)
    obtain ⟨x_e27, ex_e27⟩ : ∃ y : Nat → Int32, y = upd x_e_135 (x_c_135 (6 : Int32).toNatClampNeg).toNatClampNeg v7_135 := ⟨_, rfl⟩
    rw [← ex_e27] at hW
    replace h := lb_at ex_e27 h
    refine lv_aload_n hx hb dL_lays_160 rfl (lv_at hl 2 rfl) ?_
    refine lv_aload_n hx hb dL_lays_161 rfl (lv_at hl 0 rfl) ?_
    refine lv_bipush (v := 6) hx hb dL_lays_162 (by decide) ?_
    refine g_iald hx hb hK hW 0 rfl (by decide) dL_lays_164 ?_
    refine lv_iload hx hb dL_lays_165 (lv_at hl 7 rfl) ?_
    obtain ⟨g28, h⟩ := grd_s h
    refine g_iast (ws9 := oA T 12 a_c x_c_135 ++ (oA T 64 a_e x_e27 ++ (oA T 64 a_j (upd x_j_135 (x_c_135 (6 : Int32).toNatClampNeg).toNatClampNeg v8_135) ++ (oA T 64 a_a x_a_135 ++ (oA T 48 a_b x_b25 ++ (oA T 6 a_m x_m23 ++ Z)))))) hx hb hK hW 2 rfl g28 rfl dL_lays_167 (fun H locs hW => ?_)
    obtain ⟨x_j29, ex_j29⟩ : ∃ y : Nat → Int32, y = upd x_j_135 (x_c_135 (6 : Int32).toNatClampNeg).toNatClampNeg v8_135 := ⟨_, rfl⟩
    rw [← ex_j29] at hW
    replace h := lb_at ex_j29 h
    refine lv_aload_n hx hb dL_lays_168 rfl (lv_at hl 3 rfl) ?_
    refine lv_aload_n hx hb dL_lays_169 rfl (lv_at hl 0 rfl) ?_
    refine lv_bipush (v := 6) hx hb dL_lays_170 (by decide) ?_
    refine g_iald hx hb hK hW 0 rfl (by decide) dL_lays_172 ?_
    refine lv_iload hx hb dL_lays_173 (lv_at hl 8 rfl) ?_
    obtain ⟨g30, h⟩ := grd_s h
    refine g_iast (ws9 := oA T 12 a_c x_c_135 ++ (oA T 64 a_e x_e27 ++ (oA T 64 a_j x_j29 ++ (oA T 64 a_a (upd x_a_135 (x_c_135 (6 : Int32).toNatClampNeg).toNatClampNeg v9_135) ++ (oA T 48 a_b x_b25 ++ (oA T 6 a_m x_m23 ++ Z)))))) hx hb hK hW 3 rfl g30 rfl dL_lays_175 (fun H locs hW => ?_)
    obtain ⟨x_a31, ex_a31⟩ : ∃ y : Nat → Int32, y = upd x_a_135 (x_c_135 (6 : Int32).toNatClampNeg).toNatClampNeg v9_135 := ⟨_, rfl⟩
    rw [← ex_a31] at hW
    replace h := lb_at ex_a31 h
    refine lv_aload_n hx hb dL_lays_176 rfl (lv_at hl 0 rfl) ?_
    refine lv_bipush (v := 6) hx hb dL_lays_177 (by decide) ?_
    refine lv_dup2_11 hx hb dL_lays_179 rfl rfl ?_
    refine g_iald hx hb hK hW 0 rfl (by decide) dL_lays_180 ?_
    refine lv_iconst (v := 1) hx hb dL_lays_181 (by decide) ?_
    refine lv_iadd hx hb dL_lays_182 ?_
    refine g_iast (ws9 := oA T 12 a_c (upd x_c_135 (6 : Int32).toNatClampNeg ((x_c_135 (6 : Int32).toNatClampNeg) + 1)) ++ (oA T 64 a_e x_e27 ++ (oA T 64 a_j x_j29 ++ (oA T 64 a_a x_a31 ++ (oA T 48 a_b x_b25 ++ (oA T 6 a_m x_m23 ++ Z)))))) hx hb hK hW 0 rfl (by decide) rfl dL_lays_183 (fun H locs hW => ?_)
    obtain ⟨x_c32, ex_c32⟩ : ∃ y : Nat → Int32, y = upd x_c_135 (6 : Int32).toNatClampNeg ((x_c_135 (6 : Int32).toNatClampNeg) + 1) := ⟨_, rfl⟩
    rw [← ex_c32] at hW
    replace h := lb_at ex_c32 h
    obtain ⟨rfl, rfl, rfl, rfl, rfl, rfl⟩ := ret6 h
    rw [hQ]
    exact g_retv hx hb hr hlk hW dL_lays_184
  have J99 : ∀ (x_c_99 : Nat → Int32) (x_e_99 : Nat → Int32) (x_j_99 : Nat → Int32) (x_a_99 : Nat → Int32) (x_b_99 : Nat → Int32) (x_m_99 : Nat → Int32) (v6_99 : Int32) (v7_99 : Int32) (v8_99 : Int32) (v9_99 : Int32) (v10_99 : Int32) (H : Heap) (locs : List Loc) (ls : Array Slot), Wd D A s.heap (oA T 12 a_c x_c_99 ++ (oA T 64 a_e x_e_99 ++ (oA T 64 a_j x_j_99 ++ (oA T 64 a_a x_a_99 ++ (oA T 48 a_b x_b_99 ++ (oA T 6 a_m x_m_99 ++ Z)))))) H locs → lv_has ls 12 [(0, .ref a_c), (1, .ref a_e), (2, .ref a_j), (3, .ref a_a), (4, .ref a_b), (5, .ref a_m), (6, .int v6_99), (7, .int v7_99), (8, .int v8_99), (9, .int v9_99), (10, .int v10_99)] → f_L_lays_J99 x_c_99 x_e_99 x_j_99 x_a_99 x_b_99 x_m_99 v6_99 v7_99 v8_99 v9_99 v10_99 = some (x_c9, x_e9, x_j9, x_a9, x_b9, x_m9) → W p l e (rmL 0 0) s m args below meth c H locs 0 0 Q (F0 m 99 ls []) := by
    intro x_c_99 x_e_99 x_j_99 x_a_99 x_b_99 x_m_99 v6_99 v7_99 v8_99 v9_99 v10_99 H locs ls hW hl h
    rw [f_L_lays_J99] at h
    refine lv_aload_n hx hb dL_lays_99 rfl (lv_at hl 0 rfl) ?_
    refine lv_bipush (v := 6) hx hb dL_lays_100 (by decide) ?_
    refine g_iald hx hb hK hW 0 rfl (by decide) dL_lays_102 ?_
    refine lv_bipush (v := 64) hx hb dL_lays_103 (by decide) ?_
    refine lv_icmp_ne (tgt := 114) hx hb dL_lays_105 (by decide) (fun c18 => ?_) (fun c18 => ?_)
    · replace h := ite_f c18 h
      refine lv_aload hx hb dL_lays_114 (lv_at hl 5 rfl) ?_
      refine lv_iload hx hb dL_lays_116 (lv_at hl 6 rfl) ?_
      refine lv_dup2_11 hx hb dL_lays_118 rfl rfl ?_
      obtain ⟨g19, h⟩ := grd_s h
      refine g_iald hx hb hK hW 5 rfl g19 dL_lays_119 ?_
      refine lv_iload hx hb dL_lays_120 (lv_at hl 10 rfl) ?_
      refine lv_aload hx hb dL_lays_122 (lv_at hl 5 rfl) ?_
      refine lv_iload hx hb dL_lays_124 (lv_at hl 6 rfl) ?_
      obtain ⟨g20, h⟩ := grd_s h
      refine g_iald hx hb hK hW 5 rfl g20 dL_lays_126 ?_
      refine lv_icmp_ne (tgt := 134) hx hb dL_lays_127 (by decide) (fun c21 => ?_) (fun c21 => ?_)
      · replace h := ite_f c21 h
        refine lv_iconst (v := 0) hx hb dL_lays_134 (by decide) ?_
        exact J135 _ _ _ _ _ _ _ _ _ _ _ _ _ _ H locs ls hW (lv_sub hl [0, 1, 2, 3, 4, 6, 7, 8, 9, 10] rfl) h
      · replace h := ite_t c21 h
        refine lv_iconst (v := 1) hx hb dL_lays_130 (by decide) ?_
        refine lv_goto (tgt := 135) hx hb dL_lays_131 (by decide) ?_
        exact J135 _ _ _ _ _ _ _ _ _ _ _ _ _ _ H locs ls hW (lv_sub hl [0, 1, 2, 3, 4, 6, 7, 8, 9, 10] rfl) h
    · replace h := ite_t c18 h
      refine lv_aload_n hx hb dL_lays_108 rfl (lv_at hl 0 rfl) ?_
      refine lv_bipush (v := 7) hx hb dL_lays_109 (by decide) ?_
      refine lv_iconst (v := 1) hx hb dL_lays_111 (by decide) ?_
      refine g_iast (ws9 := oA T 12 a_c (upd x_c_99 (7 : Int32).toNatClampNeg 1) ++ (oA T 64 a_e x_e_99 ++ (oA T 64 a_j x_j_99 ++ (oA T 64 a_a x_a_99 ++ (oA T 48 a_b x_b_99 ++ (oA T 6 a_m x_m_99 ++ Z)))))) hx hb hK hW 0 rfl (by decide) rfl dL_lays_112 (fun H locs hW => ?_)
      obtain ⟨x_c33, ex_c33⟩ : ∃ y : Nat → Int32, y = upd x_c_99 (7 : Int32).toNatClampNeg 1 := ⟨_, rfl⟩
      rw [← ex_c33] at hW
      replace h := lb_at ex_c33 h
      obtain ⟨rfl, rfl, rfl, rfl, rfl, rfl⟩ := ret6 h
      rw [hQ]
      exact g_retv hx hb hr hlk hW dL_lays_113
  refine lv_aload hx hb dL_lays_0 (lv_at hl 5 rfl) ?_
  refine lv_iload hx hb dL_lays_2 (lv_at hl 6 rfl) ?_
  obtain ⟨g1, h⟩ := grd_s h
  refine g_iald hx hb hK hW 5 rfl g1 dL_lays_4 ?_
  refine lv_topi (fun w10_2 ew10_2 => ?_)
  replace h := lb_at ew10_2 h
  refine lv_istore (lv' := [(10, .int w10_2), (0, .ref a_c), (1, .ref a_e), (2, .ref a_j), (3, .ref a_a), (4, .ref a_b), (5, .ref a_m), (6, .int p7), (7, .int p8), (8, .int p9), (9, .int p10)]) hx hb dL_lays_5 hl (by decide) rfl (fun ls hl => ?_)
  refine lv_iconst (v := 0) hx hb dL_lays_7 (by decide) ?_
  refine lv_istore (lv' := [(11, .int 0), (10, .int w10_2), (0, .ref a_c), (1, .ref a_e), (2, .ref a_j), (3, .ref a_a), (4, .ref a_b), (5, .ref a_m), (6, .int p7), (7, .int p8), (8, .int p9), (9, .int p10)]) hx hb dL_lays_8 hl (by decide) rfl (fun ls hl => ?_)
  obtain ⟨o10_u13, o11_u13, q14, h⟩ := bnd2_s h
  refine L10 400 _ _ _ _ _ _ _ _ _ _ _ _ H locs ls o10_u13 o11_u13 hW (lv_sub hl [2, 3, 4, 5, 6, 7, 8, 9, 10, 11, 1, 0] rfl) q14 (fun H locs ls hW hl => ?_)
  refine lv_iload hx hb dL_lays_63 (lv_at hl 10 rfl) ?_
  refine lv_bipush (v := 8) hx hb dL_lays_65 (by decide) ?_
  refine lv_icmp_eq (tgt := 98) hx hb dL_lays_67 (by decide) (fun c15 => ?_) (fun c15 => ?_)
  · replace h := ite_t c15 h
    obtain ⟨rfl, rfl, rfl, rfl, rfl, rfl⟩ := ret6 h
    rw [hQ]
    exact g_retv hx hb hr hlk hW dL_lays_98
  · replace h := ite_f c15 h
    refine lv_iload hx hb dL_lays_70 (lv_at hl 10 rfl) ?_
    refine lv_aload hx hb dL_lays_72 (lv_at hl 5 rfl) ?_
    refine lv_iload hx hb dL_lays_74 (lv_at hl 6 rfl) ?_
    obtain ⟨g16, h⟩ := grd_s h
    refine g_iald hx hb hK hW 5 rfl g16 dL_lays_76 ?_
    refine lv_icmp_ge (tgt := 99) hx hb dL_lays_77 (by decide) (fun c17 => ?_) (fun c17 => ?_)
    · replace h := ite_t c17 h
      exact J99 _ _ _ _ _ _ _ _ _ _ _ H locs ls hW (lv_sub hl [0, 1, 2, 3, 4, 5, 6, 7, 8, 9, 10] rfl) h
    · replace h := ite_f c17 h
      refine lv_aload_n hx hb dL_lays_80 rfl (lv_at hl 2 rfl) ?_
      refine lv_aload hx hb dL_lays_81 (lv_at hl 4 rfl) ?_
      refine lv_bipush (v := 8) hx hb dL_lays_83 (by decide) ?_
      refine lv_iload hx hb dL_lays_85 (lv_at hl 6 rfl) ?_
      refine lv_imul hx hb dL_lays_87 ?_
      refine lv_iload hx hb dL_lays_88 (lv_at hl 10 rfl) ?_
      refine lv_iadd hx hb dL_lays_90 ?_
      obtain ⟨g34, h⟩ := grd_s h
      refine g_iald hx hb hK hW 4 rfl g34 dL_lays_91 ?_
      obtain ⟨g35, h⟩ := grd_s h
      refine g_iald hx hb hK hW 2 rfl g35 dL_lays_92 ?_
      refine lv_iload hx hb dL_lays_93 (lv_at hl 8 rfl) ?_
      refine lv_icmp_gt (tgt := 99) hx hb dL_lays_95 (by decide) (fun c36 => ?_) (fun c36 => ?_)
      · replace h := ite_t c36 h
        exact J99 _ _ _ _ _ _ _ _ _ _ _ H locs ls hW (lv_sub hl [0, 1, 2, 3, 4, 5, 6, 7, 8, 9, 10] rfl) h
      · replace h := ite_f c36 h
        obtain ⟨rfl, rfl, rfl, rfl, rfl, rfl⟩ := ret6 h
        rw [hQ]
        exact g_retv hx hb hr hlk hW dL_lays_98
set_option maxHeartbeats 16000000 in
set_option maxRecDepth 100000 in
theorem c_L_tries (l : Launch) (D : va_G) (T : Nat → ClassId) (A : Nat → Prop) (a_c : Nat) (a_g : Nat) (a_q : Nat) (a_n : Nat) (a_e : Nat) (a_j : Nat) (a_a : Nat) (a_b : Nat) (a_m : Nat) (Z : va_W) (x_c : Nat → Int32) (x_g : Nat → Int32) (x_q : Nat → Int32) (x_n : Nat → Int32) (x_e : Nat → Int32) (x_j : Nat → Int32) (x_a : Nat → Int32) (x_b : Nat → Int32) (x_m : Nat → Int32) (p10 : Int32) (p11 : Int32) (p12 : Int32) (p13 : Int32) (x_c9 : Nat → Int32) (x_e9 : Nat → Int32) (x_j9 : Nat → Int32) (x_a9 : Nat → Int32) (x_b9 : Nat → Int32) (x_m9 : Nat → Int32) (h : f_L_tries x_c x_g x_q x_n x_e x_j x_a x_b x_m p10 p11 p12 p13 = some (x_c9, x_e9, x_j9, x_a9, x_b9, x_m9)) : Met l yL_tries (Cond.code yL_tries cL_tries 14 none :: wsL_law) (rmL 2 1) (Pl D T A (oA T 12 a_c x_c ++ (oA T 20 a_g x_g ++ (oA T 60 a_q x_q ++ (oA T 5 a_n x_n ++ (oA T 64 a_e x_e ++ (oA T 64 a_j x_j ++ (oA T 64 a_a x_a ++ (oA T 48 a_b x_b ++ (oA T 6 a_m x_m ++ Z))))))))) [.ref a_c, .ref a_g, .ref a_q, .ref a_n, .ref a_e, .ref a_j, .ref a_a, .ref a_b, .ref a_m, .int p10, .int p11, .int p12, .int p13]) (Qgv D A (oA T 12 a_c x_c9 ++ (oA T 20 a_g x_g ++ (oA T 60 a_q x_q ++ (oA T 5 a_n x_n ++ (oA T 64 a_e x_e9 ++ (oA T 64 a_j x_j9 ++ (oA T 64 a_a x_a9 ++ (oA T 48 a_b x_b9 ++ (oA T 6 a_m x_m9 ++ Z)))))))))) 1 16 A := by
  refine Met.ofW (cc := cL_tries) (maxL := 14) (ret := none) (by decide +kernel) rfl ?_
  intro p e s m args below meth c s₁ B hml hv
  obtain ⟨ha, hP, hK, hD, hN, hE, hC, hA⟩ := hv
  have hx := B.exec
  have hb := B.bytes
  have hr := B.returns
  have hlk := B.notSynchronized
  have hts : ∀ w ∈ wsL_law, w.before args s = true := fun w hw => atoms_spec B.pre w (List.mem_cons_of_mem _ hw)
  have hown : s.vm.findClass RL = some m.cls := findClass_of_methodNamed B.named
  have hW : Wd D A s.heap (oA T 12 a_c x_c ++ (oA T 20 a_g x_g ++ (oA T 60 a_q x_q ++ (oA T 5 a_n x_n ++ (oA T 64 a_e x_e ++ (oA T 64 a_j x_j ++ (oA T 64 a_a x_a ++ (oA T 48 a_b x_b ++ (oA T 6 a_m x_m ++ Z))))))))) s.heap [] := ⟨hP, hD, va_S.rf⟩
  have hl := lv_entry [.ref a_c, .ref a_g, .ref a_q, .ref a_n, .ref a_e, .ref a_j, .ref a_a, .ref a_b, .ref a_m, .int p10, .int p11, .int p12, .int p13] (n := 14) (Nat.le_of_ble_eq_true rfl)
  refine W.eq (en_eq ha) ?_
  generalize (lg_sl [.ref a_c, .ref a_g, .ref a_q, .ref a_n, .ref a_e, .ref a_j, .ref a_a, .ref a_b, .ref a_m, .int p10, .int p11, .int p12, .int p13] ++ List.replicate (14 - (lg_sl [.ref a_c, .ref a_g, .ref a_q, .ref a_n, .ref a_e, .ref a_j, .ref a_a, .ref a_b, .ref a_m, .int p10, .int p11, .int p12, .int p13]).length) Slot.unset).toArray = ls at hl ⊢
  have hl : lv_has ls 14 [(0, .ref a_c), (1, .ref a_g), (2, .ref a_q), (3, .ref a_n), (4, .ref a_e), (5, .ref a_j), (6, .ref a_a), (7, .ref a_b), (8, .ref a_m), (9, .int p10), (10, .int p11), (11, .int p12), (12, .int p13)] := hl
  clear hP hD B ha
  obtain ⟨Q, hQ⟩ : ∃ Q, Q = MQ below (Qgv D A (oA T 12 a_c x_c9 ++ (oA T 20 a_g x_g ++ (oA T 60 a_q x_q ++ (oA T 5 a_n x_n ++ (oA T 64 a_e x_e9 ++ (oA T 64 a_j x_j9 ++ (oA T 64 a_a x_a9 ++ (oA T 48 a_b x_b9 ++ (oA T 6 a_m x_m9 ++ Z)))))))))) args s 1 16 A := ⟨_, rfl⟩
  rw [← hQ]
  change W p l e (rmL 2 1) s m args below meth c s.heap [] 0 (16 * 0) Q (F0 m 0 ls [])
  rw [f_L_tries] at h
  suffices hm : ∀ (H : Heap) (locs : List Loc), Wd D A s.heap (oA T 12 a_c x_c ++ (oA T 20 a_g x_g ++ (oA T 60 a_q x_q ++ (oA T 5 a_n x_n ++ (oA T 64 a_e x_e ++ (oA T 64 a_j x_j ++ (oA T 64 a_a x_a ++ (oA T 48 a_b x_b ++ (oA T 6 a_m x_m ++ Z))))))))) H locs → W p l e (rmL 2 1) s m args below meth c H locs 0 (16 * 0) Q (F0 m 0 ls []) from hm _ _ hW
  clear hW
  intro H locs hW
  refine lv_aload_n hx hb dL_tries_0 rfl (lv_at hl 1 rfl) ?_
  refine lv_aload_n hx hb dL_tries_1 rfl (lv_at hl 2 rfl) ?_
  refine lv_aload_n hx hb dL_tries_2 rfl (lv_at hl 3 rfl) ?_
  refine lv_aload hx hb dL_tries_3 (lv_at hl 4 rfl) ?_
  refine lv_aload hx hb dL_tries_5 (lv_at hl 5 rfl) ?_
  refine lv_iload hx hb dL_tries_7 (lv_at hl 10 rfl) ?_
  refine lv_iload hx hb dL_tries_9 (lv_at hl 11 rfl) ?_
  refine lv_iload hx hb dL_tries_11 (lv_at hl 12 rfl) ?_
  replace hW := hW.perm pf5
  replace hW := hW.perm pf5
  replace hW := hW.perm pf5
  replace hW := hW.perm pf5
  replace hW := hW.perm pf5
  obtain ⟨r1, q2, h⟩ := bnd1_s h
  obtain ⟨gN3, h⟩ := grd_s h
  have gN3 := of_decide_eq_true gN3
  refine cs_L_44 hx hb hml hown hts hK hN hE hC hA hW (c_L_use l D T A a_g a_q a_n a_e a_j (oA T 12 a_c x_c ++ (oA T 64 a_a x_a ++ (oA T 48 a_b x_b ++ (oA T 6 a_m x_m ++ Z)))) x_g x_q x_n x_e x_j p11 p12 p13 r1 q2) ⟨Nat.le_of_ble_eq_true rfl, Nat.le_of_ble_eq_true rfl⟩ hl.1 rfl (Nat.le_of_ble_eq_true rfl) dL_tries_13 (hfB gN3) rfl (fun H locs hW => ?_)
  replace hW := hW.perm pf8
  replace hW := hW.perm pf8
  replace hW := hW.perm pf8
  replace hW := hW.perm pf7
  replace hW := hW.perm pf7
  replace hW := hW.perm pf7
  replace hW := hW.perm pf7
  replace hW := hW.perm pf7
  replace hW := hW.perm pf8
  refine lv_istore (lv' := [(13, .int r1), (0, .ref a_c), (1, .ref a_g), (2, .ref a_q), (3, .ref a_n), (4, .ref a_e), (5, .ref a_j), (6, .ref a_a), (7, .ref a_b), (8, .ref a_m), (9, .int p10), (10, .int p11), (11, .int p12), (12, .int p13)]) hx hb dL_tries_16 hl (by decide) rfl (fun ls hl => ?_)
  refine lv_iload hx hb dL_tries_18 (lv_at hl 0 rfl) ?_
  refine lv_if_lt (tgt := 76) hx hb dL_tries_20 (by decide) (fun c4 => ?_) (fun c4 => ?_)
  · replace h := ite_t c4 h
    obtain ⟨rfl, rfl, rfl, rfl, rfl, rfl⟩ := ret6 h
    rw [hQ]
    refine W.widen (k := 1) (n := 16) gN3 (Nat.mul_le_mul_left 16 gN3) ?_
    exact g_retv hx hb hr hlk hW dL_tries_76
  · replace h := ite_f c4 h
    refine lv_aload_n hx hb dL_tries_23 rfl (lv_at hl 1 rfl) ?_
    refine lv_aload hx hb dL_tries_24 (lv_at hl 5 rfl) ?_
    refine lv_aload hx hb dL_tries_26 (lv_at hl 6 rfl) ?_
    refine lv_aload hx hb dL_tries_28 (lv_at hl 7 rfl) ?_
    refine lv_aload hx hb dL_tries_30 (lv_at hl 8 rfl) ?_
    refine lv_aload hx hb dL_tries_32 (lv_at hl 9 rfl) ?_
    refine lv_iload hx hb dL_tries_34 (lv_at hl 10 rfl) ?_
    refine lv_iload hx hb dL_tries_36 (lv_at hl 0 rfl) ?_
    refine lv_sipush (v := 10000) hx hb dL_tries_38 (by decide) ?_
    refine lv_irem hx hb dL_tries_41 (by decide) ?_
    refine lv_iload hx hb dL_tries_42 (lv_at hl 0 rfl) ?_
    refine lv_sipush (v := 10000) hx hb dL_tries_44 (by decide) ?_
    refine lv_idiv hx hb dL_tries_47 (by decide) ?_
    refine lv_sipush (v := 1000) hx hb dL_tries_48 (by decide) ?_
    refine lv_irem hx hb dL_tries_51 (by decide) ?_
    refine lv_sipush (v := 10000) hx hb dL_tries_52 (by decide) ?_
    refine lv_iload hx hb dL_tries_55 (lv_at hl 13 rfl) ?_
    refine lv_iconst (v := 1) hx hb dL_tries_57 (by decide) ?_
    refine lv_iadd hx hb dL_tries_58 ?_
    refine lv_imul hx hb dL_tries_59 ?_
    refine lv_bipush (v := 100) hx hb dL_tries_60 (by decide) ?_
    refine lv_iload hx hb dL_tries_62 (lv_at hl 12 rfl) ?_
    refine lv_iconst (v := 1) hx hb dL_tries_64 (by decide) ?_
    refine lv_iadd hx hb dL_tries_65 ?_
    refine lv_imul hx hb dL_tries_66 ?_
    refine lv_iadd hx hb dL_tries_67 ?_
    refine lv_iload hx hb dL_tries_68 (lv_at hl 11 rfl) ?_
    refine lv_iadd hx hb dL_tries_70 ?_
    refine lv_iconst (v := 1) hx hb dL_tries_71 (by decide) ?_
    refine lv_iadd hx hb dL_tries_72 ?_
    replace hW := hW.perm pf8
    replace hW := hW.perm pf8
    replace hW := hW.perm pf8
    replace hW := hW.perm pf8
    replace hW := hW.perm pf8
    replace hW := hW.perm pf5
    obtain ⟨x_c5, x_e6, x_j7, x_a8, x_b9, x_m10, q11, h⟩ := bnd6_s h
    refine cs_L_48 hx hb hml hown hts hK hN hE hC hA hW (c_L_lays l D T A a_c a_e a_j a_a a_b a_m (oA T 20 a_g x_g ++ (oA T 60 a_q x_q ++ (oA T 5 a_n x_n ++ Z))) x_c x_e x_j x_a x_b x_m p10 (r1 - r1 / 10000 * 10000) ((r1 / 10000) - (r1 / 10000) / 1000 * 1000) ((((10000 * (p13 + 1)) + (100 * (p12 + 1))) + p11) + 1) x_c5 x_e6 x_j7 x_a8 x_b9 x_m10 q11) ⟨Nat.le_of_ble_eq_true rfl, Nat.le_of_ble_eq_true rfl⟩ hl.1 rfl (Nat.le_of_ble_eq_true rfl) dL_tries_73 (hf0 gN3) rfl (fun H locs hW => ?_)
    replace hW := hW.perm pf5
    replace hW := hW.perm pf5
    replace hW := hW.perm pf5
    replace hW := hW.perm pf5
    replace hW := hW.perm pf5
    replace hW := hW.perm pf8
    replace hW := hW.perm pf8
    replace hW := hW.perm pf8
    replace hW := hW.perm pf8
    obtain ⟨rfl, rfl, rfl, rfl, rfl, rfl⟩ := ret6 h
    rw [hQ]
    refine W.widen (k := 1) (n := 16) gN3 (Nat.mul_le_mul_left 16 gN3) ?_
    exact g_retv hx hb hr hlk hW dL_tries_76
