set_option maxHeartbeats 4000000 in
set_option maxRecDepth 100000 in
theorem c_X10_areFeatures (l : Launch) (D : va_G) (T : Nat → ClassId) (A : Nat → Prop)  (Z : va_W)  (p1 : Int32) (p2 : Int32) (p3 : Int32) (r : Int32) (h : f_X10_areFeatures p1 p2 p3 = some r) : Met l yX10_areFeatures (Cond.code yX10_areFeatures cX10_areFeatures 3 (some .boolean) :: wsL_law) (rmd 1) (Pg D T A (Z) [.int p1, .int p2, .int p3]) (Qgi D A (Z) r) 0 0 A := by
  refine Met.ofW (cc := cX10_areFeatures) (maxL := 3) (ret := (some .boolean)) (by decide +kernel) rfl ?_
  intro p e s m args below meth c s₁ B hml hv
  obtain ⟨ha, hP, hK, hD, hN⟩ := hv
  have hx := B.exec
  have hb := B.bytes
  have hr := B.returns
  have hlk := B.notSynchronized
  have hts : ∀ w ∈ wsL_law, w.before args s = true := fun w hw => atoms_spec B.pre w (List.mem_cons_of_mem _ hw)
  have hown : s.vm.findClass RX10 = some m.cls := findClass_of_methodNamed B.named
  have hW : Wd D A s.heap (Z) s.heap [] := ⟨hP, hD, va_S.rf⟩
  have hl := lv_entry [.int p1, .int p2, .int p3] (n := 3) (Nat.le_of_ble_eq_true rfl)
  refine W.eq (en_eq ha) ?_
  generalize (lg_sl [.int p1, .int p2, .int p3] ++ List.replicate (3 - (lg_sl [.int p1, .int p2, .int p3]).length) Slot.unset).toArray = ls at hl ⊢
  have hl : lv_has ls 3 [(0, .int p1), (1, .int p2), (2, .int p3)] := hl
  clear hP hD B ha
  obtain ⟨Q, hQ⟩ : ∃ Q, Q = MQ below (Qgi D A (Z) r) args s 0 0 A := ⟨_, rfl⟩
  rw [← hQ]
  change W p l e (rmd 1) s m args below meth c s.heap [] 0 0 Q (F0 m 0 ls [])
  rw [f_X10_areFeatures] at h
  suffices hm : ∀ (H : Heap) (locs : List Loc), Wd D A s.heap (Z) H locs → W p l e (rmd 1) s m args below meth c H locs 0 0 Q (F0 m 0 ls []) from hm _ _ hW
  intro H locs hW
  refine lv_iload_n hx hb dX10_areFeatures_0 rfl (lv_at hl 0 rfl) ?_
  refine lv_iconst (v := 4) hx hb dX10_areFeatures_1 (by decide) ?_
  obtain ⟨r1, q2, h⟩ := bnd1_s h
  refine cl_X10_87 hx hb hml hown hts hK hN hW (c_X10_isBelow l D T A (Z) p1 4 r1 q2) ⟨Nat.le_of_ble_eq_true rfl, Nat.le_of_ble_eq_true rfl⟩ hl.1 rfl (Nat.le_of_ble_eq_true rfl) dX10_areFeatures_2 ⟨Nat.zero_le _, Nat.zero_le _⟩ rfl (fun H locs hW => ?_)
  refine lv_if_eq (tgt := 28) hx hb dX10_areFeatures_5 (by decide) (fun c3 => ?_) (fun c3 => ?_)
  · have h := ite_t c3 h
    refine lv_iconst (v := 0) hx hb dX10_areFeatures_28 (by decide) ?_
    obtain rfl := ret1 h
    rw [hQ]
    exact g_retz hx hb hr hlk hW (by decide) dX10_areFeatures_29
  · have h := ite_f c3 h
    refine lv_iload_n hx hb dX10_areFeatures_8 rfl (lv_at hl 1 rfl) ?_
    refine lv_iconst (v := 4) hx hb dX10_areFeatures_9 (by decide) ?_
    obtain ⟨r4, q5, h⟩ := bnd1_s h
    refine cl_X10_87 hx hb hml hown hts hK hN hW (c_X10_isBelow l D T A (Z) p2 4 r4 q5) ⟨Nat.le_of_ble_eq_true rfl, Nat.le_of_ble_eq_true rfl⟩ hl.1 rfl (Nat.le_of_ble_eq_true rfl) dX10_areFeatures_10 ⟨Nat.zero_le _, Nat.zero_le _⟩ rfl (fun H locs hW => ?_)
    refine lv_if_eq (tgt := 28) hx hb dX10_areFeatures_13 (by decide) (fun c6 => ?_) (fun c6 => ?_)
    · have h := ite_t c6 h
      refine lv_iconst (v := 0) hx hb dX10_areFeatures_28 (by decide) ?_
      obtain rfl := ret1 h
      rw [hQ]
      exact g_retz hx hb hr hlk hW (by decide) dX10_areFeatures_29
    · have h := ite_f c6 h
      refine lv_iload_n hx hb dX10_areFeatures_16 rfl (lv_at hl 2 rfl) ?_
      refine lv_iconst (v := 4) hx hb dX10_areFeatures_17 (by decide) ?_
      obtain ⟨r7, q8, h⟩ := bnd1_s h
      refine cl_X10_87 hx hb hml hown hts hK hN hW (c_X10_isBelow l D T A (Z) p3 4 r7 q8) ⟨Nat.le_of_ble_eq_true rfl, Nat.le_of_ble_eq_true rfl⟩ hl.1 rfl (Nat.le_of_ble_eq_true rfl) dX10_areFeatures_18 ⟨Nat.zero_le _, Nat.zero_le _⟩ rfl (fun H locs hW => ?_)
      refine lv_if_eq (tgt := 28) hx hb dX10_areFeatures_21 (by decide) (fun c9 => ?_) (fun c9 => ?_)
      · have h := ite_t c9 h
        refine lv_iconst (v := 0) hx hb dX10_areFeatures_28 (by decide) ?_
        obtain rfl := ret1 h
        rw [hQ]
        exact g_retz hx hb hr hlk hW (by decide) dX10_areFeatures_29
      · have h := ite_f c9 h
        refine lv_iconst (v := 1) hx hb dX10_areFeatures_24 (by decide) ?_
        refine lv_goto (tgt := 29) hx hb dX10_areFeatures_25 (by decide) ?_
        obtain rfl := ret1 h
        rw [hQ]
        exact g_retz hx hb hr hlk hW (by decide) dX10_areFeatures_29
set_option maxHeartbeats 4000000 in
set_option maxRecDepth 100000 in
theorem c_X10_pack (l : Launch) (D : va_G) (T : Nat → ClassId) (A : Nat → Prop)  (Z : va_W)  (p1 : Int32) (p2 : Int32) (p3 : Int32) (r : Int32) (h : f_X10_pack p1 p2 p3 = some r) : Met l yX10_pack (Cond.code yX10_pack cX10_pack 3 (some .int) :: wsL_law) (rmd 0) (Pg D T A (Z) [.int p1, .int p2, .int p3]) (Qgi D A (Z) r) 0 0 A := by
  refine Met.ofW (cc := cX10_pack) (maxL := 3) (ret := (some .int)) (by decide +kernel) rfl ?_
  intro p e s m args below meth c s₁ B hml hv
  obtain ⟨ha, hP, hK, hD, hN⟩ := hv
  have hx := B.exec
  have hb := B.bytes
  have hr := B.returns
  have hlk := B.notSynchronized
  have hts : ∀ w ∈ wsL_law, w.before args s = true := fun w hw => atoms_spec B.pre w (List.mem_cons_of_mem _ hw)
  have hown : s.vm.findClass RX10 = some m.cls := findClass_of_methodNamed B.named
  have hW : Wd D A s.heap (Z) s.heap [] := ⟨hP, hD, va_S.rf⟩
  have hl := lv_entry [.int p1, .int p2, .int p3] (n := 3) (Nat.le_of_ble_eq_true rfl)
  refine W.eq (en_eq ha) ?_
  generalize (lg_sl [.int p1, .int p2, .int p3] ++ List.replicate (3 - (lg_sl [.int p1, .int p2, .int p3]).length) Slot.unset).toArray = ls at hl ⊢
  have hl : lv_has ls 3 [(0, .int p1), (1, .int p2), (2, .int p3)] := hl
  clear hP hD B ha
  obtain ⟨Q, hQ⟩ : ∃ Q, Q = MQ below (Qgi D A (Z) r) args s 0 0 A := ⟨_, rfl⟩
  rw [← hQ]
  change W p l e (rmd 0) s m args below meth c s.heap [] 0 0 Q (F0 m 0 ls [])
  rw [f_X10_pack] at h
  suffices hm : ∀ (H : Heap) (locs : List Loc), Wd D A s.heap (Z) H locs → W p l e (rmd 0) s m args below meth c H locs 0 0 Q (F0 m 0 ls []) from hm _ _ hW
  intro H locs hW
  refine lv_iload_n hx hb dX10_pack_0 rfl (lv_at hl 0 rfl) ?_
  refine lv_iload_n hx hb dX10_pack_1 rfl (lv_at hl 1 rfl) ?_
  refine lv_iconst (v := 2) hx hb dX10_pack_2 (by decide) ?_
  refine lv_ishl hx hb dX10_pack_3 ?_
  refine lv_ior hx hb dX10_pack_4 ?_
  refine lv_iload_n hx hb dX10_pack_5 rfl (lv_at hl 2 rfl) ?_
  refine lv_iconst (v := 4) hx hb dX10_pack_6 (by decide) ?_
  refine lv_ishl hx hb dX10_pack_7 ?_
  refine lv_ior hx hb dX10_pack_8 ?_
  obtain rfl := ret1 h
  rw [hQ]
  exact g_reti hx hb hr hlk hW dX10_pack_9
set_option maxHeartbeats 4000000 in
set_option maxRecDepth 100000 in
theorem c_X10_isCategoryOrNone (l : Launch) (D : va_G) (T : Nat → ClassId) (A : Nat → Prop)  (Z : va_W)  (p1 : Int32) (r : Int32) (h : f_X10_isCategoryOrNone p1 = some r) : Met l yX10_isCategoryOrNone (Cond.code yX10_isCategoryOrNone cX10_isCategoryOrNone 1 (some .boolean) :: wsL_law) (rmd 1) (Pg D T A (Z) [.int p1]) (Qgi D A (Z) r) 0 0 A := by
  refine Met.ofW (cc := cX10_isCategoryOrNone) (maxL := 1) (ret := (some .boolean)) (by decide +kernel) rfl ?_
  intro p e s m args below meth c s₁ B hml hv
  obtain ⟨ha, hP, hK, hD, hN⟩ := hv
  have hx := B.exec
  have hb := B.bytes
  have hr := B.returns
  have hlk := B.notSynchronized
  have hts : ∀ w ∈ wsL_law, w.before args s = true := fun w hw => atoms_spec B.pre w (List.mem_cons_of_mem _ hw)
  have hown : s.vm.findClass RX10 = some m.cls := findClass_of_methodNamed B.named
  have hW : Wd D A s.heap (Z) s.heap [] := ⟨hP, hD, va_S.rf⟩
  have hl := lv_entry [.int p1] (n := 1) (Nat.le_of_ble_eq_true rfl)
  refine W.eq (en_eq ha) ?_
  generalize (lg_sl [.int p1] ++ List.replicate (1 - (lg_sl [.int p1]).length) Slot.unset).toArray = ls at hl ⊢
  have hl : lv_has ls 1 [(0, .int p1)] := hl
  clear hP hD B ha
  obtain ⟨Q, hQ⟩ : ∃ Q, Q = MQ below (Qgi D A (Z) r) args s 0 0 A := ⟨_, rfl⟩
  rw [← hQ]
  change W p l e (rmd 1) s m args below meth c s.heap [] 0 0 Q (F0 m 0 ls [])
  rw [f_X10_isCategoryOrNone] at h
  suffices hm : ∀ (H : Heap) (locs : List Loc), Wd D A s.heap (Z) H locs → W p l e (rmd 1) s m args below meth c H locs 0 0 Q (F0 m 0 ls []) from hm _ _ hW
  intro H locs hW
  refine lv_iload_n hx hb dX10_isCategoryOrNone_0 rfl (lv_at hl 0 rfl) ?_
  refine lv_iconst (v := (-1)) hx hb dX10_isCategoryOrNone_1 (by decide) ?_
  refine lv_icmp_eq (tgt := 14) hx hb dX10_isCategoryOrNone_2 (by decide) (fun c1 => ?_) (fun c1 => ?_)
  · have h := ite_t c1 h
    refine lv_iconst (v := 1) hx hb dX10_isCategoryOrNone_14 (by decide) ?_
    refine lv_goto (tgt := 19) hx hb dX10_isCategoryOrNone_15 (by decide) ?_
    obtain rfl := ret1 h
    rw [hQ]
    exact g_retz hx hb hr hlk hW (by decide) dX10_isCategoryOrNone_19
  · have h := ite_f c1 h
    refine lv_iload_n hx hb dX10_isCategoryOrNone_5 rfl (lv_at hl 0 rfl) ?_
    refine lv_bipush (v := 10) hx hb dX10_isCategoryOrNone_6 (by decide) ?_
    obtain ⟨r2, q3, h⟩ := bnd1_s h
    refine cl_X10_87 hx hb hml hown hts hK hN hW (c_X10_isBelow l D T A (Z) p1 10 r2 q3) ⟨Nat.le_of_ble_eq_true rfl, Nat.le_of_ble_eq_true rfl⟩ hl.1 rfl (Nat.le_of_ble_eq_true rfl) dX10_isCategoryOrNone_8 ⟨Nat.zero_le _, Nat.zero_le _⟩ rfl (fun H locs hW => ?_)
    refine lv_if_eq (tgt := 18) hx hb dX10_isCategoryOrNone_11 (by decide) (fun c4 => ?_) (fun c4 => ?_)
    · have h := ite_t c4 h
      refine lv_iconst (v := 0) hx hb dX10_isCategoryOrNone_18 (by decide) ?_
      obtain rfl := ret1 h
      rw [hQ]
      exact g_retz hx hb hr hlk hW (by decide) dX10_isCategoryOrNone_19
    · have h := ite_f c4 h
      refine lv_iconst (v := 1) hx hb dX10_isCategoryOrNone_14 (by decide) ?_
      refine lv_goto (tgt := 19) hx hb dX10_isCategoryOrNone_15 (by decide) ?_
      obtain rfl := ret1 h
      rw [hQ]
      exact g_retz hx hb hr hlk hW (by decide) dX10_isCategoryOrNone_19
set_option maxHeartbeats 4000000 in
set_option maxRecDepth 100000 in
theorem c_X10_valueOf (l : Launch) (D : va_G) (T : Nat → ClassId) (A : Nat → Prop)  (Z : va_W)  (p1 : Int32) (p2 : Int32) (r : Int32) (h : f_X10_valueOf p1 p2 = some r) : Met l yX10_valueOf (Cond.code yX10_valueOf cX10_valueOf 2 (some .int) :: wsL_law) (rmd 0) (Pg D T A (Z) [.int p1, .int p2]) (Qgi D A (Z) r) 0 0 A := by
  refine Met.ofW (cc := cX10_valueOf) (maxL := 2) (ret := (some .int)) (by decide +kernel) rfl ?_
  intro p e s m args below meth c s₁ B hml hv
  obtain ⟨ha, hP, hK, hD, hN⟩ := hv
  have hx := B.exec
  have hb := B.bytes
  have hr := B.returns
  have hlk := B.notSynchronized
  have hts : ∀ w ∈ wsL_law, w.before args s = true := fun w hw => atoms_spec B.pre w (List.mem_cons_of_mem _ hw)
  have hown : s.vm.findClass RX10 = some m.cls := findClass_of_methodNamed B.named
  have hW : Wd D A s.heap (Z) s.heap [] := ⟨hP, hD, va_S.rf⟩
  have hl := lv_entry [.int p1, .int p2] (n := 2) (Nat.le_of_ble_eq_true rfl)
  refine W.eq (en_eq ha) ?_
  generalize (lg_sl [.int p1, .int p2] ++ List.replicate (2 - (lg_sl [.int p1, .int p2]).length) Slot.unset).toArray = ls at hl ⊢
  have hl : lv_has ls 2 [(0, .int p1), (1, .int p2)] := hl
  clear hP hD B ha
  obtain ⟨Q, hQ⟩ : ∃ Q, Q = MQ below (Qgi D A (Z) r) args s 0 0 A := ⟨_, rfl⟩
  rw [← hQ]
  change W p l e (rmd 0) s m args below meth c s.heap [] 0 0 Q (F0 m 0 ls [])
  rw [f_X10_valueOf] at h
  suffices hm : ∀ (H : Heap) (locs : List Loc), Wd D A s.heap (Z) H locs → W p l e (rmd 0) s m args below meth c H locs 0 0 Q (F0 m 0 ls []) from hm _ _ hW
  intro H locs hW
  refine lv_iload_n hx hb dX10_valueOf_0 rfl (lv_at hl 0 rfl) ?_
  refine lv_iconst (v := 2) hx hb dX10_valueOf_1 (by decide) ?_
  refine lv_iload_n hx hb dX10_valueOf_2 rfl (lv_at hl 1 rfl) ?_
  refine lv_imul hx hb dX10_valueOf_3 ?_
  refine lv_ishr hx hb dX10_valueOf_4 ?_
  refine lv_iconst (v := 3) hx hb dX10_valueOf_5 (by decide) ?_
  refine lv_iand hx hb dX10_valueOf_6 ?_
  obtain rfl := ret1 h
  rw [hQ]
  exact g_reti hx hb hr hlk hW dX10_valueOf_7
set_option maxHeartbeats 4000000 in
set_option maxRecDepth 100000 in
theorem c_X10_placeOfEdge (l : Launch) (D : va_G) (T : Nat → ClassId) (A : Nat → Prop)  (Z : va_W)  (p1 : Int32) (r : Int32) (h : f_X10_placeOfEdge p1 = some r) : Met l yX10_placeOfEdge (Cond.code yX10_placeOfEdge cX10_placeOfEdge 1 (some .int) :: wsL_law) (rmd 0) (Pg D T A (Z) [.int p1]) (Qgi D A (Z) r) 0 0 A := by
  refine Met.ofW (cc := cX10_placeOfEdge) (maxL := 1) (ret := (some .int)) (by decide +kernel) rfl ?_
  intro p e s m args below meth c s₁ B hml hv
  obtain ⟨ha, hP, hK, hD, hN⟩ := hv
  have hx := B.exec
  have hb := B.bytes
  have hr := B.returns
  have hlk := B.notSynchronized
  have hts : ∀ w ∈ wsL_law, w.before args s = true := fun w hw => atoms_spec B.pre w (List.mem_cons_of_mem _ hw)
  have hown : s.vm.findClass RX10 = some m.cls := findClass_of_methodNamed B.named
  have hW : Wd D A s.heap (Z) s.heap [] := ⟨hP, hD, va_S.rf⟩
  have hl := lv_entry [.int p1] (n := 1) (Nat.le_of_ble_eq_true rfl)
  refine W.eq (en_eq ha) ?_
  generalize (lg_sl [.int p1] ++ List.replicate (1 - (lg_sl [.int p1]).length) Slot.unset).toArray = ls at hl ⊢
  have hl : lv_has ls 1 [(0, .int p1)] := hl
  clear hP hD B ha
  obtain ⟨Q, hQ⟩ : ∃ Q, Q = MQ below (Qgi D A (Z) r) args s 0 0 A := ⟨_, rfl⟩
  rw [← hQ]
  change W p l e (rmd 0) s m args below meth c s.heap [] 0 0 Q (F0 m 0 ls [])
  rw [f_X10_placeOfEdge] at h
  suffices hm : ∀ (H : Heap) (locs : List Loc), Wd D A s.heap (Z) H locs → W p l e (rmd 0) s m args below meth c H locs 0 0 Q (F0 m 0 ls []) from hm _ _ hW
  intro H locs hW
  refine lv_iload_n hx hb dX10_placeOfEdge_0 rfl (lv_at hl 0 rfl) ?_
  refine lv_bipush (v := 8) hx hb dX10_placeOfEdge_1 (by decide) ?_
  refine lv_idiv hx hb dX10_placeOfEdge_3 (by decide) ?_
  refine lv_bipush (v := 6) hx hb dX10_placeOfEdge_4 (by decide) ?_
  refine lv_idiv hx hb dX10_placeOfEdge_6 (by decide) ?_
  obtain rfl := ret1 h
  rw [hQ]
  exact g_reti hx hb hr hlk hW dX10_placeOfEdge_7
set_option maxHeartbeats 4000000 in
set_option maxRecDepth 100000 in
theorem c_X10_wordsOfEdge (l : Launch) (D : va_G) (T : Nat → ClassId) (A : Nat → Prop)  (Z : va_W)  (p1 : Int32) (r : Int32) (h : f_X10_wordsOfEdge p1 = some r) : Met l yX10_wordsOfEdge (Cond.code yX10_wordsOfEdge cX10_wordsOfEdge 1 (some .int) :: wsL_law) (rmd 0) (Pg D T A (Z) [.int p1]) (Qgi D A (Z) r) 0 0 A := by
  refine Met.ofW (cc := cX10_wordsOfEdge) (maxL := 1) (ret := (some .int)) (by decide +kernel) rfl ?_
  intro p e s m args below meth c s₁ B hml hv
  obtain ⟨ha, hP, hK, hD, hN⟩ := hv
  have hx := B.exec
  have hb := B.bytes
  have hr := B.returns
  have hlk := B.notSynchronized
  have hts : ∀ w ∈ wsL_law, w.before args s = true := fun w hw => atoms_spec B.pre w (List.mem_cons_of_mem _ hw)
  have hown : s.vm.findClass RX10 = some m.cls := findClass_of_methodNamed B.named
  have hW : Wd D A s.heap (Z) s.heap [] := ⟨hP, hD, va_S.rf⟩
  have hl := lv_entry [.int p1] (n := 1) (Nat.le_of_ble_eq_true rfl)
  refine W.eq (en_eq ha) ?_
  generalize (lg_sl [.int p1] ++ List.replicate (1 - (lg_sl [.int p1]).length) Slot.unset).toArray = ls at hl ⊢
  have hl : lv_has ls 1 [(0, .int p1)] := hl
  clear hP hD B ha
  obtain ⟨Q, hQ⟩ : ∃ Q, Q = MQ below (Qgi D A (Z) r) args s 0 0 A := ⟨_, rfl⟩
  rw [← hQ]
  change W p l e (rmd 0) s m args below meth c s.heap [] 0 0 Q (F0 m 0 ls [])
  rw [f_X10_wordsOfEdge] at h
  suffices hm : ∀ (H : Heap) (locs : List Loc), Wd D A s.heap (Z) H locs → W p l e (rmd 0) s m args below meth c H locs 0 0 Q (F0 m 0 ls []) from hm _ _ hW
  intro H locs hW
  refine lv_iload_n hx hb dX10_wordsOfEdge_0 rfl (lv_at hl 0 rfl) ?_
  refine lv_bipush (v := 8) hx hb dX10_wordsOfEdge_1 (by decide) ?_
  refine lv_idiv hx hb dX10_wordsOfEdge_3 (by decide) ?_
  refine lv_bipush (v := 6) hx hb dX10_wordsOfEdge_4 (by decide) ?_
  refine lv_irem hx hb dX10_wordsOfEdge_6 (by decide) ?_
  refine lv_iconst (v := 1) hx hb dX10_wordsOfEdge_7 (by decide) ?_
  refine lv_iadd hx hb dX10_wordsOfEdge_8 ?_
  obtain rfl := ret1 h
  rw [hQ]
  exact g_reti hx hb hr hlk hW dX10_wordsOfEdge_9
set_option maxHeartbeats 4000000 in
set_option maxRecDepth 100000 in
theorem c_X10_withValue (l : Launch) (D : va_G) (T : Nat → ClassId) (A : Nat → Prop)  (Z : va_W)  (p1 : Int32) (p2 : Int32) (p3 : Int32) (r : Int32) (h : f_X10_withValue p1 p2 p3 = some r) : Met l yX10_withValue (Cond.code yX10_withValue cX10_withValue 3 (some .int) :: wsL_law) (rmd 0) (Pg D T A (Z) [.int p1, .int p2, .int p3]) (Qgi D A (Z) r) 0 0 A := by
  refine Met.ofW (cc := cX10_withValue) (maxL := 3) (ret := (some .int)) (by decide +kernel) rfl ?_
  intro p e s m args below meth c s₁ B hml hv
  obtain ⟨ha, hP, hK, hD, hN⟩ := hv
  have hx := B.exec
  have hb := B.bytes
  have hr := B.returns
  have hlk := B.notSynchronized
  have hts : ∀ w ∈ wsL_law, w.before args s = true := fun w hw => atoms_spec B.pre w (List.mem_cons_of_mem _ hw)
  have hown : s.vm.findClass RX10 = some m.cls := findClass_of_methodNamed B.named
  have hW : Wd D A s.heap (Z) s.heap [] := ⟨hP, hD, va_S.rf⟩
  have hl := lv_entry [.int p1, .int p2, .int p3] (n := 3) (Nat.le_of_ble_eq_true rfl)
  refine W.eq (en_eq ha) ?_
  generalize (lg_sl [.int p1, .int p2, .int p3] ++ List.replicate (3 - (lg_sl [.int p1, .int p2, .int p3]).length) Slot.unset).toArray = ls at hl ⊢
  have hl : lv_has ls 3 [(0, .int p1), (1, .int p2), (2, .int p3)] := hl
  clear hP hD B ha
  obtain ⟨Q, hQ⟩ : ∃ Q, Q = MQ below (Qgi D A (Z) r) args s 0 0 A := ⟨_, rfl⟩
  rw [← hQ]
  change W p l e (rmd 0) s m args below meth c s.heap [] 0 0 Q (F0 m 0 ls [])
  rw [f_X10_withValue] at h
  suffices hm : ∀ (H : Heap) (locs : List Loc), Wd D A s.heap (Z) H locs → W p l e (rmd 0) s m args below meth c H locs 0 0 Q (F0 m 0 ls []) from hm _ _ hW
  intro H locs hW
  refine lv_iload_n hx hb dX10_withValue_0 rfl (lv_at hl 0 rfl) ?_
  refine lv_iconst (v := 3) hx hb dX10_withValue_1 (by decide) ?_
  refine lv_iconst (v := 2) hx hb dX10_withValue_2 (by decide) ?_
  refine lv_iload_n hx hb dX10_withValue_3 rfl (lv_at hl 1 rfl) ?_
  refine lv_imul hx hb dX10_withValue_4 ?_
  refine lv_ishl hx hb dX10_withValue_5 ?_
  refine lv_iconst (v := (-1)) hx hb dX10_withValue_6 (by decide) ?_
  refine lv_ixor hx hb dX10_withValue_7 ?_
  refine lv_iand hx hb dX10_withValue_8 ?_
  refine lv_iload_n hx hb dX10_withValue_9 rfl (lv_at hl 2 rfl) ?_
  refine lv_iconst (v := 2) hx hb dX10_withValue_10 (by decide) ?_
  refine lv_iload_n hx hb dX10_withValue_11 rfl (lv_at hl 1 rfl) ?_
  refine lv_imul hx hb dX10_withValue_12 ?_
  refine lv_ishl hx hb dX10_withValue_13 ?_
  refine lv_ior hx hb dX10_withValue_14 ?_
  obtain rfl := ret1 h
  rw [hQ]
  exact g_reti hx hb hr hlk hW dX10_withValue_15
set_option maxHeartbeats 4000000 in
set_option maxRecDepth 100000 in
theorem c_X10_putMend (l : Launch) (D : va_G) (T : Nat → ClassId) (A : Nat → Prop) (a_q1 : Nat → Nat) (Z : va_W)  (x_q1 : Ob) (p2 : Int32) (x_q19 : Ob) (h : f_X10_putMend x_q1 p2 = some x_q19) : Met l yX10_putMend (Cond.code yX10_putMend cX10_putMend 2 none :: wsL_law) (rmd 1) (Pg D T A (oc_X6 T a_q1 x_q1 ++ Z) [.ref (a_q1 0), .int p2]) (Qgv D A (oc_X6 T a_q1 x_q19 ++ Z)) 0 0 A := by
  refine Met.ofW (cc := cX10_putMend) (maxL := 2) (ret := none) (by decide +kernel) rfl ?_
  intro p e s m args below meth c s₁ B hml hv
  obtain ⟨ha, hP, hK, hD, hN⟩ := hv
  have hx := B.exec
  have hb := B.bytes
  have hr := B.returns
  have hlk := B.notSynchronized
  have hts : ∀ w ∈ wsL_law, w.before args s = true := fun w hw => atoms_spec B.pre w (List.mem_cons_of_mem _ hw)
  have hown : s.vm.findClass RX10 = some m.cls := findClass_of_methodNamed B.named
  have hW : Wd D A s.heap (oc_X6 T a_q1 x_q1 ++ Z) s.heap [] := ⟨hP, hD, va_S.rf⟩
  have hl := lv_entry [.ref (a_q1 0), .int p2] (n := 2) (Nat.le_of_ble_eq_true rfl)
  refine W.eq (en_eq ha) ?_
  generalize (lg_sl [.ref (a_q1 0), .int p2] ++ List.replicate (2 - (lg_sl [.ref (a_q1 0), .int p2]).length) Slot.unset).toArray = ls at hl ⊢
  have hl : lv_has ls 2 [(0, .ref (a_q1 0)), (1, .int p2)] := hl
  clear hP hD B ha
  obtain ⟨Q, hQ⟩ : ∃ Q, Q = MQ below (Qgv D A (oc_X6 T a_q1 x_q19 ++ Z)) args s 0 0 A := ⟨_, rfl⟩
  rw [← hQ]
  change W p l e (rmd 1) s m args below meth c s.heap [] 0 0 Q (F0 m 0 ls [])
  rw [f_X10_putMend] at h
  suffices hm : ∀ (H : Heap) (locs : List Loc), Wd D A s.heap (oc_X6 T a_q1 x_q1 ++ Z) H locs → W p l e (rmd 1) s m args below meth c H locs 0 0 Q (F0 m 0 ls []) from hm _ _ hW
  intro H locs hW
  refine lv_iload_n hx hb dX10_putMend_0 rfl (lv_at hl 1 rfl) ?_
  refine lv_iconst (v := (-1)) hx hb dX10_putMend_1 (by decide) ?_
  refine lv_icmp_eq (tgt := 17) hx hb dX10_putMend_2 (by decide) (fun c1 => ?_) (fun c1 => ?_)
  · have h := ite_t c1 h
    obtain rfl := ret1 h
    rw [hQ]
    exact g_retv hx hb hr hlk hW dX10_putMend_17
  · have h := ite_f c1 h
    refine lv_aload_n hx hb dX10_putMend_5 rfl (lv_at hl 0 rfl) ?_
    refine lv_iload_n hx hb dX10_putMend_6 rfl (lv_at hl 1 rfl) ?_
    refine lv_bipush (v := 100) hx hb dX10_putMend_7 (by decide) ?_
    refine lv_idiv hx hb dX10_putMend_9 (by decide) ?_
    refine lv_iload_n hx hb dX10_putMend_10 rfl (lv_at hl 1 rfl) ?_
    refine lv_bipush (v := 100) hx hb dX10_putMend_11 (by decide) ?_
    refine lv_irem hx hb dX10_putMend_13 (by decide) ?_
    obtain ⟨x_q12, q3, h⟩ := bnd1_s h
    refine cl_X10_220 hx hb hml hown hts hK hN hW (c_X6_putWord l D T A a_q1 (Z) x_q1 (p2 / 100) (p2 - p2 / 100 * 100) x_q12 q3) ⟨Nat.le_of_ble_eq_true rfl, Nat.le_of_ble_eq_true rfl⟩ hl.1 rfl (Nat.le_of_ble_eq_true rfl) dX10_putMend_14 ⟨Nat.zero_le _, Nat.zero_le _⟩ rfl (fun H locs hW => ?_)
    obtain rfl := ret1 h
    rw [hQ]
    exact g_retv hx hb hr hlk hW dX10_putMend_17
