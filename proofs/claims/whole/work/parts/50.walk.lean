set_option maxHeartbeats 4000000 in
set_option maxRecDepth 100000 in
theorem c_X11_thrown (l : Launch) (D : va_G) (T : Nat → ClassId) (A : Nat → Prop) (a_o : Nat → Nat) (Z : va_W)  (x_o : Ob) (r : Int32) (h : f_X11_thrown x_o = some r) : Met l yX11_thrown (Cond.code yX11_thrown cX11_thrown 1 (some .int) :: wsL_law) (rmd 0) (Pg D T A (oc_X11 T a_o x_o ++ Z) [.ref (a_o 0)]) (Qgi D A (oc_X11 T a_o x_o ++ Z) r) 0 0 A := by
  refine Met.ofW (cc := cX11_thrown) (maxL := 1) (ret := (some .int)) (by decide +kernel) rfl ?_
  intro p e s m args below meth c s₁ B hml hv
  obtain ⟨ha, hP, hK, hD, hN⟩ := hv
  have hx := B.exec
  have hb := B.bytes
  have hr := B.returns
  have hlk := B.notSynchronized
  have hts : ∀ w ∈ wsL_law, w.before args s = true := fun w hw => atoms_spec B.pre w (List.mem_cons_of_mem _ hw)
  have hown : s.vm.findClass RX11 = some m.cls := findClass_of_methodNamed B.named
  have hW : Wd D A s.heap (oc_X11 T a_o x_o ++ Z) s.heap [] := ⟨hP, hD, va_S.rf⟩
  have hl := lv_entry [.ref (a_o 0)] (n := 1) (Nat.le_of_ble_eq_true rfl)
  refine W.eq (en_eq ha) ?_
  generalize (lg_sl [.ref (a_o 0)] ++ List.replicate (1 - (lg_sl [.ref (a_o 0)]).length) Slot.unset).toArray = ls at hl ⊢
  have hl : lv_has ls 1 [(0, .ref (a_o 0))] := hl
  clear hP hD B ha
  obtain ⟨Q, hQ⟩ : ∃ Q, Q = MQ below (Qgi D A (oc_X11 T a_o x_o ++ Z) r) args s 0 0 A := ⟨_, rfl⟩
  rw [← hQ]
  change W p l e (rmd 0) s m args below meth c s.heap [] 0 0 Q (F0 m 0 ls [])
  rw [f_X11_thrown] at h
  suffices hm : ∀ (H : Heap) (locs : List Loc), Wd D A s.heap (oc_X11 T a_o x_o ++ Z) H locs → W p l e (rmd 0) s m args below meth c H locs 0 0 Q (F0 m 0 ls []) from hm _ _ hW
  intro H locs hW
  refine lv_aload_n hx hb dX11_thrown_0 rfl (lv_at hl 0 rfl) ?_
  refine fg_X11_183 (v := .int (x_o 67 0)) hx hb hts hown hK hW 0 rfl rfl dX11_thrown_1 ?_
  obtain rfl := ret1 h
  rw [hQ]
  exact g_reti hx hb hr hlk hW dX11_thrown_4
set_option maxHeartbeats 4000000 in
set_option maxRecDepth 100000 in
theorem c_X11_may (l : Launch) (D : va_G) (T : Nat → ClassId) (A : Nat → Prop) (a_o : Nat → Nat) (Z : va_W)  (x_o : Ob) (p1 : Int32) (r : Int32) (x_o9 : Ob) (h : f_X11_may x_o p1 = some (r, x_o9)) : Met l yX11_may (Cond.code yX11_may cX11_may 2 (some .boolean) :: wsL_law) (rmd 0) (Pg D T A (oc_X11 T a_o x_o ++ Z) [.ref (a_o 0), .int p1]) (Qgi D A (oc_X11 T a_o x_o9 ++ Z) r) 0 0 A := by
  refine Met.ofW (cc := cX11_may) (maxL := 2) (ret := (some .boolean)) (by decide +kernel) rfl ?_
  intro p e s m args below meth c s₁ B hml hv
  obtain ⟨ha, hP, hK, hD, hN⟩ := hv
  have hx := B.exec
  have hb := B.bytes
  have hr := B.returns
  have hlk := B.notSynchronized
  have hts : ∀ w ∈ wsL_law, w.before args s = true := fun w hw => atoms_spec B.pre w (List.mem_cons_of_mem _ hw)
  have hown : s.vm.findClass RX11 = some m.cls := findClass_of_methodNamed B.named
  have hW : Wd D A s.heap (oc_X11 T a_o x_o ++ Z) s.heap [] := ⟨hP, hD, va_S.rf⟩
  have hl := lv_entry [.ref (a_o 0), .int p1] (n := 2) (Nat.le_of_ble_eq_true rfl)
  refine W.eq (en_eq ha) ?_
  generalize (lg_sl [.ref (a_o 0), .int p1] ++ List.replicate (2 - (lg_sl [.ref (a_o 0), .int p1]).length) Slot.unset).toArray = ls at hl ⊢
  have hl : lv_has ls 2 [(0, .ref (a_o 0)), (1, .int p1)] := hl
  clear hP hD B ha
  obtain ⟨Q, hQ⟩ : ∃ Q, Q = MQ below (Qgi D A (oc_X11 T a_o x_o9 ++ Z) r) args s 0 0 A := ⟨_, rfl⟩
  rw [← hQ]
  change W p l e (rmd 0) s m args below meth c s.heap [] 0 0 Q (F0 m 0 ls [])
  rw [f_X11_may] at h
  suffices hm : ∀ (H : Heap) (locs : List Loc), Wd D A s.heap (oc_X11 T a_o x_o ++ Z) H locs → W p l e (rmd 0) s m args below meth c H locs 0 0 Q (F0 m 0 ls []) from hm _ _ hW
  intro H locs hW
  refine lv_aload_n hx hb dX11_may_0 rfl (lv_at hl 0 rfl) ?_
  refine lv_iload_n hx hb dX11_may_1 rfl (lv_at hl 1 rfl) ?_
  refine lv_if_eq (tgt := 9) hx hb dX11_may_2 (by decide) (fun c1 => ?_) (fun c1 => ?_)
  · have h := ite_t c1 h
    refine lv_iconst (v := 1) hx hb dX11_may_9 (by decide) ?_
    refine fp_X11_183 (ws9 := oc_X11 T a_o (upo x_o 67 0 1) ++ Z) hx hb hts hown hK hW 0 rfl (Nat.le_of_ble_eq_true rfl) sf_X11_67 dX11_may_10 (fun H locs hW => ?_)
    obtain ⟨x_o2, ex_o2⟩ : ∃ y : Ob, y = upo x_o 67 0 1 := ⟨_, rfl⟩
    rw [← ex_o2] at hW
    have h := lb_at ex_o2 h
    refine lv_iload_n hx hb dX11_may_13 rfl (lv_at hl 1 rfl) ?_
    obtain ⟨g3, h⟩ := grd_s h
    obtain ⟨rfl, rfl⟩ := ret2 h
    rw [hQ]
    exact g_retz hx hb hr hlk hW g3 dX11_may_14
  · have h := ite_f c1 h
    refine lv_iconst (v := 0) hx hb dX11_may_5 (by decide) ?_
    refine lv_goto (tgt := 10) hx hb dX11_may_6 (by decide) ?_
    refine fp_X11_183 (ws9 := oc_X11 T a_o (upo x_o 67 0 0) ++ Z) hx hb hts hown hK hW 0 rfl (Nat.le_of_ble_eq_true rfl) sf_X11_67 dX11_may_10 (fun H locs hW => ?_)
    obtain ⟨x_o4, ex_o4⟩ : ∃ y : Ob, y = upo x_o 67 0 0 := ⟨_, rfl⟩
    rw [← ex_o4] at hW
    have h := lb_at ex_o4 h
    refine lv_iload_n hx hb dX11_may_13 rfl (lv_at hl 1 rfl) ?_
    obtain ⟨g5, h⟩ := grd_s h
    obtain ⟨rfl, rfl⟩ := ret2 h
    rw [hQ]
    exact g_retz hx hb hr hlk hW g5 dX11_may_14
set_option maxHeartbeats 4000000 in
set_option maxRecDepth 100000 in
theorem c_X11_mayBoth (l : Launch) (D : va_G) (T : Nat → ClassId) (A : Nat → Prop) (a_o : Nat → Nat) (Z : va_W)  (x_o : Ob) (p1 : Int32) (p2 : Int32) (r : Int32) (x_o9 : Ob) (h : f_X11_mayBoth x_o p1 p2 = some (r, x_o9)) : Met l yX11_mayBoth (Cond.code yX11_mayBoth cX11_mayBoth 3 (some .boolean) :: wsL_law) (rmd 0) (Pg D T A (oc_X11 T a_o x_o ++ Z) [.ref (a_o 0), .int p1, .int p2]) (Qgi D A (oc_X11 T a_o x_o9 ++ Z) r) 0 0 A := by
  refine Met.ofW (cc := cX11_mayBoth) (maxL := 3) (ret := (some .boolean)) (by decide +kernel) rfl ?_
  intro p e s m args below meth c s₁ B hml hv
  obtain ⟨ha, hP, hK, hD, hN⟩ := hv
  have hx := B.exec
  have hb := B.bytes
  have hr := B.returns
  have hlk := B.notSynchronized
  have hts : ∀ w ∈ wsL_law, w.before args s = true := fun w hw => atoms_spec B.pre w (List.mem_cons_of_mem _ hw)
  have hown : s.vm.findClass RX11 = some m.cls := findClass_of_methodNamed B.named
  have hW : Wd D A s.heap (oc_X11 T a_o x_o ++ Z) s.heap [] := ⟨hP, hD, va_S.rf⟩
  have hl := lv_entry [.ref (a_o 0), .int p1, .int p2] (n := 3) (Nat.le_of_ble_eq_true rfl)
  refine W.eq (en_eq ha) ?_
  generalize (lg_sl [.ref (a_o 0), .int p1, .int p2] ++ List.replicate (3 - (lg_sl [.ref (a_o 0), .int p1, .int p2]).length) Slot.unset).toArray = ls at hl ⊢
  have hl : lv_has ls 3 [(0, .ref (a_o 0)), (1, .int p1), (2, .int p2)] := hl
  clear hP hD B ha
  obtain ⟨Q, hQ⟩ : ∃ Q, Q = MQ below (Qgi D A (oc_X11 T a_o x_o9 ++ Z) r) args s 0 0 A := ⟨_, rfl⟩
  rw [← hQ]
  change W p l e (rmd 0) s m args below meth c s.heap [] 0 0 Q (F0 m 0 ls [])
  have J18 : ∀ (x_o_18 : Ob) (s1_18 : Int32) (H : Heap) (locs : List Loc) (ls : Array Slot), Wd D A s.heap (oc_X11 T a_o x_o_18 ++ Z) H locs → lv_has ls 3 [(0, .ref (a_o 0))] → f_X11_mayBoth_J18 x_o_18 s1_18 = some (r, x_o9) → W p l e (rmd 0) s m args below meth c H locs 0 0 Q (F0 m 18 ls [.int s1_18, .ref (a_o 0)]) := by
    intro x_o_18 s1_18 H locs ls hW hl h
    rw [f_X11_mayBoth_J18] at h
    refine fp_X11_183 (ws9 := oc_X11 T a_o (upo x_o_18 67 0 s1_18) ++ Z) hx hb hts hown hK hW 0 rfl (Nat.le_of_ble_eq_true rfl) sf_X11_67 dX11_mayBoth_18 (fun H locs hW => ?_)
    obtain ⟨x_o3, ex_o3⟩ : ∃ y : Ob, y = upo x_o_18 67 0 s1_18 := ⟨_, rfl⟩
    rw [← ex_o3] at hW
    have h := lb_at ex_o3 h
    refine lv_aload_n hx hb dX11_mayBoth_21 rfl (lv_at hl 0 rfl) ?_
    refine fg_X11_183 (v := .int (x_o3 67 0)) hx hb hts hown hK hW 0 rfl rfl dX11_mayBoth_22 ?_
    refine lv_if_ne (tgt := 32) hx hb dX11_mayBoth_25 (by decide) (fun c4 => ?_) (fun c4 => ?_)
    · have h := ite_f c4 h
      refine lv_iconst (v := 0) hx hb dX11_mayBoth_32 (by decide) ?_
      obtain ⟨rfl, rfl⟩ := ret2 h
      rw [hQ]
      exact g_retz hx hb hr hlk hW (by decide) dX11_mayBoth_33
    · have h := ite_t c4 h
      refine lv_iconst (v := 1) hx hb dX11_mayBoth_28 (by decide) ?_
      refine lv_goto (tgt := 33) hx hb dX11_mayBoth_29 (by decide) ?_
      obtain ⟨rfl, rfl⟩ := ret2 h
      rw [hQ]
      exact g_retz hx hb hr hlk hW (by decide) dX11_mayBoth_33
  rw [f_X11_mayBoth] at h
  suffices hm : ∀ (H : Heap) (locs : List Loc), Wd D A s.heap (oc_X11 T a_o x_o ++ Z) H locs → W p l e (rmd 0) s m args below meth c H locs 0 0 Q (F0 m 0 ls []) from hm _ _ hW
  intro H locs hW
  refine lv_aload_n hx hb dX11_mayBoth_0 rfl (lv_at hl 0 rfl) ?_
  refine lv_iload_n hx hb dX11_mayBoth_1 rfl (lv_at hl 1 rfl) ?_
  refine lv_if_ne (tgt := 9) hx hb dX11_mayBoth_2 (by decide) (fun c1 => ?_) (fun c1 => ?_)
  · have h := ite_f c1 h
    refine lv_iload_n hx hb dX11_mayBoth_9 rfl (lv_at hl 2 rfl) ?_
    refine lv_if_ne (tgt := 17) hx hb dX11_mayBoth_10 (by decide) (fun c2 => ?_) (fun c2 => ?_)
    · have h := ite_f c2 h
      refine lv_iconst (v := 0) hx hb dX11_mayBoth_17 (by decide) ?_
      exact J18 _ _ H locs ls hW (lv_sub hl [0] rfl) h
    · have h := ite_t c2 h
      refine lv_iconst (v := 2) hx hb dX11_mayBoth_13 (by decide) ?_
      refine lv_goto (tgt := 18) hx hb dX11_mayBoth_14 (by decide) ?_
      exact J18 _ _ H locs ls hW (lv_sub hl [0] rfl) h
  · have h := ite_t c1 h
    refine lv_iconst (v := 1) hx hb dX11_mayBoth_5 (by decide) ?_
    refine lv_goto (tgt := 18) hx hb dX11_mayBoth_6 (by decide) ?_
    exact J18 _ _ H locs ls hW (lv_sub hl [0] rfl) h
set_option maxHeartbeats 4000000 in
set_option maxRecDepth 100000 in
theorem c_X11_mayAll (l : Launch) (D : va_G) (T : Nat → ClassId) (A : Nat → Prop) (a_o : Nat → Nat) (Z : va_W)  (x_o : Ob) (p1 : Int32) (p2 : Int32) (p3 : Int32) (r : Int32) (x_o9 : Ob) (h : f_X11_mayAll x_o p1 p2 p3 = some (r, x_o9)) : Met l yX11_mayAll (Cond.code yX11_mayAll cX11_mayAll 4 (some .boolean) :: wsL_law) (rmd 0) (Pg D T A (oc_X11 T a_o x_o ++ Z) [.ref (a_o 0), .int p1, .int p2, .int p3]) (Qgi D A (oc_X11 T a_o x_o9 ++ Z) r) 0 0 A := by
  refine Met.ofW (cc := cX11_mayAll) (maxL := 4) (ret := (some .boolean)) (by decide +kernel) rfl ?_
  intro p e s m args below meth c s₁ B hml hv
  obtain ⟨ha, hP, hK, hD, hN⟩ := hv
  have hx := B.exec
  have hb := B.bytes
  have hr := B.returns
  have hlk := B.notSynchronized
  have hts : ∀ w ∈ wsL_law, w.before args s = true := fun w hw => atoms_spec B.pre w (List.mem_cons_of_mem _ hw)
  have hown : s.vm.findClass RX11 = some m.cls := findClass_of_methodNamed B.named
  have hW : Wd D A s.heap (oc_X11 T a_o x_o ++ Z) s.heap [] := ⟨hP, hD, va_S.rf⟩
  have hl := lv_entry [.ref (a_o 0), .int p1, .int p2, .int p3] (n := 4) (Nat.le_of_ble_eq_true rfl)
  refine W.eq (en_eq ha) ?_
  generalize (lg_sl [.ref (a_o 0), .int p1, .int p2, .int p3] ++ List.replicate (4 - (lg_sl [.ref (a_o 0), .int p1, .int p2, .int p3]).length) Slot.unset).toArray = ls at hl ⊢
  have hl : lv_has ls 4 [(0, .ref (a_o 0)), (1, .int p1), (2, .int p2), (3, .int p3)] := hl
  clear hP hD B ha
  obtain ⟨Q, hQ⟩ : ∃ Q, Q = MQ below (Qgi D A (oc_X11 T a_o x_o9 ++ Z) r) args s 0 0 A := ⟨_, rfl⟩
  rw [← hQ]
  change W p l e (rmd 0) s m args below meth c s.heap [] 0 0 Q (F0 m 0 ls [])
  have J26 : ∀ (x_o_26 : Ob) (s1_26 : Int32) (H : Heap) (locs : List Loc) (ls : Array Slot), Wd D A s.heap (oc_X11 T a_o x_o_26 ++ Z) H locs → lv_has ls 4 [(0, .ref (a_o 0))] → f_X11_mayAll_J26 x_o_26 s1_26 = some (r, x_o9) → W p l e (rmd 0) s m args below meth c H locs 0 0 Q (F0 m 26 ls [.int s1_26, .ref (a_o 0)]) := by
    intro x_o_26 s1_26 H locs ls hW hl h
    rw [f_X11_mayAll_J26] at h
    refine fp_X11_183 (ws9 := oc_X11 T a_o (upo x_o_26 67 0 s1_26) ++ Z) hx hb hts hown hK hW 0 rfl (Nat.le_of_ble_eq_true rfl) sf_X11_67 dX11_mayAll_26 (fun H locs hW => ?_)
    obtain ⟨x_o4, ex_o4⟩ : ∃ y : Ob, y = upo x_o_26 67 0 s1_26 := ⟨_, rfl⟩
    rw [← ex_o4] at hW
    have h := lb_at ex_o4 h
    refine lv_aload_n hx hb dX11_mayAll_29 rfl (lv_at hl 0 rfl) ?_
    refine fg_X11_183 (v := .int (x_o4 67 0)) hx hb hts hown hK hW 0 rfl rfl dX11_mayAll_30 ?_
    refine lv_if_ne (tgt := 40) hx hb dX11_mayAll_33 (by decide) (fun c5 => ?_) (fun c5 => ?_)
    · have h := ite_f c5 h
      refine lv_iconst (v := 0) hx hb dX11_mayAll_40 (by decide) ?_
      obtain ⟨rfl, rfl⟩ := ret2 h
      rw [hQ]
      exact g_retz hx hb hr hlk hW (by decide) dX11_mayAll_41
    · have h := ite_t c5 h
      refine lv_iconst (v := 1) hx hb dX11_mayAll_36 (by decide) ?_
      refine lv_goto (tgt := 41) hx hb dX11_mayAll_37 (by decide) ?_
      obtain ⟨rfl, rfl⟩ := ret2 h
      rw [hQ]
      exact g_retz hx hb hr hlk hW (by decide) dX11_mayAll_41
  rw [f_X11_mayAll] at h
  suffices hm : ∀ (H : Heap) (locs : List Loc), Wd D A s.heap (oc_X11 T a_o x_o ++ Z) H locs → W p l e (rmd 0) s m args below meth c H locs 0 0 Q (F0 m 0 ls []) from hm _ _ hW
  intro H locs hW
  refine lv_aload_n hx hb dX11_mayAll_0 rfl (lv_at hl 0 rfl) ?_
  refine lv_iload_n hx hb dX11_mayAll_1 rfl (lv_at hl 1 rfl) ?_
  refine lv_if_ne (tgt := 9) hx hb dX11_mayAll_2 (by decide) (fun c1 => ?_) (fun c1 => ?_)
  · have h := ite_f c1 h
    refine lv_iload_n hx hb dX11_mayAll_9 rfl (lv_at hl 2 rfl) ?_
    refine lv_if_ne (tgt := 17) hx hb dX11_mayAll_10 (by decide) (fun c2 => ?_) (fun c2 => ?_)
    · have h := ite_f c2 h
      refine lv_iload_n hx hb dX11_mayAll_17 rfl (lv_at hl 3 rfl) ?_
      refine lv_if_ne (tgt := 25) hx hb dX11_mayAll_18 (by decide) (fun c3 => ?_) (fun c3 => ?_)
      · have h := ite_f c3 h
        refine lv_iconst (v := 0) hx hb dX11_mayAll_25 (by decide) ?_
        exact J26 _ _ H locs ls hW (lv_sub hl [0] rfl) h
      · have h := ite_t c3 h
        refine lv_iconst (v := 3) hx hb dX11_mayAll_21 (by decide) ?_
        refine lv_goto (tgt := 26) hx hb dX11_mayAll_22 (by decide) ?_
        exact J26 _ _ H locs ls hW (lv_sub hl [0] rfl) h
    · have h := ite_t c2 h
      refine lv_iconst (v := 2) hx hb dX11_mayAll_13 (by decide) ?_
      refine lv_goto (tgt := 26) hx hb dX11_mayAll_14 (by decide) ?_
      exact J26 _ _ H locs ls hW (lv_sub hl [0] rfl) h
  · have h := ite_t c1 h
    refine lv_iconst (v := 1) hx hb dX11_mayAll_5 (by decide) ?_
    refine lv_goto (tgt := 26) hx hb dX11_mayAll_6 (by decide) ?_
    exact J26 _ _ H locs ls hW (lv_sub hl [0] rfl) h
set_option maxHeartbeats 4000000 in
set_option maxRecDepth 100000 in
theorem c_X11_isIn (l : Launch) (D : va_G) (T : Nat → ClassId) (A : Nat → Prop)  (Z : va_W)  (p1 : Int32) (p2 : Int32) (p3 : Int32) (r : Int32) (h : f_X11_isIn p1 p2 p3 = some r) : Met l yX11_isIn (Cond.code yX11_isIn cX11_isIn 3 (some .boolean) :: wsL_law) (rmd 0) (Pg D T A (Z) [.int p1, .int p2, .int p3]) (Qgi D A (Z) r) 0 0 A := by
  refine Met.ofW (cc := cX11_isIn) (maxL := 3) (ret := (some .boolean)) (by decide +kernel) rfl ?_
  intro p e s m args below meth c s₁ B hml hv
  obtain ⟨ha, hP, hK, hD, hN⟩ := hv
  have hx := B.exec
  have hb := B.bytes
  have hr := B.returns
  have hlk := B.notSynchronized
  have hts : ∀ w ∈ wsL_law, w.before args s = true := fun w hw => atoms_spec B.pre w (List.mem_cons_of_mem _ hw)
  have hown : s.vm.findClass RX11 = some m.cls := findClass_of_methodNamed B.named
  have hW : Wd D A s.heap (Z) s.heap [] := ⟨hP, hD, va_S.rf⟩
  have hl := lv_entry [.int p1, .int p2, .int p3] (n := 3) (Nat.le_of_ble_eq_true rfl)
  refine W.eq (en_eq ha) ?_
  generalize (lg_sl [.int p1, .int p2, .int p3] ++ List.replicate (3 - (lg_sl [.int p1, .int p2, .int p3]).length) Slot.unset).toArray = ls at hl ⊢
  have hl : lv_has ls 3 [(0, .int p1), (1, .int p2), (2, .int p3)] := hl
  clear hP hD B ha
  obtain ⟨Q, hQ⟩ : ∃ Q, Q = MQ below (Qgi D A (Z) r) args s 0 0 A := ⟨_, rfl⟩
  rw [← hQ]
  change W p l e (rmd 0) s m args below meth c s.heap [] 0 0 Q (F0 m 0 ls [])
  rw [f_X11_isIn] at h
  suffices hm : ∀ (H : Heap) (locs : List Loc), Wd D A s.heap (Z) H locs → W p l e (rmd 0) s m args below meth c H locs 0 0 Q (F0 m 0 ls []) from hm _ _ hW
  intro H locs hW
  refine lv_iload_n hx hb dX11_isIn_0 rfl (lv_at hl 0 rfl) ?_
  refine lv_iload_n hx hb dX11_isIn_1 rfl (lv_at hl 1 rfl) ?_
  refine lv_icmp_lt (tgt := 14) hx hb dX11_isIn_2 (by decide) (fun c1 => ?_) (fun c1 => ?_)
  · have h := ite_t c1 h
    refine lv_iconst (v := 0) hx hb dX11_isIn_14 (by decide) ?_
    obtain rfl := ret1 h
    rw [hQ]
    exact g_retz hx hb hr hlk hW (by decide) dX11_isIn_15
  · have h := ite_f c1 h
    refine lv_iload_n hx hb dX11_isIn_5 rfl (lv_at hl 0 rfl) ?_
    refine lv_iload_n hx hb dX11_isIn_6 rfl (lv_at hl 2 rfl) ?_
    refine lv_icmp_gt (tgt := 14) hx hb dX11_isIn_7 (by decide) (fun c2 => ?_) (fun c2 => ?_)
    · have h := ite_t c2 h
      refine lv_iconst (v := 0) hx hb dX11_isIn_14 (by decide) ?_
      obtain rfl := ret1 h
      rw [hQ]
      exact g_retz hx hb hr hlk hW (by decide) dX11_isIn_15
    · have h := ite_f c2 h
      refine lv_iconst (v := 1) hx hb dX11_isIn_10 (by decide) ?_
      refine lv_goto (tgt := 15) hx hb dX11_isIn_11 (by decide) ?_
      obtain rfl := ret1 h
      rw [hQ]
      exact g_retz hx hb hr hlk hW (by decide) dX11_isIn_15
set_option maxHeartbeats 4000000 in
set_option maxRecDepth 100000 in
theorem c_X11_isDigit (l : Launch) (D : va_G) (T : Nat → ClassId) (A : Nat → Prop)  (Z : va_W)  (p1 : Int32) (r : Int32) (h : f_X11_isDigit p1 = some r) : Met l yX11_isDigit (Cond.code yX11_isDigit cX11_isDigit 1 (some .boolean) :: wsL_law) (rmd 1) (Pg D T A (Z) [.int p1]) (Qgi D A (Z) r) 0 0 A := by
  refine Met.ofW (cc := cX11_isDigit) (maxL := 1) (ret := (some .boolean)) (by decide +kernel) rfl ?_
  intro p e s m args below meth c s₁ B hml hv
  obtain ⟨ha, hP, hK, hD, hN⟩ := hv
  have hx := B.exec
  have hb := B.bytes
  have hr := B.returns
  have hlk := B.notSynchronized
  have hts : ∀ w ∈ wsL_law, w.before args s = true := fun w hw => atoms_spec B.pre w (List.mem_cons_of_mem _ hw)
  have hown : s.vm.findClass RX11 = some m.cls := findClass_of_methodNamed B.named
  have hW : Wd D A s.heap (Z) s.heap [] := ⟨hP, hD, va_S.rf⟩
  have hl := lv_entry [.int p1] (n := 1) (Nat.le_of_ble_eq_true rfl)
  refine W.eq (en_eq ha) ?_
  generalize (lg_sl [.int p1] ++ List.replicate (1 - (lg_sl [.int p1]).length) Slot.unset).toArray = ls at hl ⊢
  have hl : lv_has ls 1 [(0, .int p1)] := hl
  clear hP hD B ha
  obtain ⟨Q, hQ⟩ : ∃ Q, Q = MQ below (Qgi D A (Z) r) args s 0 0 A := ⟨_, rfl⟩
  rw [← hQ]
  change W p l e (rmd 1) s m args below meth c s.heap [] 0 0 Q (F0 m 0 ls [])
  rw [f_X11_isDigit] at h
  suffices hm : ∀ (H : Heap) (locs : List Loc), Wd D A s.heap (Z) H locs → W p l e (rmd 1) s m args below meth c H locs 0 0 Q (F0 m 0 ls []) from hm _ _ hW
  intro H locs hW
  refine lv_iload_n hx hb dX11_isDigit_0 rfl (lv_at hl 0 rfl) ?_
  refine lv_iconst (v := 0) hx hb dX11_isDigit_1 (by decide) ?_
  refine lv_bipush (v := 9) hx hb dX11_isDigit_2 (by decide) ?_
  obtain ⟨r1, q2, h⟩ := bnd1_s h
  refine cl_X11_187 hx hb hml hown hts hK hN hW (c_X11_isIn l D T A (Z) p1 0 9 r1 q2) ⟨Nat.le_of_ble_eq_true rfl, Nat.le_of_ble_eq_true rfl⟩ hl.1 rfl (Nat.le_of_ble_eq_true rfl) dX11_isDigit_4 ⟨Nat.zero_le _, Nat.zero_le _⟩ rfl (fun H locs hW => ?_)
  obtain ⟨g3, h⟩ := grd_s h
  obtain rfl := ret1 h
  rw [hQ]
  exact g_retz hx hb hr hlk hW g3 dX11_isDigit_7
set_option maxHeartbeats 4000000 in
set_option maxRecDepth 100000 in
theorem c_X11_areFeatures (l : Launch) (D : va_G) (T : Nat → ClassId) (A : Nat → Prop)  (Z : va_W)  (p1 : Int32) (p2 : Int32) (p3 : Int32) (r : Int32) (h : f_X11_areFeatures p1 p2 p3 = some r) : Met l yX11_areFeatures (Cond.code yX11_areFeatures cX11_areFeatures 3 (some .boolean) :: wsL_law) (rmd 1) (Pg D T A (Z) [.int p1, .int p2, .int p3]) (Qgi D A (Z) r) 0 0 A := by
  refine Met.ofW (cc := cX11_areFeatures) (maxL := 3) (ret := (some .boolean)) (by decide +kernel) rfl ?_
  intro p e s m args below meth c s₁ B hml hv
  obtain ⟨ha, hP, hK, hD, hN⟩ := hv
  have hx := B.exec
  have hb := B.bytes
  have hr := B.returns
  have hlk := B.notSynchronized
  have hts : ∀ w ∈ wsL_law, w.before args s = true := fun w hw => atoms_spec B.pre w (List.mem_cons_of_mem _ hw)
  have hown : s.vm.findClass RX11 = some m.cls := findClass_of_methodNamed B.named
  have hW : Wd D A s.heap (Z) s.heap [] := ⟨hP, hD, va_S.rf⟩
  have hl := lv_entry [.int p1, .int p2, .int p3] (n := 3) (Nat.le_of_ble_eq_true rfl)
  refine W.eq (en_eq ha) ?_
  generalize (lg_sl [.int p1, .int p2, .int p3] ++ List.replicate (3 - (lg_sl [.int p1, .int p2, .int p3]).length) Slot.unset).toArray = ls at hl ⊢
  have hl : lv_has ls 3 [(0, .int p1), (1, .int p2), (2, .int p3)] := hl
  clear hP hD B ha
  obtain ⟨Q, hQ⟩ : ∃ Q, Q = MQ below (Qgi D A (Z) r) args s 0 0 A := ⟨_, rfl⟩
  rw [← hQ]
  change W p l e (rmd 1) s m args below meth c s.heap [] 0 0 Q (F0 m 0 ls [])
  rw [f_X11_areFeatures] at h
  suffices hm : ∀ (H : Heap) (locs : List Loc), Wd D A s.heap (Z) H locs → W p l e (rmd 1) s m args below meth c H locs 0 0 Q (F0 m 0 ls []) from hm _ _ hW
  intro H locs hW
  refine lv_iload_n hx hb dX11_areFeatures_0 rfl (lv_at hl 0 rfl) ?_
  refine lv_iconst (v := 0) hx hb dX11_areFeatures_1 (by decide) ?_
  refine lv_iconst (v := 3) hx hb dX11_areFeatures_2 (by decide) ?_
  obtain ⟨r1, q2, h⟩ := bnd1_s h
  refine cl_X11_187 hx hb hml hown hts hK hN hW (c_X11_isIn l D T A (Z) p1 0 3 r1 q2) ⟨Nat.le_of_ble_eq_true rfl, Nat.le_of_ble_eq_true rfl⟩ hl.1 rfl (Nat.le_of_ble_eq_true rfl) dX11_areFeatures_3 ⟨Nat.zero_le _, Nat.zero_le _⟩ rfl (fun H locs hW => ?_)
  refine lv_if_eq (tgt := 31) hx hb dX11_areFeatures_6 (by decide) (fun c3 => ?_) (fun c3 => ?_)
  · have h := ite_t c3 h
    refine lv_iconst (v := 0) hx hb dX11_areFeatures_31 (by decide) ?_
    obtain rfl := ret1 h
    rw [hQ]
    exact g_retz hx hb hr hlk hW (by decide) dX11_areFeatures_32
  · have h := ite_f c3 h
    refine lv_iload_n hx hb dX11_areFeatures_9 rfl (lv_at hl 1 rfl) ?_
    refine lv_iconst (v := 0) hx hb dX11_areFeatures_10 (by decide) ?_
    refine lv_iconst (v := 3) hx hb dX11_areFeatures_11 (by decide) ?_
    obtain ⟨r4, q5, h⟩ := bnd1_s h
    refine cl_X11_187 hx hb hml hown hts hK hN hW (c_X11_isIn l D T A (Z) p2 0 3 r4 q5) ⟨Nat.le_of_ble_eq_true rfl, Nat.le_of_ble_eq_true rfl⟩ hl.1 rfl (Nat.le_of_ble_eq_true rfl) dX11_areFeatures_12 ⟨Nat.zero_le _, Nat.zero_le _⟩ rfl (fun H locs hW => ?_)
    refine lv_if_eq (tgt := 31) hx hb dX11_areFeatures_15 (by decide) (fun c6 => ?_) (fun c6 => ?_)
    · have h := ite_t c6 h
      refine lv_iconst (v := 0) hx hb dX11_areFeatures_31 (by decide) ?_
      obtain rfl := ret1 h
      rw [hQ]
      exact g_retz hx hb hr hlk hW (by decide) dX11_areFeatures_32
    · have h := ite_f c6 h
      refine lv_iload_n hx hb dX11_areFeatures_18 rfl (lv_at hl 2 rfl) ?_
      refine lv_iconst (v := 0) hx hb dX11_areFeatures_19 (by decide) ?_
      refine lv_iconst (v := 3) hx hb dX11_areFeatures_20 (by decide) ?_
      obtain ⟨r7, q8, h⟩ := bnd1_s h
      refine cl_X11_187 hx hb hml hown hts hK hN hW (c_X11_isIn l D T A (Z) p3 0 3 r7 q8) ⟨Nat.le_of_ble_eq_true rfl, Nat.le_of_ble_eq_true rfl⟩ hl.1 rfl (Nat.le_of_ble_eq_true rfl) dX11_areFeatures_21 ⟨Nat.zero_le _, Nat.zero_le _⟩ rfl (fun H locs hW => ?_)
      refine lv_if_eq (tgt := 31) hx hb dX11_areFeatures_24 (by decide) (fun c9 => ?_) (fun c9 => ?_)
      · have h := ite_t c9 h
        refine lv_iconst (v := 0) hx hb dX11_areFeatures_31 (by decide) ?_
        obtain rfl := ret1 h
        rw [hQ]
        exact g_retz hx hb hr hlk hW (by decide) dX11_areFeatures_32
      · have h := ite_f c9 h
        refine lv_iconst (v := 1) hx hb dX11_areFeatures_27 (by decide) ?_
        refine lv_goto (tgt := 32) hx hb dX11_areFeatures_28 (by decide) ?_
        obtain rfl := ret1 h
        rw [hQ]
        exact g_retz hx hb hr hlk hW (by decide) dX11_areFeatures_32
set_option maxHeartbeats 4000000 in
set_option maxRecDepth 100000 in
theorem c_X11_isWord (l : Launch) (D : va_G) (T : Nat → ClassId) (A : Nat → Prop) (a_o : Nat → Nat) (Z : va_W)  (x_o : Ob) (p1 : Int32) (r : Int32) (h : f_X11_isWord x_o p1 = some r) : Met l yX11_isWord (Cond.code yX11_isWord cX11_isWord 2 (some .boolean) :: wsL_law) (rmd 1) (Pg D T A (oc_X11 T a_o x_o ++ Z) [.ref (a_o 0), .int p1]) (Qgi D A (oc_X11 T a_o x_o ++ Z) r) 0 0 A := by
  refine Met.ofW (cc := cX11_isWord) (maxL := 2) (ret := (some .boolean)) (by decide +kernel) rfl ?_
  intro p e s m args below meth c s₁ B hml hv
  obtain ⟨ha, hP, hK, hD, hN⟩ := hv
  have hx := B.exec
  have hb := B.bytes
  have hr := B.returns
  have hlk := B.notSynchronized
  have hts : ∀ w ∈ wsL_law, w.before args s = true := fun w hw => atoms_spec B.pre w (List.mem_cons_of_mem _ hw)
  have hown : s.vm.findClass RX11 = some m.cls := findClass_of_methodNamed B.named
  have hW : Wd D A s.heap (oc_X11 T a_o x_o ++ Z) s.heap [] := ⟨hP, hD, va_S.rf⟩
  have hl := lv_entry [.ref (a_o 0), .int p1] (n := 2) (Nat.le_of_ble_eq_true rfl)
  refine W.eq (en_eq ha) ?_
  generalize (lg_sl [.ref (a_o 0), .int p1] ++ List.replicate (2 - (lg_sl [.ref (a_o 0), .int p1]).length) Slot.unset).toArray = ls at hl ⊢
  have hl : lv_has ls 2 [(0, .ref (a_o 0)), (1, .int p1)] := hl
  clear hP hD B ha
  obtain ⟨Q, hQ⟩ : ∃ Q, Q = MQ below (Qgi D A (oc_X11 T a_o x_o ++ Z) r) args s 0 0 A := ⟨_, rfl⟩
  rw [← hQ]
  change W p l e (rmd 1) s m args below meth c s.heap [] 0 0 Q (F0 m 0 ls [])
  rw [f_X11_isWord] at h
  suffices hm : ∀ (H : Heap) (locs : List Loc), Wd D A s.heap (oc_X11 T a_o x_o ++ Z) H locs → W p l e (rmd 1) s m args below meth c H locs 0 0 Q (F0 m 0 ls []) from hm _ _ hW
  intro H locs hW
  refine lv_iload_n hx hb dX11_isWord_0 rfl (lv_at hl 1 rfl) ?_
  refine lv_iconst (v := 0) hx hb dX11_isWord_1 (by decide) ?_
  refine lv_aload_n hx hb dX11_isWord_2 rfl (lv_at hl 0 rfl) ?_
  refine fg_X11_191 (v := .int (x_o 0 0)) hx hb hts hown hK hW 0 rfl rfl dX11_isWord_3 ?_
  refine lv_iconst (v := 1) hx hb dX11_isWord_6 (by decide) ?_
  refine lv_isub hx hb dX11_isWord_7 ?_
  obtain ⟨r1, q2, h⟩ := bnd1_s h
  refine cl_X11_187 hx hb hml hown hts hK hN hW (c_X11_isIn l D T A (oc_X11 T a_o x_o ++ Z) p1 0 ((x_o 0 0) - 1) r1 q2) ⟨Nat.le_of_ble_eq_true rfl, Nat.le_of_ble_eq_true rfl⟩ hl.1 rfl (Nat.le_of_ble_eq_true rfl) dX11_isWord_8 ⟨Nat.zero_le _, Nat.zero_le _⟩ rfl (fun H locs hW => ?_)
  obtain ⟨g3, h⟩ := grd_s h
  obtain rfl := ret1 h
  rw [hQ]
  exact g_retz hx hb hr hlk hW g3 dX11_isWord_11
set_option maxHeartbeats 4000000 in
set_option maxRecDepth 100000 in
theorem c_X11_isSentence (l : Launch) (D : va_G) (T : Nat → ClassId) (A : Nat → Prop)  (Z : va_W)  (p1 : Int32) (r : Int32) (h : f_X11_isSentence p1 = some r) : Met l yX11_isSentence (Cond.code yX11_isSentence cX11_isSentence 1 (some .boolean) :: wsL_law) (rmd 1) (Pg D T A (Z) [.int p1]) (Qgi D A (Z) r) 0 0 A := by
  refine Met.ofW (cc := cX11_isSentence) (maxL := 1) (ret := (some .boolean)) (by decide +kernel) rfl ?_
  intro p e s m args below meth c s₁ B hml hv
  obtain ⟨ha, hP, hK, hD, hN⟩ := hv
  have hx := B.exec
  have hb := B.bytes
  have hr := B.returns
  have hlk := B.notSynchronized
  have hts : ∀ w ∈ wsL_law, w.before args s = true := fun w hw => atoms_spec B.pre w (List.mem_cons_of_mem _ hw)
  have hown : s.vm.findClass RX11 = some m.cls := findClass_of_methodNamed B.named
  have hW : Wd D A s.heap (Z) s.heap [] := ⟨hP, hD, va_S.rf⟩
  have hl := lv_entry [.int p1] (n := 1) (Nat.le_of_ble_eq_true rfl)
  refine W.eq (en_eq ha) ?_
  generalize (lg_sl [.int p1] ++ List.replicate (1 - (lg_sl [.int p1]).length) Slot.unset).toArray = ls at hl ⊢
  have hl : lv_has ls 1 [(0, .int p1)] := hl
  clear hP hD B ha
  obtain ⟨Q, hQ⟩ : ∃ Q, Q = MQ below (Qgi D A (Z) r) args s 0 0 A := ⟨_, rfl⟩
  rw [← hQ]
  change W p l e (rmd 1) s m args below meth c s.heap [] 0 0 Q (F0 m 0 ls [])
  rw [f_X11_isSentence] at h
  suffices hm : ∀ (H : Heap) (locs : List Loc), Wd D A s.heap (Z) H locs → W p l e (rmd 1) s m args below meth c H locs 0 0 Q (F0 m 0 ls []) from hm _ _ hW
  intro H locs hW
  refine lv_iload_n hx hb dX11_isSentence_0 rfl (lv_at hl 0 rfl) ?_
  refine lv_iconst (v := 0) hx hb dX11_isSentence_1 (by decide) ?_
  refine lv_iconst (v := 3) hx hb dX11_isSentence_2 (by decide) ?_
  obtain ⟨r1, q2, h⟩ := bnd1_s h
  refine cl_X11_187 hx hb hml hown hts hK hN hW (c_X11_isIn l D T A (Z) p1 0 3 r1 q2) ⟨Nat.le_of_ble_eq_true rfl, Nat.le_of_ble_eq_true rfl⟩ hl.1 rfl (Nat.le_of_ble_eq_true rfl) dX11_isSentence_3 ⟨Nat.zero_le _, Nat.zero_le _⟩ rfl (fun H locs hW => ?_)
  obtain ⟨g3, h⟩ := grd_s h
  obtain rfl := ret1 h
  rw [hQ]
  exact g_retz hx hb hr hlk hW g3 dX11_isSentence_6
set_option maxHeartbeats 4000000 in
set_option maxRecDepth 100000 in
theorem c_X11_isPlace (l : Launch) (D : va_G) (T : Nat → ClassId) (A : Nat → Prop) (a_o : Nat → Nat) (Z : va_W)  (x_o : Ob) (p1 : Int32) (p2 : Int32) (r : Int32) (h : f_X11_isPlace x_o p1 p2 = some r) : Met l yX11_isPlace (Cond.code yX11_isPlace cX11_isPlace 3 (some .boolean) :: wsL_law) (rmd 2) (Pg D T A (oc_X11 T a_o x_o ++ Z) [.ref (a_o 0), .int p1, .int p2]) (Qgi D A (oc_X11 T a_o x_o ++ Z) r) 0 0 A := by
  refine Met.ofW (cc := cX11_isPlace) (maxL := 3) (ret := (some .boolean)) (by decide +kernel) rfl ?_
  intro p e s m args below meth c s₁ B hml hv
  obtain ⟨ha, hP, hK, hD, hN⟩ := hv
  have hx := B.exec
  have hb := B.bytes
  have hr := B.returns
  have hlk := B.notSynchronized
  have hts : ∀ w ∈ wsL_law, w.before args s = true := fun w hw => atoms_spec B.pre w (List.mem_cons_of_mem _ hw)
  have hown : s.vm.findClass RX11 = some m.cls := findClass_of_methodNamed B.named
  have hW : Wd D A s.heap (oc_X11 T a_o x_o ++ Z) s.heap [] := ⟨hP, hD, va_S.rf⟩
  have hl := lv_entry [.ref (a_o 0), .int p1, .int p2] (n := 3) (Nat.le_of_ble_eq_true rfl)
  refine W.eq (en_eq ha) ?_
  generalize (lg_sl [.ref (a_o 0), .int p1, .int p2] ++ List.replicate (3 - (lg_sl [.ref (a_o 0), .int p1, .int p2]).length) Slot.unset).toArray = ls at hl ⊢
  have hl : lv_has ls 3 [(0, .ref (a_o 0)), (1, .int p1), (2, .int p2)] := hl
  clear hP hD B ha
  obtain ⟨Q, hQ⟩ : ∃ Q, Q = MQ below (Qgi D A (oc_X11 T a_o x_o ++ Z) r) args s 0 0 A := ⟨_, rfl⟩
  rw [← hQ]
  change W p l e (rmd 2) s m args below meth c s.heap [] 0 0 Q (F0 m 0 ls [])
  rw [f_X11_isPlace] at h
  suffices hm : ∀ (H : Heap) (locs : List Loc), Wd D A s.heap (oc_X11 T a_o x_o ++ Z) H locs → W p l e (rmd 2) s m args below meth c H locs 0 0 Q (F0 m 0 ls []) from hm _ _ hW
  intro H locs hW
  refine lv_iload_n hx hb dX11_isPlace_0 rfl (lv_at hl 1 rfl) ?_
  obtain ⟨r1, q2, h⟩ := bnd1_s h
  refine cl_X11_194 hx hb hml hown hts hK hN hW (c_X11_isSentence l D T A (oc_X11 T a_o x_o ++ Z) p1 r1 q2) ⟨Nat.le_of_ble_eq_true rfl, Nat.le_of_ble_eq_true rfl⟩ hl.1 rfl (Nat.le_of_ble_eq_true rfl) dX11_isPlace_1 ⟨Nat.zero_le _, Nat.zero_le _⟩ rfl (fun H locs hW => ?_)
  refine lv_if_eq (tgt := 27) hx hb dX11_isPlace_4 (by decide) (fun c3 => ?_) (fun c3 => ?_)
  · have h := ite_t c3 h
    refine lv_iconst (v := 0) hx hb dX11_isPlace_27 (by decide) ?_
    obtain rfl := ret1 h
    rw [hQ]
    exact g_retz hx hb hr hlk hW (by decide) dX11_isPlace_28
  · have h := ite_f c3 h
    refine lv_iload_n hx hb dX11_isPlace_7 rfl (lv_at hl 2 rfl) ?_
    refine lv_iconst (v := 0) hx hb dX11_isPlace_8 (by decide) ?_
    refine lv_aload_n hx hb dX11_isPlace_9 rfl (lv_at hl 0 rfl) ?_
    refine fg_X11_34 (v := .ref (a_o 9)) hx hb hts hown hK hW 0 rfl rfl dX11_isPlace_10 ?_
    refine lv_iload_n hx hb dX11_isPlace_13 rfl (lv_at hl 1 rfl) ?_
    obtain ⟨g4, h⟩ := grd_s h
    refine g_iald hx hb hK hW 9 rfl g4 dX11_isPlace_14 ?_
    refine lv_iconst (v := 1) hx hb dX11_isPlace_15 (by decide) ?_
    refine lv_isub hx hb dX11_isPlace_16 ?_
    obtain ⟨r5, q6, h⟩ := bnd1_s h
    refine cl_X11_187 hx hb hml hown hts hK hN hW (c_X11_isIn l D T A (oc_X11 T a_o x_o ++ Z) p2 0 ((x_o 9 p1.toNatClampNeg) - 1) r5 q6) ⟨Nat.le_of_ble_eq_true rfl, Nat.le_of_ble_eq_true rfl⟩ hl.1 rfl (Nat.le_of_ble_eq_true rfl) dX11_isPlace_17 ⟨Nat.zero_le _, Nat.zero_le _⟩ rfl (fun H locs hW => ?_)
    refine lv_if_eq (tgt := 27) hx hb dX11_isPlace_20 (by decide) (fun c7 => ?_) (fun c7 => ?_)
    · have h := ite_t c7 h
      refine lv_iconst (v := 0) hx hb dX11_isPlace_27 (by decide) ?_
      obtain rfl := ret1 h
      rw [hQ]
      exact g_retz hx hb hr hlk hW (by decide) dX11_isPlace_28
    · have h := ite_f c7 h
      refine lv_iconst (v := 1) hx hb dX11_isPlace_23 (by decide) ?_
      refine lv_goto (tgt := 28) hx hb dX11_isPlace_24 (by decide) ?_
      obtain rfl := ret1 h
      rw [hQ]
      exact g_retz hx hb hr hlk hW (by decide) dX11_isPlace_28
set_option maxHeartbeats 4000000 in
set_option maxRecDepth 100000 in
theorem c_X11_isSpan (l : Launch) (D : va_G) (T : Nat → ClassId) (A : Nat → Prop) (a_o : Nat → Nat) (Z : va_W)  (x_o : Ob) (p1 : Int32) (p2 : Int32) (p3 : Int32) (r : Int32) (h : f_X11_isSpan x_o p1 p2 p3 = some r) : Met l yX11_isSpan (Cond.code yX11_isSpan cX11_isSpan 4 (some .boolean) :: wsL_law) (rmd 3) (Pg D T A (oc_X11 T a_o x_o ++ Z) [.ref (a_o 0), .int p1, .int p2, .int p3]) (Qgi D A (oc_X11 T a_o x_o ++ Z) r) 0 0 A := by
  refine Met.ofW (cc := cX11_isSpan) (maxL := 4) (ret := (some .boolean)) (by decide +kernel) rfl ?_
  intro p e s m args below meth c s₁ B hml hv
  obtain ⟨ha, hP, hK, hD, hN⟩ := hv
  have hx := B.exec
  have hb := B.bytes
  have hr := B.returns
  have hlk := B.notSynchronized
  have hts : ∀ w ∈ wsL_law, w.before args s = true := fun w hw => atoms_spec B.pre w (List.mem_cons_of_mem _ hw)
  have hown : s.vm.findClass RX11 = some m.cls := findClass_of_methodNamed B.named
  have hW : Wd D A s.heap (oc_X11 T a_o x_o ++ Z) s.heap [] := ⟨hP, hD, va_S.rf⟩
  have hl := lv_entry [.ref (a_o 0), .int p1, .int p2, .int p3] (n := 4) (Nat.le_of_ble_eq_true rfl)
  refine W.eq (en_eq ha) ?_
  generalize (lg_sl [.ref (a_o 0), .int p1, .int p2, .int p3] ++ List.replicate (4 - (lg_sl [.ref (a_o 0), .int p1, .int p2, .int p3]).length) Slot.unset).toArray = ls at hl ⊢
  have hl : lv_has ls 4 [(0, .ref (a_o 0)), (1, .int p1), (2, .int p2), (3, .int p3)] := hl
  clear hP hD B ha
  obtain ⟨Q, hQ⟩ : ∃ Q, Q = MQ below (Qgi D A (oc_X11 T a_o x_o ++ Z) r) args s 0 0 A := ⟨_, rfl⟩
  rw [← hQ]
  change W p l e (rmd 3) s m args below meth c s.heap [] 0 0 Q (F0 m 0 ls [])
  rw [f_X11_isSpan] at h
  suffices hm : ∀ (H : Heap) (locs : List Loc), Wd D A s.heap (oc_X11 T a_o x_o ++ Z) H locs → W p l e (rmd 3) s m args below meth c H locs 0 0 Q (F0 m 0 ls []) from hm _ _ hW
  intro H locs hW
  refine lv_aload_n hx hb dX11_isSpan_0 rfl (lv_at hl 0 rfl) ?_
  refine lv_iload_n hx hb dX11_isSpan_1 rfl (lv_at hl 1 rfl) ?_
  refine lv_iload_n hx hb dX11_isSpan_2 rfl (lv_at hl 2 rfl) ?_
  obtain ⟨r1, q2, h⟩ := bnd1_s h
  refine cl_X11_198 hx hb hml hown hts hK hN hW (c_X11_isPlace l D T A a_o (Z) x_o p1 p2 r1 q2) ⟨Nat.le_of_ble_eq_true rfl, Nat.le_of_ble_eq_true rfl⟩ hl.1 rfl (Nat.le_of_ble_eq_true rfl) dX11_isSpan_3 ⟨Nat.zero_le _, Nat.zero_le _⟩ rfl (fun H locs hW => ?_)
  refine lv_if_eq (tgt := 29) hx hb dX11_isSpan_6 (by decide) (fun c3 => ?_) (fun c3 => ?_)
  · have h := ite_t c3 h
    refine lv_iconst (v := 0) hx hb dX11_isSpan_29 (by decide) ?_
    obtain rfl := ret1 h
    rw [hQ]
    exact g_retz hx hb hr hlk hW (by decide) dX11_isSpan_30
  · have h := ite_f c3 h
    refine lv_iload_n hx hb dX11_isSpan_9 rfl (lv_at hl 3 rfl) ?_
    refine lv_iconst (v := 1) hx hb dX11_isSpan_10 (by decide) ?_
    refine lv_aload_n hx hb dX11_isSpan_11 rfl (lv_at hl 0 rfl) ?_
    refine fg_X11_34 (v := .ref (a_o 9)) hx hb hts hown hK hW 0 rfl rfl dX11_isSpan_12 ?_
    refine lv_iload_n hx hb dX11_isSpan_15 rfl (lv_at hl 1 rfl) ?_
    obtain ⟨g4, h⟩ := grd_s h
    refine g_iald hx hb hK hW 9 rfl g4 dX11_isSpan_16 ?_
    refine lv_iload_n hx hb dX11_isSpan_17 rfl (lv_at hl 2 rfl) ?_
    refine lv_isub hx hb dX11_isSpan_18 ?_
    obtain ⟨r5, q6, h⟩ := bnd1_s h
    refine cl_X11_187 hx hb hml hown hts hK hN hW (c_X11_isIn l D T A (oc_X11 T a_o x_o ++ Z) p3 1 ((x_o 9 p1.toNatClampNeg) - p2) r5 q6) ⟨Nat.le_of_ble_eq_true rfl, Nat.le_of_ble_eq_true rfl⟩ hl.1 rfl (Nat.le_of_ble_eq_true rfl) dX11_isSpan_19 ⟨Nat.zero_le _, Nat.zero_le _⟩ rfl (fun H locs hW => ?_)
    refine lv_if_eq (tgt := 29) hx hb dX11_isSpan_22 (by decide) (fun c7 => ?_) (fun c7 => ?_)
    · have h := ite_t c7 h
      refine lv_iconst (v := 0) hx hb dX11_isSpan_29 (by decide) ?_
      obtain rfl := ret1 h
      rw [hQ]
      exact g_retz hx hb hr hlk hW (by decide) dX11_isSpan_30
    · have h := ite_f c7 h
      refine lv_iconst (v := 1) hx hb dX11_isSpan_25 (by decide) ?_
      refine lv_goto (tgt := 30) hx hb dX11_isSpan_26 (by decide) ?_
      obtain rfl := ret1 h
      rw [hQ]
      exact g_retz hx hb hr hlk hW (by decide) dX11_isSpan_30
set_option maxHeartbeats 4000000 in
set_option maxRecDepth 100000 in
theorem c_X11_word (l : Launch) (D : va_G) (T : Nat → ClassId) (A : Nat → Prop) (a_o : Nat → Nat) (Z : va_W)  (x_o : Ob) (p1 : Int32) (r : Int32) (x_o9 : Ob) (h : f_X11_word x_o p1 = some (r, x_o9)) : Met l yX11_word (Cond.code yX11_word cX11_word 2 (some .int) :: wsL_law) (rmd 2) (Pg D T A (oc_X11 T a_o x_o ++ Z) [.ref (a_o 0), .int p1]) (Qgi D A (oc_X11 T a_o x_o9 ++ Z) r) 0 0 A := by
  refine Met.ofW (cc := cX11_word) (maxL := 2) (ret := (some .int)) (by decide +kernel) rfl ?_
  intro p e s m args below meth c s₁ B hml hv
  obtain ⟨ha, hP, hK, hD, hN⟩ := hv
  have hx := B.exec
  have hb := B.bytes
  have hr := B.returns
  have hlk := B.notSynchronized
  have hts : ∀ w ∈ wsL_law, w.before args s = true := fun w hw => atoms_spec B.pre w (List.mem_cons_of_mem _ hw)
  have hown : s.vm.findClass RX11 = some m.cls := findClass_of_methodNamed B.named
  have hW : Wd D A s.heap (oc_X11 T a_o x_o ++ Z) s.heap [] := ⟨hP, hD, va_S.rf⟩
  have hl := lv_entry [.ref (a_o 0), .int p1] (n := 2) (Nat.le_of_ble_eq_true rfl)
  refine W.eq (en_eq ha) ?_
  generalize (lg_sl [.ref (a_o 0), .int p1] ++ List.replicate (2 - (lg_sl [.ref (a_o 0), .int p1]).length) Slot.unset).toArray = ls at hl ⊢
  have hl : lv_has ls 2 [(0, .ref (a_o 0)), (1, .int p1)] := hl
  clear hP hD B ha
  obtain ⟨Q, hQ⟩ : ∃ Q, Q = MQ below (Qgi D A (oc_X11 T a_o x_o9 ++ Z) r) args s 0 0 A := ⟨_, rfl⟩
  rw [← hQ]
  change W p l e (rmd 2) s m args below meth c s.heap [] 0 0 Q (F0 m 0 ls [])
  have J19 : ∀ (x_o_19 : Ob) (v1_19 : Int32) (s1_19 : Int32) (s2_19 : Int32) (H : Heap) (locs : List Loc) (ls : Array Slot), Wd D A s.heap (oc_X11 T a_o x_o_19 ++ Z) H locs → lv_has ls 2 [(0, .ref (a_o 0)), (1, .int v1_19)] → f_X11_word_J19 x_o_19 v1_19 s1_19 s2_19 = some (r, x_o9) → W p l e (rmd 2) s m args below meth c H locs 0 0 Q (F0 m 19 ls [.int s2_19, .int s1_19, .ref (a_o 0)]) := by
    intro x_o_19 v1_19 s1_19 s2_19 H locs ls hW hl h
    rw [f_X11_word_J19] at h
    obtain ⟨r4, x_o5, q6, h⟩ := bnd2_s h
    refine cl_X11_205 hx hb hml hown hts hK hN hW (c_X11_mayBoth l D T A a_o (Z) x_o_19 s1_19 s2_19 r4 x_o5 q6) ⟨Nat.le_of_ble_eq_true rfl, Nat.le_of_ble_eq_true rfl⟩ hl.1 rfl (Nat.le_of_ble_eq_true rfl) dX11_word_19 ⟨Nat.zero_le _, Nat.zero_le _⟩ rfl (fun H locs hW => ?_)
    refine lv_if_ne (tgt := 27) hx hb dX11_word_22 (by decide) (fun c7 => ?_) (fun c7 => ?_)
    · have h := ite_f c7 h
      refine lv_aload_n hx hb dX11_word_27 rfl (lv_at hl 0 rfl) ?_
      refine fg_X11_7 (v := .ref (a_o 1)) hx hb hts hown hK hW 0 rfl rfl dX11_word_28 ?_
      refine lv_aload_n hx hb dX11_word_31 rfl (lv_at hl 0 rfl) ?_
      refine fg_X11_191 (v := .int (x_o5 0 0)) hx hb hts hown hK hW 0 rfl rfl dX11_word_32 ?_
      refine lv_iload_n hx hb dX11_word_35 rfl (lv_at hl 1 rfl) ?_
      obtain ⟨g8, h⟩ := grd_s h
      refine g_iast (ws9 := oc_X11 T a_o (upo x_o5 1 (x_o5 0 0).toNatClampNeg v1_19) ++ Z) hx hb hK hW 1 rfl g8 sa_X11_1 dX11_word_36 (fun H locs hW => ?_)
      obtain ⟨x_o9, ex_o9⟩ : ∃ y : Ob, y = upo x_o5 1 (x_o5 0 0).toNatClampNeg v1_19 := ⟨_, rfl⟩
      rw [← ex_o9] at hW
      have h := lb_at ex_o9 h
      refine lv_aload_n hx hb dX11_word_37 rfl (lv_at hl 0 rfl) ?_
      refine lv_dup hx hb dX11_word_38 rfl ?_
      refine fg_X11_191 (v := .int (x_o9 0 0)) hx hb hts hown hK hW 0 rfl rfl dX11_word_39 ?_
      refine lv_iconst (v := 1) hx hb dX11_word_42 (by decide) ?_
      refine lv_iadd hx hb dX11_word_43 ?_
      refine fp_X11_191 (ws9 := oc_X11 T a_o (upo x_o9 0 0 ((x_o9 0 0) + 1)) ++ Z) hx hb hts hown hK hW 0 rfl (Nat.le_of_ble_eq_true rfl) sf_X11_0 dX11_word_44 (fun H locs hW => ?_)
      obtain ⟨x_o10, ex_o10⟩ : ∃ y : Ob, y = upo x_o9 0 0 ((x_o9 0 0) + 1) := ⟨_, rfl⟩
      rw [← ex_o10] at hW
      have h := lb_at ex_o10 h
      refine lv_aload_n hx hb dX11_word_47 rfl (lv_at hl 0 rfl) ?_
      refine fg_X11_191 (v := .int (x_o10 0 0)) hx hb hts hown hK hW 0 rfl rfl dX11_word_48 ?_
      refine lv_iconst (v := 1) hx hb dX11_word_51 (by decide) ?_
      refine lv_isub hx hb dX11_word_52 ?_
      obtain ⟨rfl, rfl⟩ := ret2 h
      rw [hQ]
      exact g_reti hx hb hr hlk hW dX11_word_53
    · have h := ite_t c7 h
      refine lv_iconst (v := 0) hx hb dX11_word_25 (by decide) ?_
      obtain ⟨rfl, rfl⟩ := ret2 h
      rw [hQ]
      exact g_reti hx hb hr hlk hW dX11_word_26
  rw [f_X11_word] at h
  suffices hm : ∀ (H : Heap) (locs : List Loc), Wd D A s.heap (oc_X11 T a_o x_o ++ Z) H locs → W p l e (rmd 2) s m args below meth c H locs 0 0 Q (F0 m 0 ls []) from hm _ _ hW
  intro H locs hW
  refine lv_aload_n hx hb dX11_word_0 rfl (lv_at hl 0 rfl) ?_
  refine lv_iload_n hx hb dX11_word_1 rfl (lv_at hl 1 rfl) ?_
  obtain ⟨r1, q2, h⟩ := bnd1_s h
  refine cl_X11_202 hx hb hml hown hts hK hN hW (c_X11_isDigit l D T A (oc_X11 T a_o x_o ++ Z) p1 r1 q2) ⟨Nat.le_of_ble_eq_true rfl, Nat.le_of_ble_eq_true rfl⟩ hl.1 rfl (Nat.le_of_ble_eq_true rfl) dX11_word_2 ⟨Nat.zero_le _, Nat.zero_le _⟩ rfl (fun H locs hW => ?_)
  refine lv_aload_n hx hb dX11_word_5 rfl (lv_at hl 0 rfl) ?_
  refine fg_X11_191 (v := .int (x_o 0 0)) hx hb hts hown hK hW 0 rfl rfl dX11_word_6 ?_
  refine lv_bipush (v := 40) hx hb dX11_word_9 (by decide) ?_
  refine lv_icmp_ge (tgt := 18) hx hb dX11_word_11 (by decide) (fun c3 => ?_) (fun c3 => ?_)
  · have h := ite_t c3 h
    refine lv_iconst (v := 0) hx hb dX11_word_18 (by decide) ?_
    exact J19 _ _ _ _ H locs ls hW (lv_sub hl [0, 1] rfl) h
  · have h := ite_f c3 h
    refine lv_iconst (v := 1) hx hb dX11_word_14 (by decide) ?_
    refine lv_goto (tgt := 19) hx hb dX11_word_15 (by decide) ?_
    exact J19 _ _ _ _ H locs ls hW (lv_sub hl [0, 1] rfl) h
set_option maxHeartbeats 4000000 in
set_option maxRecDepth 100000 in
theorem c_X11_reading (l : Launch) (D : va_G) (T : Nat → ClassId) (A : Nat → Prop) (a_o : Nat → Nat) (Z : va_W)  (x_o : Ob) (p1 : Int32) (p2 : Int32) (p3 : Int32) (p4 : Int32) (p5 : Int32) (p6 : Int32) (r : Int32) (x_o9 : Ob) (h : f_X11_reading x_o p1 p2 p3 p4 p5 p6 = some (r, x_o9)) : Met l yX11_reading (Cond.code yX11_reading cX11_reading 10 (some .int) :: wsL_law) (rmd 2) (Pg D T A (oc_X11 T a_o x_o ++ Z) [.ref (a_o 0), .int p1, .int p2, .int p3, .int p4, .int p5, .int p6]) (Qgi D A (oc_X11 T a_o x_o9 ++ Z) r) 0 0 A := by
  refine Met.ofW (cc := cX11_reading) (maxL := 10) (ret := (some .int)) (by decide +kernel) rfl ?_
  intro p e s m args below meth c s₁ B hml hv
  obtain ⟨ha, hP, hK, hD, hN⟩ := hv
  have hx := B.exec
  have hb := B.bytes
  have hr := B.returns
  have hlk := B.notSynchronized
  have hts : ∀ w ∈ wsL_law, w.before args s = true := fun w hw => atoms_spec B.pre w (List.mem_cons_of_mem _ hw)
  have hown : s.vm.findClass RX11 = some m.cls := findClass_of_methodNamed B.named
  have hW : Wd D A s.heap (oc_X11 T a_o x_o ++ Z) s.heap [] := ⟨hP, hD, va_S.rf⟩
  have hl := lv_entry [.ref (a_o 0), .int p1, .int p2, .int p3, .int p4, .int p5, .int p6] (n := 10) (Nat.le_of_ble_eq_true rfl)
  refine W.eq (en_eq ha) ?_
  generalize (lg_sl [.ref (a_o 0), .int p1, .int p2, .int p3, .int p4, .int p5, .int p6] ++ List.replicate (10 - (lg_sl [.ref (a_o 0), .int p1, .int p2, .int p3, .int p4, .int p5, .int p6]).length) Slot.unset).toArray = ls at hl ⊢
  have hl : lv_has ls 10 [(0, .ref (a_o 0)), (1, .int p1), (2, .int p2), (3, .int p3), (4, .int p4), (5, .int p5), (6, .int p6)] := hl
  clear hP hD B ha
  obtain ⟨Q, hQ⟩ : ∃ Q, Q = MQ below (Qgi D A (oc_X11 T a_o x_o9 ++ Z) r) args s 0 0 A := ⟨_, rfl⟩
  rw [← hQ]
  change W p l e (rmd 2) s m args below meth c s.heap [] 0 0 Q (F0 m 0 ls [])
  have J68 : ∀ (x_o_68 : Ob) (v1_68 : Int32) (v2_68 : Int32) (v3_68 : Int32) (v4_68 : Int32) (v5_68 : Int32) (v6_68 : Int32) (s1_68 : Int32) (s2_68 : Int32) (s3_68 : Int32) (H : Heap) (locs : List Loc) (ls : Array Slot), Wd D A s.heap (oc_X11 T a_o x_o_68 ++ Z) H locs → lv_has ls 10 [(0, .ref (a_o 0)), (1, .int v1_68), (2, .int v2_68), (3, .int v3_68), (4, .int v4_68), (5, .int v5_68), (6, .int v6_68)] → f_X11_reading_J68 x_o_68 v1_68 v2_68 v3_68 v4_68 v5_68 v6_68 s1_68 s2_68 s3_68 = some (r, x_o9) → W p l e (rmd 2) s m args below meth c H locs 0 0 Q (F0 m 68 ls [.int s3_68, .int s2_68, .int s1_68, .ref (a_o 0)]) := by
    intro x_o_68 v1_68 v2_68 v3_68 v4_68 v5_68 v6_68 s1_68 s2_68 s3_68 H locs ls hW hl h
    rw [f_X11_reading_J68] at h
    obtain ⟨r7, x_o8, q9, h⟩ := bnd2_s h
    refine cl_X11_215 hx hb hml hown hts hK hN hW (c_X11_mayAll l D T A a_o (Z) x_o_68 s1_68 s2_68 s3_68 r7 x_o8 q9) ⟨Nat.le_of_ble_eq_true rfl, Nat.le_of_ble_eq_true rfl⟩ hl.1 rfl (Nat.le_of_ble_eq_true rfl) dX11_reading_68 ⟨Nat.zero_le _, Nat.zero_le _⟩ rfl (fun H locs hW => ?_)
    refine lv_if_ne (tgt := 76) hx hb dX11_reading_71 (by decide) (fun c10 => ?_) (fun c10 => ?_)
    · have h := ite_f c10 h
      refine lv_iconst (v := 4) hx hb dX11_reading_76 (by decide) ?_
      refine lv_iload_n hx hb dX11_reading_77 rfl (lv_at hl 1 rfl) ?_
      refine lv_imul hx hb dX11_reading_78 ?_
      refine lv_aload_n hx hb dX11_reading_79 rfl (lv_at hl 0 rfl) ?_
      refine fg_X11_13 (v := .ref (a_o 2)) hx hb hts hown hK hW 0 rfl rfl dX11_reading_80 ?_
      refine lv_iload_n hx hb dX11_reading_83 rfl (lv_at hl 1 rfl) ?_
      obtain ⟨g11, h⟩ := grd_s h
      refine g_iald hx hb hK hW 2 rfl g11 dX11_reading_84 ?_
      refine lv_iadd hx hb dX11_reading_85 ?_
      refine lv_topi (fun w9_12 ew9_12 => ?_)
      have h := lb_at ew9_12 h
      refine lv_istore (lv' := [(9, .int w9_12), (0, .ref (a_o 0)), (1, .int v1_68), (2, .int v2_68), (3, .int v3_68), (4, .int v4_68), (5, .int v5_68), (6, .int v6_68)]) hx hb dX11_reading_86 hl (by decide) rfl (fun ls hl => ?_)
      refine lv_aload_n hx hb dX11_reading_88 rfl (lv_at hl 1 rfl) ?_
      refine fg_X11_16 (v := .ref (a_o 3)) hx hb hts hown hK hW 0 rfl rfl dX11_reading_89 ?_
      refine lv_iload hx hb dX11_reading_92 (lv_at hl 0 rfl) ?_
      refine lv_iload_n hx hb dX11_reading_94 rfl (lv_at hl 3 rfl) ?_
      obtain ⟨g13, h⟩ := grd_s h
      refine g_iast (ws9 := oc_X11 T a_o (upo x_o8 3 w9_12.toNatClampNeg v2_68) ++ Z) hx hb hK hW 3 rfl g13 sa_X11_3 dX11_reading_95 (fun H locs hW => ?_)
      obtain ⟨x_o14, ex_o14⟩ : ∃ y : Ob, y = upo x_o8 3 w9_12.toNatClampNeg v2_68 := ⟨_, rfl⟩
      rw [← ex_o14] at hW
      have h := lb_at ex_o14 h
      refine lv_aload_n hx hb dX11_reading_96 rfl (lv_at hl 1 rfl) ?_
      refine fg_X11_19 (v := .ref (a_o 4)) hx hb hts hown hK hW 0 rfl rfl dX11_reading_97 ?_
      refine lv_iload hx hb dX11_reading_100 (lv_at hl 0 rfl) ?_
      refine lv_iload_n hx hb dX11_reading_102 rfl (lv_at hl 4 rfl) ?_
      obtain ⟨g15, h⟩ := grd_s h
      refine g_iast (ws9 := oc_X11 T a_o (upo x_o14 4 w9_12.toNatClampNeg v3_68) ++ Z) hx hb hK hW 4 rfl g15 sa_X11_4 dX11_reading_103 (fun H locs hW => ?_)
      obtain ⟨x_o16, ex_o16⟩ : ∃ y : Ob, y = upo x_o14 4 w9_12.toNatClampNeg v3_68 := ⟨_, rfl⟩
      rw [← ex_o16] at hW
      have h := lb_at ex_o16 h
      refine lv_aload_n hx hb dX11_reading_104 rfl (lv_at hl 1 rfl) ?_
      refine fg_X11_22 (v := .ref (a_o 5)) hx hb hts hown hK hW 0 rfl rfl dX11_reading_105 ?_
      refine lv_iconst (v := 3) hx hb dX11_reading_108 (by decide) ?_
      refine lv_iload hx hb dX11_reading_109 (lv_at hl 0 rfl) ?_
      refine lv_imul hx hb dX11_reading_111 ?_
      refine lv_iload hx hb dX11_reading_112 (lv_at hl 5 rfl) ?_
      obtain ⟨g17, h⟩ := grd_s h
      refine g_iast (ws9 := oc_X11 T a_o (upo x_o16 5 (3 * w9_12).toNatClampNeg v4_68) ++ Z) hx hb hK hW 5 rfl g17 sa_X11_5 dX11_reading_114 (fun H locs hW => ?_)
      obtain ⟨x_o18, ex_o18⟩ : ∃ y : Ob, y = upo x_o16 5 (3 * w9_12).toNatClampNeg v4_68 := ⟨_, rfl⟩
      rw [← ex_o18] at hW
      have h := lb_at ex_o18 h
      refine lv_aload_n hx hb dX11_reading_115 rfl (lv_at hl 1 rfl) ?_
      refine fg_X11_22 (v := .ref (a_o 5)) hx hb hts hown hK hW 0 rfl rfl dX11_reading_116 ?_
      refine lv_iconst (v := 3) hx hb dX11_reading_119 (by decide) ?_
      refine lv_iload hx hb dX11_reading_120 (lv_at hl 0 rfl) ?_
      refine lv_imul hx hb dX11_reading_122 ?_
      refine lv_iconst (v := 1) hx hb dX11_reading_123 (by decide) ?_
      refine lv_iadd hx hb dX11_reading_124 ?_
      refine lv_iload hx hb dX11_reading_125 (lv_at hl 6 rfl) ?_
      obtain ⟨g19, h⟩ := grd_s h
      refine g_iast (ws9 := oc_X11 T a_o (upo x_o18 5 ((3 * w9_12) + 1).toNatClampNeg v5_68) ++ Z) hx hb hK hW 5 rfl g19 sa_X11_5 dX11_reading_127 (fun H locs hW => ?_)
      obtain ⟨x_o20, ex_o20⟩ : ∃ y : Ob, y = upo x_o18 5 ((3 * w9_12) + 1).toNatClampNeg v5_68 := ⟨_, rfl⟩
      rw [← ex_o20] at hW
      have h := lb_at ex_o20 h
      refine lv_aload_n hx hb dX11_reading_128 rfl (lv_at hl 1 rfl) ?_
      refine fg_X11_22 (v := .ref (a_o 5)) hx hb hts hown hK hW 0 rfl rfl dX11_reading_129 ?_
      refine lv_iconst (v := 3) hx hb dX11_reading_132 (by decide) ?_
      refine lv_iload hx hb dX11_reading_133 (lv_at hl 0 rfl) ?_
      refine lv_imul hx hb dX11_reading_135 ?_
      refine lv_iconst (v := 2) hx hb dX11_reading_136 (by decide) ?_
      refine lv_iadd hx hb dX11_reading_137 ?_
      refine lv_iload hx hb dX11_reading_138 (lv_at hl 7 rfl) ?_
      obtain ⟨g21, h⟩ := grd_s h
      refine g_iast (ws9 := oc_X11 T a_o (upo x_o20 5 ((3 * w9_12) + 2).toNatClampNeg v6_68) ++ Z) hx hb hK hW 5 rfl g21 sa_X11_5 dX11_reading_140 (fun H locs hW => ?_)
      obtain ⟨x_o22, ex_o22⟩ : ∃ y : Ob, y = upo x_o20 5 ((3 * w9_12) + 2).toNatClampNeg v6_68 := ⟨_, rfl⟩
      rw [← ex_o22] at hW
      have h := lb_at ex_o22 h
      refine lv_aload_n hx hb dX11_reading_141 rfl (lv_at hl 1 rfl) ?_
      refine fg_X11_13 (v := .ref (a_o 2)) hx hb hts hown hK hW 0 rfl rfl dX11_reading_142 ?_
      refine lv_iload_n hx hb dX11_reading_145 rfl (lv_at hl 2 rfl) ?_
      refine lv_dup2_11 hx hb dX11_reading_146 rfl rfl ?_
      obtain ⟨g23, h⟩ := grd_s h
      refine g_iald hx hb hK hW 2 rfl g23 dX11_reading_147 ?_
      refine lv_iconst (v := 1) hx hb dX11_reading_148 (by decide) ?_
      refine lv_iadd hx hb dX11_reading_149 ?_
      obtain ⟨g24, h⟩ := grd_s h
      refine g_iast (ws9 := oc_X11 T a_o (upo x_o22 2 v1_68.toNatClampNeg ((x_o22 2 v1_68.toNatClampNeg) + 1)) ++ Z) hx hb hK hW 2 rfl g24 sa_X11_2 dX11_reading_150 (fun H locs hW => ?_)
      obtain ⟨x_o25, ex_o25⟩ : ∃ y : Ob, y = upo x_o22 2 v1_68.toNatClampNeg ((x_o22 2 v1_68.toNatClampNeg) + 1) := ⟨_, rfl⟩
      rw [← ex_o25] at hW
      have h := lb_at ex_o25 h
      refine lv_aload_n hx hb dX11_reading_151 rfl (lv_at hl 1 rfl) ?_
      refine lv_dup hx hb dX11_reading_152 rfl ?_
      refine fg_X11_219 (v := .int (x_o25 52 0)) hx hb hts hown hK hW 0 rfl rfl dX11_reading_153 ?_
      refine lv_iconst (v := 1) hx hb dX11_reading_156 (by decide) ?_
      refine lv_iadd hx hb dX11_reading_157 ?_
      refine fp_X11_219 (ws9 := oc_X11 T a_o (upo x_o25 52 0 ((x_o25 52 0) + 1)) ++ Z) hx hb hts hown hK hW 0 rfl (Nat.le_of_ble_eq_true rfl) sf_X11_52 dX11_reading_158 (fun H locs hW => ?_)
      obtain ⟨x_o26, ex_o26⟩ : ∃ y : Ob, y = upo x_o25 52 0 ((x_o25 52 0) + 1) := ⟨_, rfl⟩
      rw [← ex_o26] at hW
      have h := lb_at ex_o26 h
      refine lv_aload_n hx hb dX11_reading_161 rfl (lv_at hl 1 rfl) ?_
      refine fg_X11_13 (v := .ref (a_o 2)) hx hb hts hown hK hW 0 rfl rfl dX11_reading_162 ?_
      refine lv_iload_n hx hb dX11_reading_165 rfl (lv_at hl 2 rfl) ?_
      obtain ⟨g27, h⟩ := grd_s h
      refine g_iald hx hb hK hW 2 rfl g27 dX11_reading_166 ?_
      obtain ⟨rfl, rfl⟩ := ret2 h
      rw [hQ]
      exact g_reti hx hb hr hlk hW dX11_reading_167
    · have h := ite_t c10 h
      refine lv_iconst (v := 0) hx hb dX11_reading_74 (by decide) ?_
      obtain ⟨rfl, rfl⟩ := ret2 h
      rw [hQ]
      exact g_reti hx hb hr hlk hW dX11_reading_75
  have J67 : ∀ (x_o_67 : Ob) (v1_67 : Int32) (v2_67 : Int32) (v3_67 : Int32) (v4_67 : Int32) (v5_67 : Int32) (v6_67 : Int32) (s1_67 : Int32) (s2_67 : Int32) (H : Heap) (locs : List Loc) (ls : Array Slot), Wd D A s.heap (oc_X11 T a_o x_o_67 ++ Z) H locs → lv_has ls 10 [(0, .ref (a_o 0)), (1, .int v1_67), (2, .int v2_67), (3, .int v3_67), (4, .int v4_67), (5, .int v5_67), (6, .int v6_67)] → f_X11_reading_J67 x_o_67 v1_67 v2_67 v3_67 v4_67 v5_67 v6_67 s1_67 s2_67 = some (r, x_o9) → W p l e (rmd 2) s m args below meth c H locs 0 0 Q (F0 m 67 ls [.int s2_67, .int s1_67, .ref (a_o 0)]) := by
    intro x_o_67 v1_67 v2_67 v3_67 v4_67 v5_67 v6_67 s1_67 s2_67 H locs ls hW hl h
    rw [f_X11_reading_J67] at h
    refine lv_iconst (v := 0) hx hb dX11_reading_67 (by decide) ?_
    exact J68 _ _ _ _ _ _ _ _ _ _ H locs ls hW (lv_sub hl [0, 1, 2, 3, 4, 5, 6] rfl) h
  have J41 : ∀ (x_o_41 : Ob) (v1_41 : Int32) (v2_41 : Int32) (v3_41 : Int32) (v4_41 : Int32) (v5_41 : Int32) (v6_41 : Int32) (v7_41 : Int32) (s0_41 : Int32) (H : Heap) (locs : List Loc) (ls : Array Slot), Wd D A s.heap (oc_X11 T a_o x_o_41 ++ Z) H locs → lv_has ls 10 [(0, .ref (a_o 0)), (1, .int v1_41), (2, .int v2_41), (3, .int v3_41), (4, .int v4_41), (5, .int v5_41), (6, .int v6_41), (7, .int v7_41)] → f_X11_reading_J41 x_o_41 v1_41 v2_41 v3_41 v4_41 v5_41 v6_41 v7_41 s0_41 = some (r, x_o9) → W p l e (rmd 2) s m args below meth c H locs 0 0 Q (F0 m 41 ls [.int s0_41]) := by
    intro x_o_41 v1_41 v2_41 v3_41 v4_41 v5_41 v6_41 v7_41 s0_41 H locs ls hW hl h
    rw [f_X11_reading_J41] at h
    refine lv_istore (lv' := [(8, .int s0_41), (0, .ref (a_o 0)), (1, .int v1_41), (2, .int v2_41), (3, .int v3_41), (4, .int v4_41), (5, .int v5_41), (6, .int v6_41), (7, .int v7_41)]) hx hb dX11_reading_41 hl (by decide) rfl (fun ls hl => ?_)
    refine lv_aload_n hx hb dX11_reading_43 rfl (lv_at hl 1 rfl) ?_
    refine lv_iload hx hb dX11_reading_44 (lv_at hl 8 rfl) ?_
    refine lv_iload hx hb dX11_reading_46 (lv_at hl 0 rfl) ?_
    refine lv_iload hx hb dX11_reading_48 (lv_at hl 8 rfl) ?_
    refine lv_if_eq (tgt := 67) hx hb dX11_reading_50 (by decide) (fun c6 => ?_) (fun c6 => ?_)
    · have h := ite_t c6 h
      exact J67 _ _ _ _ _ _ _ _ _ H locs ls hW (lv_sub hl [1, 2, 3, 4, 5, 6, 7] rfl) h
    · have h := ite_f c6 h
      refine lv_aload_n hx hb dX11_reading_53 rfl (lv_at hl 1 rfl) ?_
      refine fg_X11_13 (v := .ref (a_o 2)) hx hb hts hown hK hW 0 rfl rfl dX11_reading_54 ?_
      refine lv_iload_n hx hb dX11_reading_57 rfl (lv_at hl 2 rfl) ?_
      obtain ⟨g28, h⟩ := grd_s h
      refine g_iald hx hb hK hW 2 rfl g28 dX11_reading_58 ?_
      refine lv_iconst (v := 4) hx hb dX11_reading_59 (by decide) ?_
      refine lv_icmp_ge (tgt := 67) hx hb dX11_reading_60 (by decide) (fun c29 => ?_) (fun c29 => ?_)
      · have h := ite_t c29 h
        exact J67 _ _ _ _ _ _ _ _ _ H locs ls hW (lv_sub hl [1, 2, 3, 4, 5, 6, 7] rfl) h
      · have h := ite_f c29 h
        refine lv_iconst (v := 1) hx hb dX11_reading_63 (by decide) ?_
        refine lv_goto (tgt := 68) hx hb dX11_reading_64 (by decide) ?_
        exact J68 _ _ _ _ _ _ _ _ _ _ H locs ls hW (lv_sub hl [1, 2, 3, 4, 5, 6, 7] rfl) h
  have J40 : ∀ (x_o_40 : Ob) (v1_40 : Int32) (v2_40 : Int32) (v3_40 : Int32) (v4_40 : Int32) (v5_40 : Int32) (v6_40 : Int32) (v7_40 : Int32) (H : Heap) (locs : List Loc) (ls : Array Slot), Wd D A s.heap (oc_X11 T a_o x_o_40 ++ Z) H locs → lv_has ls 10 [(0, .ref (a_o 0)), (1, .int v1_40), (2, .int v2_40), (3, .int v3_40), (4, .int v4_40), (5, .int v5_40), (6, .int v6_40), (7, .int v7_40)] → f_X11_reading_J40 x_o_40 v1_40 v2_40 v3_40 v4_40 v5_40 v6_40 v7_40 = some (r, x_o9) → W p l e (rmd 2) s m args below meth c H locs 0 0 Q (F0 m 40 ls []) := by
    intro x_o_40 v1_40 v2_40 v3_40 v4_40 v5_40 v6_40 v7_40 H locs ls hW hl h
    rw [f_X11_reading_J40] at h
    refine lv_iconst (v := 0) hx hb dX11_reading_40 (by decide) ?_
    exact J41 _ _ _ _ _ _ _ _ _ H locs ls hW (lv_sub hl [0, 1, 2, 3, 4, 5, 6, 7] rfl) h
  rw [f_X11_reading] at h
  suffices hm : ∀ (H : Heap) (locs : List Loc), Wd D A s.heap (oc_X11 T a_o x_o ++ Z) H locs → W p l e (rmd 2) s m args below meth c H locs 0 0 Q (F0 m 0 ls []) from hm _ _ hW
  intro H locs hW
  refine lv_aload_n hx hb dX11_reading_0 rfl (lv_at hl 0 rfl) ?_
  refine lv_iload_n hx hb dX11_reading_1 rfl (lv_at hl 1 rfl) ?_
  obtain ⟨r1, q2, h⟩ := bnd1_s h
  refine cl_X11_209 hx hb hml hown hts hK hN hW (c_X11_isWord l D T A a_o (Z) x_o p1 r1 q2) ⟨Nat.le_of_ble_eq_true rfl, Nat.le_of_ble_eq_true rfl⟩ hl.1 rfl (Nat.le_of_ble_eq_true rfl) dX11_reading_2 ⟨Nat.zero_le _, Nat.zero_le _⟩ rfl (fun H locs hW => ?_)
  refine lv_istore (lv' := [(7, .int r1), (0, .ref (a_o 0)), (1, .int p1), (2, .int p2), (3, .int p3), (4, .int p4), (5, .int p5), (6, .int p6)]) hx hb dX11_reading_5 hl (by decide) rfl (fun ls hl => ?_)
  refine lv_iload_n hx hb dX11_reading_7 rfl (lv_at hl 3 rfl) ?_
  refine lv_iconst (v := 0) hx hb dX11_reading_8 (by decide) ?_
  refine lv_bipush (v := 30) hx hb dX11_reading_9 (by decide) ?_
  obtain ⟨r3, q4, h⟩ := bnd1_s h
  refine cl_X11_187 hx hb hml hown hts hK hN hW (c_X11_isIn l D T A (oc_X11 T a_o x_o ++ Z) p2 0 30 r3 q4) ⟨Nat.le_of_ble_eq_true rfl, Nat.le_of_ble_eq_true rfl⟩ hl.1 rfl (Nat.le_of_ble_eq_true rfl) dX11_reading_11 ⟨Nat.zero_le _, Nat.zero_le _⟩ rfl (fun H locs hW => ?_)
  refine lv_if_eq (tgt := 40) hx hb dX11_reading_14 (by decide) (fun c5 => ?_) (fun c5 => ?_)
  · have h := ite_t c5 h
    exact J40 _ _ _ _ _ _ _ _ H locs ls hW (lv_sub hl [1, 2, 3, 4, 5, 6, 7, 0] rfl) h
  · have h := ite_f c5 h
    refine lv_iload_n hx hb dX11_reading_17 rfl (lv_at hl 4 rfl) ?_
    obtain ⟨r30, q31, h⟩ := bnd1_s h
    refine cl_X11_202 hx hb hml hown hts hK hN hW (c_X11_isDigit l D T A (oc_X11 T a_o x_o ++ Z) p3 r30 q31) ⟨Nat.le_of_ble_eq_true rfl, Nat.le_of_ble_eq_true rfl⟩ hl.1 rfl (Nat.le_of_ble_eq_true rfl) dX11_reading_18 ⟨Nat.zero_le _, Nat.zero_le _⟩ rfl (fun H locs hW => ?_)
    refine lv_if_eq (tgt := 40) hx hb dX11_reading_21 (by decide) (fun c32 => ?_) (fun c32 => ?_)
    · have h := ite_t c32 h
      exact J40 _ _ _ _ _ _ _ _ H locs ls hW (lv_sub hl [1, 2, 3, 4, 5, 6, 7, 0] rfl) h
    · have h := ite_f c32 h
      refine lv_iload hx hb dX11_reading_24 (lv_at hl 5 rfl) ?_
      refine lv_iload hx hb dX11_reading_26 (lv_at hl 6 rfl) ?_
      refine lv_iload hx hb dX11_reading_28 (lv_at hl 7 rfl) ?_
      obtain ⟨r33, q34, h⟩ := bnd1_s h
      refine cl_X11_212 hx hb hml hown hts hK hN hW (c_X11_areFeatures l D T A (oc_X11 T a_o x_o ++ Z) p4 p5 p6 r33 q34) ⟨Nat.le_of_ble_eq_true rfl, Nat.le_of_ble_eq_true rfl⟩ hl.1 rfl (Nat.le_of_ble_eq_true rfl) dX11_reading_30 ⟨Nat.zero_le _, Nat.zero_le _⟩ rfl (fun H locs hW => ?_)
      refine lv_if_eq (tgt := 40) hx hb dX11_reading_33 (by decide) (fun c35 => ?_) (fun c35 => ?_)
      · have h := ite_t c35 h
        exact J40 _ _ _ _ _ _ _ _ H locs ls hW (lv_sub hl [1, 2, 3, 4, 5, 6, 7, 0] rfl) h
      · have h := ite_f c35 h
        refine lv_iconst (v := 1) hx hb dX11_reading_36 (by decide) ?_
        refine lv_goto (tgt := 41) hx hb dX11_reading_37 (by decide) ?_
        exact J41 _ _ _ _ _ _ _ _ _ H locs ls hW (lv_sub hl [1, 2, 3, 4, 5, 6, 7, 0] rfl) h
set_option maxHeartbeats 4000000 in
set_option maxRecDepth 100000 in
theorem c_X11_guess (l : Launch) (D : va_G) (T : Nat → ClassId) (A : Nat → Prop) (a_o : Nat → Nat) (Z : va_W)  (x_o : Ob) (p1 : Int32) (p2 : Int32) (p3 : Int32) (p4 : Int32) (p5 : Int32) (r : Int32) (x_o9 : Ob) (h : f_X11_guess x_o p1 p2 p3 p4 p5 = some (r, x_o9)) : Met l yX11_guess (Cond.code yX11_guess cX11_guess 8 (some .int) :: wsL_law) (rmd 2) (Pg D T A (oc_X11 T a_o x_o ++ Z) [.ref (a_o 0), .int p1, .int p2, .int p3, .int p4, .int p5]) (Qgi D A (oc_X11 T a_o x_o9 ++ Z) r) 0 0 A := by
  refine Met.ofW (cc := cX11_guess) (maxL := 8) (ret := (some .int)) (by decide +kernel) rfl ?_
  intro p e s m args below meth c s₁ B hml hv
  obtain ⟨ha, hP, hK, hD, hN⟩ := hv
  have hx := B.exec
  have hb := B.bytes
  have hr := B.returns
  have hlk := B.notSynchronized
  have hts : ∀ w ∈ wsL_law, w.before args s = true := fun w hw => atoms_spec B.pre w (List.mem_cons_of_mem _ hw)
  have hown : s.vm.findClass RX11 = some m.cls := findClass_of_methodNamed B.named
  have hW : Wd D A s.heap (oc_X11 T a_o x_o ++ Z) s.heap [] := ⟨hP, hD, va_S.rf⟩
  have hl := lv_entry [.ref (a_o 0), .int p1, .int p2, .int p3, .int p4, .int p5] (n := 8) (Nat.le_of_ble_eq_true rfl)
  refine W.eq (en_eq ha) ?_
  generalize (lg_sl [.ref (a_o 0), .int p1, .int p2, .int p3, .int p4, .int p5] ++ List.replicate (8 - (lg_sl [.ref (a_o 0), .int p1, .int p2, .int p3, .int p4, .int p5]).length) Slot.unset).toArray = ls at hl ⊢
  have hl : lv_has ls 8 [(0, .ref (a_o 0)), (1, .int p1), (2, .int p2), (3, .int p3), (4, .int p4), (5, .int p5)] := hl
  clear hP hD B ha
  obtain ⟨Q, hQ⟩ : ∃ Q, Q = MQ below (Qgi D A (oc_X11 T a_o x_o9 ++ Z) r) args s 0 0 A := ⟨_, rfl⟩
  rw [← hQ]
  change W p l e (rmd 2) s m args below meth c s.heap [] 0 0 Q (F0 m 0 ls [])
  have J55 : ∀ (x_o_55 : Ob) (v1_55 : Int32) (v2_55 : Int32) (v3_55 : Int32) (v4_55 : Int32) (v5_55 : Int32) (s1_55 : Int32) (s2_55 : Int32) (H : Heap) (locs : List Loc) (ls : Array Slot), Wd D A s.heap (oc_X11 T a_o x_o_55 ++ Z) H locs → lv_has ls 8 [(0, .ref (a_o 0)), (1, .int v1_55), (2, .int v2_55), (3, .int v3_55), (4, .int v4_55), (5, .int v5_55)] → f_X11_guess_J55 x_o_55 v1_55 v2_55 v3_55 v4_55 v5_55 s1_55 s2_55 = some (r, x_o9) → W p l e (rmd 2) s m args below meth c H locs 0 0 Q (F0 m 55 ls [.int s2_55, .int s1_55, .ref (a_o 0)]) := by
    intro x_o_55 v1_55 v2_55 v3_55 v4_55 v5_55 s1_55 s2_55 H locs ls hW hl h
    rw [f_X11_guess_J55] at h
    obtain ⟨r5, x_o6, q7, h⟩ := bnd2_s h
    refine cl_X11_205 hx hb hml hown hts hK hN hW (c_X11_mayBoth l D T A a_o (Z) x_o_55 s1_55 s2_55 r5 x_o6 q7) ⟨Nat.le_of_ble_eq_true rfl, Nat.le_of_ble_eq_true rfl⟩ hl.1 rfl (Nat.le_of_ble_eq_true rfl) dX11_guess_55 ⟨Nat.zero_le _, Nat.zero_le _⟩ rfl (fun H locs hW => ?_)
    refine lv_if_ne (tgt := 63) hx hb dX11_guess_58 (by decide) (fun c8 => ?_) (fun c8 => ?_)
    · have h := ite_f c8 h
      refine lv_iconst (v := 4) hx hb dX11_guess_63 (by decide) ?_
      refine lv_iload_n hx hb dX11_guess_64 rfl (lv_at hl 1 rfl) ?_
      refine lv_imul hx hb dX11_guess_65 ?_
      refine lv_aload_n hx hb dX11_guess_66 rfl (lv_at hl 0 rfl) ?_
      refine fg_X11_25 (v := .ref (a_o 6)) hx hb hts hown hK hW 0 rfl rfl dX11_guess_67 ?_
      refine lv_iload_n hx hb dX11_guess_70 rfl (lv_at hl 1 rfl) ?_
      obtain ⟨g9, h⟩ := grd_s h
      refine g_iald hx hb hK hW 6 rfl g9 dX11_guess_71 ?_
      refine lv_iadd hx hb dX11_guess_72 ?_
      refine lv_topi (fun w7_10 ew7_10 => ?_)
      have h := lb_at ew7_10 h
      refine lv_istore (lv' := [(7, .int w7_10), (0, .ref (a_o 0)), (1, .int v1_55), (2, .int v2_55), (3, .int v3_55), (4, .int v4_55), (5, .int v5_55)]) hx hb dX11_guess_73 hl (by decide) rfl (fun ls hl => ?_)
      refine lv_aload_n hx hb dX11_guess_75 rfl (lv_at hl 1 rfl) ?_
      refine fg_X11_28 (v := .ref (a_o 7)) hx hb hts hown hK hW 0 rfl rfl dX11_guess_76 ?_
      refine lv_iload hx hb dX11_guess_79 (lv_at hl 0 rfl) ?_
      refine lv_iload_n hx hb dX11_guess_81 rfl (lv_at hl 3 rfl) ?_
      obtain ⟨g11, h⟩ := grd_s h
      refine g_iast (ws9 := oc_X11 T a_o (upo x_o6 7 w7_10.toNatClampNeg v2_55) ++ Z) hx hb hK hW 7 rfl g11 sa_X11_7 dX11_guess_82 (fun H locs hW => ?_)
      obtain ⟨x_o12, ex_o12⟩ : ∃ y : Ob, y = upo x_o6 7 w7_10.toNatClampNeg v2_55 := ⟨_, rfl⟩
      rw [← ex_o12] at hW
      have h := lb_at ex_o12 h
      refine lv_aload_n hx hb dX11_guess_83 rfl (lv_at hl 1 rfl) ?_
      refine fg_X11_31 (v := .ref (a_o 8)) hx hb hts hown hK hW 0 rfl rfl dX11_guess_84 ?_
      refine lv_iconst (v := 3) hx hb dX11_guess_87 (by decide) ?_
      refine lv_iload hx hb dX11_guess_88 (lv_at hl 0 rfl) ?_
      refine lv_imul hx hb dX11_guess_90 ?_
      refine lv_iload_n hx hb dX11_guess_91 rfl (lv_at hl 4 rfl) ?_
      obtain ⟨g13, h⟩ := grd_s h
      refine g_iast (ws9 := oc_X11 T a_o (upo x_o12 8 (3 * w7_10).toNatClampNeg v3_55) ++ Z) hx hb hK hW 8 rfl g13 sa_X11_8 dX11_guess_92 (fun H locs hW => ?_)
      obtain ⟨x_o14, ex_o14⟩ : ∃ y : Ob, y = upo x_o12 8 (3 * w7_10).toNatClampNeg v3_55 := ⟨_, rfl⟩
      rw [← ex_o14] at hW
      have h := lb_at ex_o14 h
      refine lv_aload_n hx hb dX11_guess_93 rfl (lv_at hl 1 rfl) ?_
      refine fg_X11_31 (v := .ref (a_o 8)) hx hb hts hown hK hW 0 rfl rfl dX11_guess_94 ?_
      refine lv_iconst (v := 3) hx hb dX11_guess_97 (by decide) ?_
      refine lv_iload hx hb dX11_guess_98 (lv_at hl 0 rfl) ?_
      refine lv_imul hx hb dX11_guess_100 ?_
      refine lv_iconst (v := 1) hx hb dX11_guess_101 (by decide) ?_
      refine lv_iadd hx hb dX11_guess_102 ?_
      refine lv_iload hx hb dX11_guess_103 (lv_at hl 5 rfl) ?_
      obtain ⟨g15, h⟩ := grd_s h
      refine g_iast (ws9 := oc_X11 T a_o (upo x_o14 8 ((3 * w7_10) + 1).toNatClampNeg v4_55) ++ Z) hx hb hK hW 8 rfl g15 sa_X11_8 dX11_guess_105 (fun H locs hW => ?_)
      obtain ⟨x_o16, ex_o16⟩ : ∃ y : Ob, y = upo x_o14 8 ((3 * w7_10) + 1).toNatClampNeg v4_55 := ⟨_, rfl⟩
      rw [← ex_o16] at hW
      have h := lb_at ex_o16 h
      refine lv_aload_n hx hb dX11_guess_106 rfl (lv_at hl 1 rfl) ?_
      refine fg_X11_31 (v := .ref (a_o 8)) hx hb hts hown hK hW 0 rfl rfl dX11_guess_107 ?_
      refine lv_iconst (v := 3) hx hb dX11_guess_110 (by decide) ?_
      refine lv_iload hx hb dX11_guess_111 (lv_at hl 0 rfl) ?_
      refine lv_imul hx hb dX11_guess_113 ?_
      refine lv_iconst (v := 2) hx hb dX11_guess_114 (by decide) ?_
      refine lv_iadd hx hb dX11_guess_115 ?_
      refine lv_iload hx hb dX11_guess_116 (lv_at hl 6 rfl) ?_
      obtain ⟨g17, h⟩ := grd_s h
      refine g_iast (ws9 := oc_X11 T a_o (upo x_o16 8 ((3 * w7_10) + 2).toNatClampNeg v5_55) ++ Z) hx hb hK hW 8 rfl g17 sa_X11_8 dX11_guess_118 (fun H locs hW => ?_)
      obtain ⟨x_o18, ex_o18⟩ : ∃ y : Ob, y = upo x_o16 8 ((3 * w7_10) + 2).toNatClampNeg v5_55 := ⟨_, rfl⟩
      rw [← ex_o18] at hW
      have h := lb_at ex_o18 h
      refine lv_aload_n hx hb dX11_guess_119 rfl (lv_at hl 1 rfl) ?_
      refine fg_X11_25 (v := .ref (a_o 6)) hx hb hts hown hK hW 0 rfl rfl dX11_guess_120 ?_
      refine lv_iload_n hx hb dX11_guess_123 rfl (lv_at hl 2 rfl) ?_
      refine lv_dup2_11 hx hb dX11_guess_124 rfl rfl ?_
      obtain ⟨g19, h⟩ := grd_s h
      refine g_iald hx hb hK hW 6 rfl g19 dX11_guess_125 ?_
      refine lv_iconst (v := 1) hx hb dX11_guess_126 (by decide) ?_
      refine lv_iadd hx hb dX11_guess_127 ?_
      obtain ⟨g20, h⟩ := grd_s h
      refine g_iast (ws9 := oc_X11 T a_o (upo x_o18 6 v1_55.toNatClampNeg ((x_o18 6 v1_55.toNatClampNeg) + 1)) ++ Z) hx hb hK hW 6 rfl g20 sa_X11_6 dX11_guess_128 (fun H locs hW => ?_)
      obtain ⟨x_o21, ex_o21⟩ : ∃ y : Ob, y = upo x_o18 6 v1_55.toNatClampNeg ((x_o18 6 v1_55.toNatClampNeg) + 1) := ⟨_, rfl⟩
      rw [← ex_o21] at hW
      have h := lb_at ex_o21 h
      refine lv_aload_n hx hb dX11_guess_129 rfl (lv_at hl 1 rfl) ?_
      refine lv_dup hx hb dX11_guess_130 rfl ?_
      refine fg_X11_219 (v := .int (x_o21 52 0)) hx hb hts hown hK hW 0 rfl rfl dX11_guess_131 ?_
      refine lv_iconst (v := 1) hx hb dX11_guess_134 (by decide) ?_
      refine lv_iadd hx hb dX11_guess_135 ?_
      refine fp_X11_219 (ws9 := oc_X11 T a_o (upo x_o21 52 0 ((x_o21 52 0) + 1)) ++ Z) hx hb hts hown hK hW 0 rfl (Nat.le_of_ble_eq_true rfl) sf_X11_52 dX11_guess_136 (fun H locs hW => ?_)
      obtain ⟨x_o22, ex_o22⟩ : ∃ y : Ob, y = upo x_o21 52 0 ((x_o21 52 0) + 1) := ⟨_, rfl⟩
      rw [← ex_o22] at hW
      have h := lb_at ex_o22 h
      refine lv_aload_n hx hb dX11_guess_139 rfl (lv_at hl 1 rfl) ?_
      refine fg_X11_25 (v := .ref (a_o 6)) hx hb hts hown hK hW 0 rfl rfl dX11_guess_140 ?_
      refine lv_iload_n hx hb dX11_guess_143 rfl (lv_at hl 2 rfl) ?_
      obtain ⟨g23, h⟩ := grd_s h
      refine g_iald hx hb hK hW 6 rfl g23 dX11_guess_144 ?_
      obtain ⟨rfl, rfl⟩ := ret2 h
      rw [hQ]
      exact g_reti hx hb hr hlk hW dX11_guess_145
    · have h := ite_t c8 h
      refine lv_iconst (v := 0) hx hb dX11_guess_61 (by decide) ?_
      obtain ⟨rfl, rfl⟩ := ret2 h
      rw [hQ]
      exact g_reti hx hb hr hlk hW dX11_guess_62
  have J54 : ∀ (x_o_54 : Ob) (v1_54 : Int32) (v2_54 : Int32) (v3_54 : Int32) (v4_54 : Int32) (v5_54 : Int32) (s1_54 : Int32) (H : Heap) (locs : List Loc) (ls : Array Slot), Wd D A s.heap (oc_X11 T a_o x_o_54 ++ Z) H locs → lv_has ls 8 [(0, .ref (a_o 0)), (1, .int v1_54), (2, .int v2_54), (3, .int v3_54), (4, .int v4_54), (5, .int v5_54)] → f_X11_guess_J54 x_o_54 v1_54 v2_54 v3_54 v4_54 v5_54 s1_54 = some (r, x_o9) → W p l e (rmd 2) s m args below meth c H locs 0 0 Q (F0 m 54 ls [.int s1_54, .ref (a_o 0)]) := by
    intro x_o_54 v1_54 v2_54 v3_54 v4_54 v5_54 s1_54 H locs ls hW hl h
    rw [f_X11_guess_J54] at h
    refine lv_iconst (v := 0) hx hb dX11_guess_54 (by decide) ?_
    exact J55 _ _ _ _ _ _ _ _ H locs ls hW (lv_sub hl [0, 1, 2, 3, 4, 5] rfl) h
  have J30 : ∀ (x_o_30 : Ob) (v1_30 : Int32) (v2_30 : Int32) (v3_30 : Int32) (v4_30 : Int32) (v5_30 : Int32) (s0_30 : Int32) (H : Heap) (locs : List Loc) (ls : Array Slot), Wd D A s.heap (oc_X11 T a_o x_o_30 ++ Z) H locs → lv_has ls 8 [(0, .ref (a_o 0)), (1, .int v1_30), (2, .int v2_30), (3, .int v3_30), (4, .int v4_30), (5, .int v5_30)] → f_X11_guess_J30 x_o_30 v1_30 v2_30 v3_30 v4_30 v5_30 s0_30 = some (r, x_o9) → W p l e (rmd 2) s m args below meth c H locs 0 0 Q (F0 m 30 ls [.int s0_30]) := by
    intro x_o_30 v1_30 v2_30 v3_30 v4_30 v5_30 s0_30 H locs ls hW hl h
    rw [f_X11_guess_J30] at h
    refine lv_istore (lv' := [(6, .int s0_30), (0, .ref (a_o 0)), (1, .int v1_30), (2, .int v2_30), (3, .int v3_30), (4, .int v4_30), (5, .int v5_30)]) hx hb dX11_guess_30 hl (by decide) rfl (fun ls hl => ?_)
    refine lv_aload_n hx hb dX11_guess_32 rfl (lv_at hl 1 rfl) ?_
    refine lv_iload hx hb dX11_guess_33 (lv_at hl 0 rfl) ?_
    refine lv_iload hx hb dX11_guess_35 (lv_at hl 0 rfl) ?_
    refine lv_if_eq (tgt := 54) hx hb dX11_guess_37 (by decide) (fun c4 => ?_) (fun c4 => ?_)
    · have h := ite_t c4 h
      exact J54 _ _ _ _ _ _ _ H locs ls hW (lv_sub hl [1, 2, 3, 4, 5, 6] rfl) h
    · have h := ite_f c4 h
      refine lv_aload_n hx hb dX11_guess_40 rfl (lv_at hl 1 rfl) ?_
      refine fg_X11_25 (v := .ref (a_o 6)) hx hb hts hown hK hW 0 rfl rfl dX11_guess_41 ?_
      refine lv_iload_n hx hb dX11_guess_44 rfl (lv_at hl 2 rfl) ?_
      obtain ⟨g24, h⟩ := grd_s h
      refine g_iald hx hb hK hW 6 rfl g24 dX11_guess_45 ?_
      refine lv_iconst (v := 4) hx hb dX11_guess_46 (by decide) ?_
      refine lv_icmp_ge (tgt := 54) hx hb dX11_guess_47 (by decide) (fun c25 => ?_) (fun c25 => ?_)
      · have h := ite_t c25 h
        exact J54 _ _ _ _ _ _ _ H locs ls hW (lv_sub hl [1, 2, 3, 4, 5, 6] rfl) h
      · have h := ite_f c25 h
        refine lv_iconst (v := 1) hx hb dX11_guess_50 (by decide) ?_
        refine lv_goto (tgt := 55) hx hb dX11_guess_51 (by decide) ?_
        exact J55 _ _ _ _ _ _ _ _ H locs ls hW (lv_sub hl [1, 2, 3, 4, 5, 6] rfl) h
  have J29 : ∀ (x_o_29 : Ob) (v1_29 : Int32) (v2_29 : Int32) (v3_29 : Int32) (v4_29 : Int32) (v5_29 : Int32) (H : Heap) (locs : List Loc) (ls : Array Slot), Wd D A s.heap (oc_X11 T a_o x_o_29 ++ Z) H locs → lv_has ls 8 [(0, .ref (a_o 0)), (1, .int v1_29), (2, .int v2_29), (3, .int v3_29), (4, .int v4_29), (5, .int v5_29)] → f_X11_guess_J29 x_o_29 v1_29 v2_29 v3_29 v4_29 v5_29 = some (r, x_o9) → W p l e (rmd 2) s m args below meth c H locs 0 0 Q (F0 m 29 ls []) := by
    intro x_o_29 v1_29 v2_29 v3_29 v4_29 v5_29 H locs ls hW hl h
    rw [f_X11_guess_J29] at h
    refine lv_iconst (v := 0) hx hb dX11_guess_29 (by decide) ?_
    exact J30 _ _ _ _ _ _ _ H locs ls hW (lv_sub hl [0, 1, 2, 3, 4, 5] rfl) h
  rw [f_X11_guess] at h
  suffices hm : ∀ (H : Heap) (locs : List Loc), Wd D A s.heap (oc_X11 T a_o x_o ++ Z) H locs → W p l e (rmd 2) s m args below meth c H locs 0 0 Q (F0 m 0 ls []) from hm _ _ hW
  intro H locs hW
  refine lv_iload_n hx hb dX11_guess_0 rfl (lv_at hl 1 rfl) ?_
  obtain ⟨r1, q2, h⟩ := bnd1_s h
  refine cl_X11_202 hx hb hml hown hts hK hN hW (c_X11_isDigit l D T A (oc_X11 T a_o x_o ++ Z) p1 r1 q2) ⟨Nat.le_of_ble_eq_true rfl, Nat.le_of_ble_eq_true rfl⟩ hl.1 rfl (Nat.le_of_ble_eq_true rfl) dX11_guess_1 ⟨Nat.zero_le _, Nat.zero_le _⟩ rfl (fun H locs hW => ?_)
  refine lv_if_eq (tgt := 29) hx hb dX11_guess_4 (by decide) (fun c3 => ?_) (fun c3 => ?_)
  · have h := ite_t c3 h
    exact J29 _ _ _ _ _ _ H locs ls hW (lv_sub hl [0, 1, 2, 3, 4, 5] rfl) h
  · have h := ite_f c3 h
    refine lv_iload_n hx hb dX11_guess_7 rfl (lv_at hl 2 rfl) ?_
    obtain ⟨r26, q27, h⟩ := bnd1_s h
    refine cl_X11_202 hx hb hml hown hts hK hN hW (c_X11_isDigit l D T A (oc_X11 T a_o x_o ++ Z) p2 r26 q27) ⟨Nat.le_of_ble_eq_true rfl, Nat.le_of_ble_eq_true rfl⟩ hl.1 rfl (Nat.le_of_ble_eq_true rfl) dX11_guess_8 ⟨Nat.zero_le _, Nat.zero_le _⟩ rfl (fun H locs hW => ?_)
    refine lv_if_eq (tgt := 29) hx hb dX11_guess_11 (by decide) (fun c28 => ?_) (fun c28 => ?_)
    · have h := ite_t c28 h
      exact J29 _ _ _ _ _ _ H locs ls hW (lv_sub hl [0, 1, 2, 3, 4, 5] rfl) h
    · have h := ite_f c28 h
      refine lv_iload_n hx hb dX11_guess_14 rfl (lv_at hl 3 rfl) ?_
      refine lv_iload hx hb dX11_guess_15 (lv_at hl 4 rfl) ?_
      refine lv_iload hx hb dX11_guess_17 (lv_at hl 5 rfl) ?_
      obtain ⟨r29, q30, h⟩ := bnd1_s h
      refine cl_X11_212 hx hb hml hown hts hK hN hW (c_X11_areFeatures l D T A (oc_X11 T a_o x_o ++ Z) p3 p4 p5 r29 q30) ⟨Nat.le_of_ble_eq_true rfl, Nat.le_of_ble_eq_true rfl⟩ hl.1 rfl (Nat.le_of_ble_eq_true rfl) dX11_guess_19 ⟨Nat.zero_le _, Nat.zero_le _⟩ rfl (fun H locs hW => ?_)
      refine lv_if_eq (tgt := 29) hx hb dX11_guess_22 (by decide) (fun c31 => ?_) (fun c31 => ?_)
      · have h := ite_t c31 h
        exact J29 _ _ _ _ _ _ H locs ls hW (lv_sub hl [0, 1, 2, 3, 4, 5] rfl) h
      · have h := ite_f c31 h
        refine lv_iconst (v := 1) hx hb dX11_guess_25 (by decide) ?_
        refine lv_goto (tgt := 30) hx hb dX11_guess_26 (by decide) ?_
        exact J30 _ _ _ _ _ _ _ H locs ls hW (lv_sub hl [0, 1, 2, 3, 4, 5] rfl) h
set_option maxHeartbeats 4000000 in
set_option maxRecDepth 100000 in
theorem c_X11_countOf (l : Launch) (D : va_G) (T : Nat → ClassId) (A : Nat → Prop) (a_o : Nat → Nat) (Z : va_W)  (x_o : Ob) (p1 : Int32) (r : Int32) (h : f_X11_countOf x_o p1 = some r) : Met l yX11_countOf (Cond.code yX11_countOf cX11_countOf 2 (some .int) :: wsL_law) (rmd 0) (Pg D T A (oc_X11 T a_o x_o ++ Z) [.ref (a_o 0), .int p1]) (Qgi D A (oc_X11 T a_o x_o ++ Z) r) 0 0 A := by
  refine Met.ofW (cc := cX11_countOf) (maxL := 2) (ret := (some .int)) (by decide +kernel) rfl ?_
  intro p e s m args below meth c s₁ B hml hv
  obtain ⟨ha, hP, hK, hD, hN⟩ := hv
  have hx := B.exec
  have hb := B.bytes
  have hr := B.returns
  have hlk := B.notSynchronized
  have hts : ∀ w ∈ wsL_law, w.before args s = true := fun w hw => atoms_spec B.pre w (List.mem_cons_of_mem _ hw)
  have hown : s.vm.findClass RX11 = some m.cls := findClass_of_methodNamed B.named
  have hW : Wd D A s.heap (oc_X11 T a_o x_o ++ Z) s.heap [] := ⟨hP, hD, va_S.rf⟩
  have hl := lv_entry [.ref (a_o 0), .int p1] (n := 2) (Nat.le_of_ble_eq_true rfl)
  refine W.eq (en_eq ha) ?_
  generalize (lg_sl [.ref (a_o 0), .int p1] ++ List.replicate (2 - (lg_sl [.ref (a_o 0), .int p1]).length) Slot.unset).toArray = ls at hl ⊢
  have hl : lv_has ls 2 [(0, .ref (a_o 0)), (1, .int p1)] := hl
  clear hP hD B ha
  obtain ⟨Q, hQ⟩ : ∃ Q, Q = MQ below (Qgi D A (oc_X11 T a_o x_o ++ Z) r) args s 0 0 A := ⟨_, rfl⟩
  rw [← hQ]
  change W p l e (rmd 0) s m args below meth c s.heap [] 0 0 Q (F0 m 0 ls [])
  rw [f_X11_countOf] at h
  suffices hm : ∀ (H : Heap) (locs : List Loc), Wd D A s.heap (oc_X11 T a_o x_o ++ Z) H locs → W p l e (rmd 0) s m args below meth c H locs 0 0 Q (F0 m 0 ls []) from hm _ _ hW
  intro H locs hW
  refine lv_aload_n hx hb dX11_countOf_0 rfl (lv_at hl 0 rfl) ?_
  refine fg_X11_13 (v := .ref (a_o 2)) hx hb hts hown hK hW 0 rfl rfl dX11_countOf_1 ?_
  refine lv_iload_n hx hb dX11_countOf_4 rfl (lv_at hl 1 rfl) ?_
  obtain ⟨g1, h⟩ := grd_s h
  refine g_iald hx hb hK hW 2 rfl g1 dX11_countOf_5 ?_
  refine lv_if_le (tgt := 18) hx hb dX11_countOf_6 (by decide) (fun c2 => ?_) (fun c2 => ?_)
  · have h := ite_t c2 h
    refine lv_aload_n hx hb dX11_countOf_18 rfl (lv_at hl 0 rfl) ?_
    refine fg_X11_25 (v := .ref (a_o 6)) hx hb hts hown hK hW 0 rfl rfl dX11_countOf_19 ?_
    refine lv_aload_n hx hb dX11_countOf_22 rfl (lv_at hl 0 rfl) ?_
    refine fg_X11_7 (v := .ref (a_o 1)) hx hb hts hown hK hW 0 rfl rfl dX11_countOf_23 ?_
    refine lv_iload_n hx hb dX11_countOf_26 rfl (lv_at hl 1 rfl) ?_
    obtain ⟨g3, h⟩ := grd_s h
    refine g_iald hx hb hK hW 1 rfl g3 dX11_countOf_27 ?_
    obtain ⟨g4, h⟩ := grd_s h
    refine g_iald hx hb hK hW 6 rfl g4 dX11_countOf_28 ?_
    obtain rfl := ret1 h
    rw [hQ]
    exact g_reti hx hb hr hlk hW dX11_countOf_29
  · have h := ite_f c2 h
    refine lv_aload_n hx hb dX11_countOf_9 rfl (lv_at hl 0 rfl) ?_
    refine fg_X11_13 (v := .ref (a_o 2)) hx hb hts hown hK hW 0 rfl rfl dX11_countOf_10 ?_
    refine lv_iload_n hx hb dX11_countOf_13 rfl (lv_at hl 1 rfl) ?_
    obtain ⟨g5, h⟩ := grd_s h
    refine g_iald hx hb hK hW 2 rfl g5 dX11_countOf_14 ?_
    refine lv_goto (tgt := 29) hx hb dX11_countOf_15 (by decide) ?_
    obtain rfl := ret1 h
    rw [hQ]
    exact g_reti hx hb hr hlk hW dX11_countOf_29
set_option maxHeartbeats 4000000 in
set_option maxRecDepth 100000 in
theorem c_X11_categoryOf (l : Launch) (D : va_G) (T : Nat → ClassId) (A : Nat → Prop) (a_o : Nat → Nat) (Z : va_W)  (x_o : Ob) (p1 : Int32) (p2 : Int32) (r : Int32) (h : f_X11_categoryOf x_o p1 p2 = some r) : Met l yX11_categoryOf (Cond.code yX11_categoryOf cX11_categoryOf 3 (some .int) :: wsL_law) (rmd 0) (Pg D T A (oc_X11 T a_o x_o ++ Z) [.ref (a_o 0), .int p1, .int p2]) (Qgi D A (oc_X11 T a_o x_o ++ Z) r) 0 0 A := by
  refine Met.ofW (cc := cX11_categoryOf) (maxL := 3) (ret := (some .int)) (by decide +kernel) rfl ?_
  intro p e s m args below meth c s₁ B hml hv
  obtain ⟨ha, hP, hK, hD, hN⟩ := hv
  have hx := B.exec
  have hb := B.bytes
  have hr := B.returns
  have hlk := B.notSynchronized
  have hts : ∀ w ∈ wsL_law, w.before args s = true := fun w hw => atoms_spec B.pre w (List.mem_cons_of_mem _ hw)
  have hown : s.vm.findClass RX11 = some m.cls := findClass_of_methodNamed B.named
  have hW : Wd D A s.heap (oc_X11 T a_o x_o ++ Z) s.heap [] := ⟨hP, hD, va_S.rf⟩
  have hl := lv_entry [.ref (a_o 0), .int p1, .int p2] (n := 3) (Nat.le_of_ble_eq_true rfl)
  refine W.eq (en_eq ha) ?_
  generalize (lg_sl [.ref (a_o 0), .int p1, .int p2] ++ List.replicate (3 - (lg_sl [.ref (a_o 0), .int p1, .int p2]).length) Slot.unset).toArray = ls at hl ⊢
  have hl : lv_has ls 3 [(0, .ref (a_o 0)), (1, .int p1), (2, .int p2)] := hl
  clear hP hD B ha
  obtain ⟨Q, hQ⟩ : ∃ Q, Q = MQ below (Qgi D A (oc_X11 T a_o x_o ++ Z) r) args s 0 0 A := ⟨_, rfl⟩
  rw [← hQ]
  change W p l e (rmd 0) s m args below meth c s.heap [] 0 0 Q (F0 m 0 ls [])
  rw [f_X11_categoryOf] at h
  suffices hm : ∀ (H : Heap) (locs : List Loc), Wd D A s.heap (oc_X11 T a_o x_o ++ Z) H locs → W p l e (rmd 0) s m args below meth c H locs 0 0 Q (F0 m 0 ls []) from hm _ _ hW
  intro H locs hW
  refine lv_aload_n hx hb dX11_categoryOf_0 rfl (lv_at hl 0 rfl) ?_
  refine fg_X11_13 (v := .ref (a_o 2)) hx hb hts hown hK hW 0 rfl rfl dX11_categoryOf_1 ?_
  refine lv_iload_n hx hb dX11_categoryOf_4 rfl (lv_at hl 1 rfl) ?_
  obtain ⟨g1, h⟩ := grd_s h
  refine g_iald hx hb hK hW 2 rfl g1 dX11_categoryOf_5 ?_
  refine lv_if_le (tgt := 22) hx hb dX11_categoryOf_6 (by decide) (fun c2 => ?_) (fun c2 => ?_)
  · have h := ite_t c2 h
    refine lv_aload_n hx hb dX11_categoryOf_22 rfl (lv_at hl 0 rfl) ?_
    refine fg_X11_28 (v := .ref (a_o 7)) hx hb hts hown hK hW 0 rfl rfl dX11_categoryOf_23 ?_
    refine lv_iconst (v := 4) hx hb dX11_categoryOf_26 (by decide) ?_
    refine lv_aload_n hx hb dX11_categoryOf_27 rfl (lv_at hl 0 rfl) ?_
    refine fg_X11_7 (v := .ref (a_o 1)) hx hb hts hown hK hW 0 rfl rfl dX11_categoryOf_28 ?_
    refine lv_iload_n hx hb dX11_categoryOf_31 rfl (lv_at hl 1 rfl) ?_
    obtain ⟨g3, h⟩ := grd_s h
    refine g_iald hx hb hK hW 1 rfl g3 dX11_categoryOf_32 ?_
    refine lv_imul hx hb dX11_categoryOf_33 ?_
    refine lv_iload_n hx hb dX11_categoryOf_34 rfl (lv_at hl 2 rfl) ?_
    refine lv_iadd hx hb dX11_categoryOf_35 ?_
    obtain ⟨g4, h⟩ := grd_s h
    refine g_iald hx hb hK hW 7 rfl g4 dX11_categoryOf_36 ?_
    obtain rfl := ret1 h
    rw [hQ]
    exact g_reti hx hb hr hlk hW dX11_categoryOf_37
  · have h := ite_f c2 h
    refine lv_aload_n hx hb dX11_categoryOf_9 rfl (lv_at hl 0 rfl) ?_
    refine fg_X11_19 (v := .ref (a_o 4)) hx hb hts hown hK hW 0 rfl rfl dX11_categoryOf_10 ?_
    refine lv_iconst (v := 4) hx hb dX11_categoryOf_13 (by decide) ?_
    refine lv_iload_n hx hb dX11_categoryOf_14 rfl (lv_at hl 1 rfl) ?_
    refine lv_imul hx hb dX11_categoryOf_15 ?_
    refine lv_iload_n hx hb dX11_categoryOf_16 rfl (lv_at hl 2 rfl) ?_
    refine lv_iadd hx hb dX11_categoryOf_17 ?_
    obtain ⟨g5, h⟩ := grd_s h
    refine g_iald hx hb hK hW 4 rfl g5 dX11_categoryOf_18 ?_
    refine lv_goto (tgt := 37) hx hb dX11_categoryOf_19 (by decide) ?_
    obtain rfl := ret1 h
    rw [hQ]
    exact g_reti hx hb hr hlk hW dX11_categoryOf_37
set_option maxHeartbeats 4000000 in
set_option maxRecDepth 100000 in
theorem c_X11_lemmaOf (l : Launch) (D : va_G) (T : Nat → ClassId) (A : Nat → Prop) (a_o : Nat → Nat) (Z : va_W)  (x_o : Ob) (p1 : Int32) (p2 : Int32) (r : Int32) (h : f_X11_lemmaOf x_o p1 p2 = some r) : Met l yX11_lemmaOf (Cond.code yX11_lemmaOf cX11_lemmaOf 3 (some .int) :: wsL_law) (rmd 0) (Pg D T A (oc_X11 T a_o x_o ++ Z) [.ref (a_o 0), .int p1, .int p2]) (Qgi D A (oc_X11 T a_o x_o ++ Z) r) 0 0 A := by
  refine Met.ofW (cc := cX11_lemmaOf) (maxL := 3) (ret := (some .int)) (by decide +kernel) rfl ?_
  intro p e s m args below meth c s₁ B hml hv
  obtain ⟨ha, hP, hK, hD, hN⟩ := hv
  have hx := B.exec
  have hb := B.bytes
  have hr := B.returns
  have hlk := B.notSynchronized
  have hts : ∀ w ∈ wsL_law, w.before args s = true := fun w hw => atoms_spec B.pre w (List.mem_cons_of_mem _ hw)
  have hown : s.vm.findClass RX11 = some m.cls := findClass_of_methodNamed B.named
  have hW : Wd D A s.heap (oc_X11 T a_o x_o ++ Z) s.heap [] := ⟨hP, hD, va_S.rf⟩
  have hl := lv_entry [.ref (a_o 0), .int p1, .int p2] (n := 3) (Nat.le_of_ble_eq_true rfl)
  refine W.eq (en_eq ha) ?_
  generalize (lg_sl [.ref (a_o 0), .int p1, .int p2] ++ List.replicate (3 - (lg_sl [.ref (a_o 0), .int p1, .int p2]).length) Slot.unset).toArray = ls at hl ⊢
  have hl : lv_has ls 3 [(0, .ref (a_o 0)), (1, .int p1), (2, .int p2)] := hl
  clear hP hD B ha
  obtain ⟨Q, hQ⟩ : ∃ Q, Q = MQ below (Qgi D A (oc_X11 T a_o x_o ++ Z) r) args s 0 0 A := ⟨_, rfl⟩
  rw [← hQ]
  change W p l e (rmd 0) s m args below meth c s.heap [] 0 0 Q (F0 m 0 ls [])
  rw [f_X11_lemmaOf] at h
  suffices hm : ∀ (H : Heap) (locs : List Loc), Wd D A s.heap (oc_X11 T a_o x_o ++ Z) H locs → W p l e (rmd 0) s m args below meth c H locs 0 0 Q (F0 m 0 ls []) from hm _ _ hW
  intro H locs hW
  refine lv_aload_n hx hb dX11_lemmaOf_0 rfl (lv_at hl 0 rfl) ?_
  refine fg_X11_13 (v := .ref (a_o 2)) hx hb hts hown hK hW 0 rfl rfl dX11_lemmaOf_1 ?_
  refine lv_iload_n hx hb dX11_lemmaOf_4 rfl (lv_at hl 1 rfl) ?_
  obtain ⟨g1, h⟩ := grd_s h
  refine g_iald hx hb hK hW 2 rfl g1 dX11_lemmaOf_5 ?_
  refine lv_if_le (tgt := 22) hx hb dX11_lemmaOf_6 (by decide) (fun c2 => ?_) (fun c2 => ?_)
  · have h := ite_t c2 h
    refine lv_bipush (v := 100) hx hb dX11_lemmaOf_22 (by decide) ?_
    refine lv_iload_n hx hb dX11_lemmaOf_24 rfl (lv_at hl 1 rfl) ?_
    refine lv_iadd hx hb dX11_lemmaOf_25 ?_
    obtain rfl := ret1 h
    rw [hQ]
    exact g_reti hx hb hr hlk hW dX11_lemmaOf_26
  · have h := ite_f c2 h
    refine lv_aload_n hx hb dX11_lemmaOf_9 rfl (lv_at hl 0 rfl) ?_
    refine fg_X11_16 (v := .ref (a_o 3)) hx hb hts hown hK hW 0 rfl rfl dX11_lemmaOf_10 ?_
    refine lv_iconst (v := 4) hx hb dX11_lemmaOf_13 (by decide) ?_
    refine lv_iload_n hx hb dX11_lemmaOf_14 rfl (lv_at hl 1 rfl) ?_
    refine lv_imul hx hb dX11_lemmaOf_15 ?_
    refine lv_iload_n hx hb dX11_lemmaOf_16 rfl (lv_at hl 2 rfl) ?_
    refine lv_iadd hx hb dX11_lemmaOf_17 ?_
    obtain ⟨g3, h⟩ := grd_s h
    refine g_iald hx hb hK hW 3 rfl g3 dX11_lemmaOf_18 ?_
    refine lv_goto (tgt := 26) hx hb dX11_lemmaOf_19 (by decide) ?_
    obtain rfl := ret1 h
    rw [hQ]
    exact g_reti hx hb hr hlk hW dX11_lemmaOf_26
set_option maxHeartbeats 4000000 in
set_option maxRecDepth 100000 in
theorem c_X11_featureOf (l : Launch) (D : va_G) (T : Nat → ClassId) (A : Nat → Prop) (a_o : Nat → Nat) (Z : va_W)  (x_o : Ob) (p1 : Int32) (p2 : Int32) (p3 : Int32) (r : Int32) (h : f_X11_featureOf x_o p1 p2 p3 = some r) : Met l yX11_featureOf (Cond.code yX11_featureOf cX11_featureOf 4 (some .int) :: wsL_law) (rmd 0) (Pg D T A (oc_X11 T a_o x_o ++ Z) [.ref (a_o 0), .int p1, .int p2, .int p3]) (Qgi D A (oc_X11 T a_o x_o ++ Z) r) 0 0 A := by
  refine Met.ofW (cc := cX11_featureOf) (maxL := 4) (ret := (some .int)) (by decide +kernel) rfl ?_
  intro p e s m args below meth c s₁ B hml hv
  obtain ⟨ha, hP, hK, hD, hN⟩ := hv
  have hx := B.exec
  have hb := B.bytes
  have hr := B.returns
  have hlk := B.notSynchronized
  have hts : ∀ w ∈ wsL_law, w.before args s = true := fun w hw => atoms_spec B.pre w (List.mem_cons_of_mem _ hw)
  have hown : s.vm.findClass RX11 = some m.cls := findClass_of_methodNamed B.named
  have hW : Wd D A s.heap (oc_X11 T a_o x_o ++ Z) s.heap [] := ⟨hP, hD, va_S.rf⟩
  have hl := lv_entry [.ref (a_o 0), .int p1, .int p2, .int p3] (n := 4) (Nat.le_of_ble_eq_true rfl)
  refine W.eq (en_eq ha) ?_
  generalize (lg_sl [.ref (a_o 0), .int p1, .int p2, .int p3] ++ List.replicate (4 - (lg_sl [.ref (a_o 0), .int p1, .int p2, .int p3]).length) Slot.unset).toArray = ls at hl ⊢
  have hl : lv_has ls 4 [(0, .ref (a_o 0)), (1, .int p1), (2, .int p2), (3, .int p3)] := hl
  clear hP hD B ha
  obtain ⟨Q, hQ⟩ : ∃ Q, Q = MQ below (Qgi D A (oc_X11 T a_o x_o ++ Z) r) args s 0 0 A := ⟨_, rfl⟩
  rw [← hQ]
  change W p l e (rmd 0) s m args below meth c s.heap [] 0 0 Q (F0 m 0 ls [])
  rw [f_X11_featureOf] at h
  suffices hm : ∀ (H : Heap) (locs : List Loc), Wd D A s.heap (oc_X11 T a_o x_o ++ Z) H locs → W p l e (rmd 0) s m args below meth c H locs 0 0 Q (F0 m 0 ls []) from hm _ _ hW
  intro H locs hW
  refine lv_aload_n hx hb dX11_featureOf_0 rfl (lv_at hl 0 rfl) ?_
  refine fg_X11_13 (v := .ref (a_o 2)) hx hb hts hown hK hW 0 rfl rfl dX11_featureOf_1 ?_
  refine lv_iload_n hx hb dX11_featureOf_4 rfl (lv_at hl 1 rfl) ?_
  obtain ⟨g1, h⟩ := grd_s h
  refine g_iald hx hb hK hW 2 rfl g1 dX11_featureOf_5 ?_
  refine lv_if_le (tgt := 27) hx hb dX11_featureOf_6 (by decide) (fun c2 => ?_) (fun c2 => ?_)
  · have h := ite_t c2 h
    refine lv_aload_n hx hb dX11_featureOf_27 rfl (lv_at hl 0 rfl) ?_
    refine fg_X11_31 (v := .ref (a_o 8)) hx hb hts hown hK hW 0 rfl rfl dX11_featureOf_28 ?_
    refine lv_bipush (v := 12) hx hb dX11_featureOf_31 (by decide) ?_
    refine lv_aload_n hx hb dX11_featureOf_33 rfl (lv_at hl 0 rfl) ?_
    refine fg_X11_7 (v := .ref (a_o 1)) hx hb hts hown hK hW 0 rfl rfl dX11_featureOf_34 ?_
    refine lv_iload_n hx hb dX11_featureOf_37 rfl (lv_at hl 1 rfl) ?_
    obtain ⟨g3, h⟩ := grd_s h
    refine g_iald hx hb hK hW 1 rfl g3 dX11_featureOf_38 ?_
    refine lv_imul hx hb dX11_featureOf_39 ?_
    refine lv_iconst (v := 3) hx hb dX11_featureOf_40 (by decide) ?_
    refine lv_iload_n hx hb dX11_featureOf_41 rfl (lv_at hl 2 rfl) ?_
    refine lv_imul hx hb dX11_featureOf_42 ?_
    refine lv_iadd hx hb dX11_featureOf_43 ?_
    refine lv_iload_n hx hb dX11_featureOf_44 rfl (lv_at hl 3 rfl) ?_
    refine lv_iadd hx hb dX11_featureOf_45 ?_
    obtain ⟨g4, h⟩ := grd_s h
    refine g_iald hx hb hK hW 8 rfl g4 dX11_featureOf_46 ?_
    obtain rfl := ret1 h
    rw [hQ]
    exact g_reti hx hb hr hlk hW dX11_featureOf_47
  · have h := ite_f c2 h
    refine lv_aload_n hx hb dX11_featureOf_9 rfl (lv_at hl 0 rfl) ?_
    refine fg_X11_22 (v := .ref (a_o 5)) hx hb hts hown hK hW 0 rfl rfl dX11_featureOf_10 ?_
    refine lv_bipush (v := 12) hx hb dX11_featureOf_13 (by decide) ?_
    refine lv_iload_n hx hb dX11_featureOf_15 rfl (lv_at hl 1 rfl) ?_
    refine lv_imul hx hb dX11_featureOf_16 ?_
    refine lv_iconst (v := 3) hx hb dX11_featureOf_17 (by decide) ?_
    refine lv_iload_n hx hb dX11_featureOf_18 rfl (lv_at hl 2 rfl) ?_
    refine lv_imul hx hb dX11_featureOf_19 ?_
    refine lv_iadd hx hb dX11_featureOf_20 ?_
    refine lv_iload_n hx hb dX11_featureOf_21 rfl (lv_at hl 3 rfl) ?_
    refine lv_iadd hx hb dX11_featureOf_22 ?_
    obtain ⟨g5, h⟩ := grd_s h
    refine g_iald hx hb hK hW 5 rfl g5 dX11_featureOf_23 ?_
    refine lv_goto (tgt := 47) hx hb dX11_featureOf_24 (by decide) ?_
    obtain rfl := ret1 h
    rw [hQ]
    exact g_reti hx hb hr hlk hW dX11_featureOf_47
set_option maxHeartbeats 4000000 in
set_option maxRecDepth 100000 in
theorem c_X11_readings (l : Launch) (D : va_G) (T : Nat → ClassId) (A : Nat → Prop) (a_o : Nat → Nat) (Z : va_W)  (x_o : Ob) (p1 : Int32) (r : Int32) (x_o9 : Ob) (h : f_X11_readings x_o p1 = some (r, x_o9)) : Met l yX11_readings (Cond.code yX11_readings cX11_readings 2 (some .int) :: wsL_law) (rmd 2) (Pg D T A (oc_X11 T a_o x_o ++ Z) [.ref (a_o 0), .int p1]) (Qgi D A (oc_X11 T a_o x_o9 ++ Z) r) 0 0 A := by
  refine Met.ofW (cc := cX11_readings) (maxL := 2) (ret := (some .int)) (by decide +kernel) rfl ?_
  intro p e s m args below meth c s₁ B hml hv
  obtain ⟨ha, hP, hK, hD, hN⟩ := hv
  have hx := B.exec
  have hb := B.bytes
  have hr := B.returns
  have hlk := B.notSynchronized
  have hts : ∀ w ∈ wsL_law, w.before args s = true := fun w hw => atoms_spec B.pre w (List.mem_cons_of_mem _ hw)
  have hown : s.vm.findClass RX11 = some m.cls := findClass_of_methodNamed B.named
  have hW : Wd D A s.heap (oc_X11 T a_o x_o ++ Z) s.heap [] := ⟨hP, hD, va_S.rf⟩
  have hl := lv_entry [.ref (a_o 0), .int p1] (n := 2) (Nat.le_of_ble_eq_true rfl)
  refine W.eq (en_eq ha) ?_
  generalize (lg_sl [.ref (a_o 0), .int p1] ++ List.replicate (2 - (lg_sl [.ref (a_o 0), .int p1]).length) Slot.unset).toArray = ls at hl ⊢
  have hl : lv_has ls 2 [(0, .ref (a_o 0)), (1, .int p1)] := hl
  clear hP hD B ha
  obtain ⟨Q, hQ⟩ : ∃ Q, Q = MQ below (Qgi D A (oc_X11 T a_o x_o9 ++ Z) r) args s 0 0 A := ⟨_, rfl⟩
  rw [← hQ]
  change W p l e (rmd 2) s m args below meth c s.heap [] 0 0 Q (F0 m 0 ls [])
  rw [f_X11_readings] at h
  suffices hm : ∀ (H : Heap) (locs : List Loc), Wd D A s.heap (oc_X11 T a_o x_o ++ Z) H locs → W p l e (rmd 2) s m args below meth c H locs 0 0 Q (F0 m 0 ls []) from hm _ _ hW
  intro H locs hW
  refine lv_aload_n hx hb dX11_readings_0 rfl (lv_at hl 0 rfl) ?_
  refine lv_aload_n hx hb dX11_readings_1 rfl (lv_at hl 0 rfl) ?_
  refine lv_iload_n hx hb dX11_readings_2 rfl (lv_at hl 1 rfl) ?_
  obtain ⟨r1, q2, h⟩ := bnd1_s h
  refine cl_X11_209 hx hb hml hown hts hK hN hW (c_X11_isWord l D T A a_o (Z) x_o p1 r1 q2) ⟨Nat.le_of_ble_eq_true rfl, Nat.le_of_ble_eq_true rfl⟩ hl.1 rfl (Nat.le_of_ble_eq_true rfl) dX11_readings_3 ⟨Nat.zero_le _, Nat.zero_le _⟩ rfl (fun H locs hW => ?_)
  obtain ⟨r3, x_o4, q5, h⟩ := bnd2_s h
  refine cl_X11_222 hx hb hml hown hts hK hN hW (c_X11_may l D T A a_o (Z) x_o r1 r3 x_o4 q5) ⟨Nat.le_of_ble_eq_true rfl, Nat.le_of_ble_eq_true rfl⟩ hl.1 rfl (Nat.le_of_ble_eq_true rfl) dX11_readings_6 ⟨Nat.zero_le _, Nat.zero_le _⟩ rfl (fun H locs hW => ?_)
  refine lv_if_eq (tgt := 20) hx hb dX11_readings_9 (by decide) (fun c6 => ?_) (fun c6 => ?_)
  · have h := ite_t c6 h
    refine lv_iconst (v := 0) hx hb dX11_readings_20 (by decide) ?_
    obtain ⟨rfl, rfl⟩ := ret2 h
    rw [hQ]
    exact g_reti hx hb hr hlk hW dX11_readings_21
  · have h := ite_f c6 h
    refine lv_aload_n hx hb dX11_readings_12 rfl (lv_at hl 0 rfl) ?_
    refine lv_iload_n hx hb dX11_readings_13 rfl (lv_at hl 1 rfl) ?_
    obtain ⟨r7, q8, h⟩ := bnd1_s h
    refine cl_X11_226 hx hb hml hown hts hK hN hW (c_X11_countOf l D T A a_o (Z) x_o4 p1 r7 q8) ⟨Nat.le_of_ble_eq_true rfl, Nat.le_of_ble_eq_true rfl⟩ hl.1 rfl (Nat.le_of_ble_eq_true rfl) dX11_readings_14 ⟨Nat.zero_le _, Nat.zero_le _⟩ rfl (fun H locs hW => ?_)
    refine lv_goto (tgt := 21) hx hb dX11_readings_17 (by decide) ?_
    obtain ⟨rfl, rfl⟩ := ret2 h
    rw [hQ]
    exact g_reti hx hb hr hlk hW dX11_readings_21
set_option maxHeartbeats 4000000 in
set_option maxRecDepth 100000 in
theorem c_X11_strike (l : Launch) (D : va_G) (T : Nat → ClassId) (A : Nat → Prop) (a_o : Nat → Nat) (Z : va_W)  (x_o : Ob) (p1 : Int32) (p2 : Int32) (p3 : Int32) (p4 : Int32) (p5 : Int32) (r : Int32) (x_o9 : Ob) (h : f_X11_strike x_o p1 p2 p3 p4 p5 = some (r, x_o9)) : Met l yX11_strike (Cond.code yX11_strike cX11_strike 6 (some .int) :: wsL_law) (rmd 0) (Pg D T A (oc_X11 T a_o x_o ++ Z) [.ref (a_o 0), .int p1, .int p2, .int p3, .int p4, .int p5]) (Qgi D A (oc_X11 T a_o x_o9 ++ Z) r) 0 0 A := by
  refine Met.ofW (cc := cX11_strike) (maxL := 6) (ret := (some .int)) (by decide +kernel) rfl ?_
  intro p e s m args below meth c s₁ B hml hv
  obtain ⟨ha, hP, hK, hD, hN⟩ := hv
  have hx := B.exec
  have hb := B.bytes
  have hr := B.returns
  have hlk := B.notSynchronized
  have hts : ∀ w ∈ wsL_law, w.before args s = true := fun w hw => atoms_spec B.pre w (List.mem_cons_of_mem _ hw)
  have hown : s.vm.findClass RX11 = some m.cls := findClass_of_methodNamed B.named
  have hW : Wd D A s.heap (oc_X11 T a_o x_o ++ Z) s.heap [] := ⟨hP, hD, va_S.rf⟩
  have hl := lv_entry [.ref (a_o 0), .int p1, .int p2, .int p3, .int p4, .int p5] (n := 6) (Nat.le_of_ble_eq_true rfl)
  refine W.eq (en_eq ha) ?_
  generalize (lg_sl [.ref (a_o 0), .int p1, .int p2, .int p3, .int p4, .int p5] ++ List.replicate (6 - (lg_sl [.ref (a_o 0), .int p1, .int p2, .int p3, .int p4, .int p5]).length) Slot.unset).toArray = ls at hl ⊢
  have hl : lv_has ls 6 [(0, .ref (a_o 0)), (1, .int p1), (2, .int p2), (3, .int p3), (4, .int p4), (5, .int p5)] := hl
  clear hP hD B ha
  obtain ⟨Q, hQ⟩ : ∃ Q, Q = MQ below (Qgi D A (oc_X11 T a_o x_o9 ++ Z) r) args s 0 0 A := ⟨_, rfl⟩
  rw [← hQ]
  change W p l e (rmd 0) s m args below meth c s.heap [] 0 0 Q (F0 m 0 ls [])
  rw [f_X11_strike] at h
  suffices hm : ∀ (H : Heap) (locs : List Loc), Wd D A s.heap (oc_X11 T a_o x_o ++ Z) H locs → W p l e (rmd 0) s m args below meth c H locs 0 0 Q (F0 m 0 ls []) from hm _ _ hW
  intro H locs hW
  refine lv_aload_n hx hb dX11_strike_0 rfl (lv_at hl 0 rfl) ?_
  refine fg_X11_52 (v := .ref (a_o 15)) hx hb hts hown hK hW 0 rfl rfl dX11_strike_1 ?_
  refine lv_aload_n hx hb dX11_strike_4 rfl (lv_at hl 0 rfl) ?_
  refine fg_X11_230 (v := .int (x_o 15 0)) hx hb hts hown hK hW 0 rfl rfl dX11_strike_5 ?_
  refine lv_iload_n hx hb dX11_strike_8 rfl (lv_at hl 1 rfl) ?_
  obtain ⟨g1, h⟩ := grd_s h
  obtain ⟨g2, h⟩ := grd_s h
  refine g_zast (ws9 := oc_X11 T a_o (upo x_o 16 (x_o 15 0).toNatClampNeg p1) ++ Z) hx hb hK hW 15 rfl g1 g2 sa_X11_16 dX11_strike_9 (fun H locs hW => ?_)
  obtain ⟨x_o3, ex_o3⟩ : ∃ y : Ob, y = upo x_o 16 (x_o 15 0).toNatClampNeg p1 := ⟨_, rfl⟩
  rw [← ex_o3] at hW
  have h := lb_at ex_o3 h
  refine lv_aload_n hx hb dX11_strike_10 rfl (lv_at hl 0 rfl) ?_
  refine fg_X11_56 (v := .ref (a_o 16)) hx hb hts hown hK hW 0 rfl rfl dX11_strike_11 ?_
  refine lv_aload_n hx hb dX11_strike_14 rfl (lv_at hl 0 rfl) ?_
  refine fg_X11_230 (v := .int (x_o3 15 0)) hx hb hts hown hK hW 0 rfl rfl dX11_strike_15 ?_
  refine lv_iload_n hx hb dX11_strike_18 rfl (lv_at hl 2 rfl) ?_
  obtain ⟨g4, h⟩ := grd_s h
  refine g_iast (ws9 := oc_X11 T a_o (upo x_o3 17 (x_o3 15 0).toNatClampNeg p2) ++ Z) hx hb hK hW 16 rfl g4 sa_X11_17 dX11_strike_19 (fun H locs hW => ?_)
  obtain ⟨x_o5, ex_o5⟩ : ∃ y : Ob, y = upo x_o3 17 (x_o3 15 0).toNatClampNeg p2 := ⟨_, rfl⟩
  rw [← ex_o5] at hW
  have h := lb_at ex_o5 h
  refine lv_aload_n hx hb dX11_strike_20 rfl (lv_at hl 0 rfl) ?_
  refine fg_X11_59 (v := .ref (a_o 17)) hx hb hts hown hK hW 0 rfl rfl dX11_strike_21 ?_
  refine lv_aload_n hx hb dX11_strike_24 rfl (lv_at hl 0 rfl) ?_
  refine fg_X11_230 (v := .int (x_o5 15 0)) hx hb hts hown hK hW 0 rfl rfl dX11_strike_25 ?_
  refine lv_iload_n hx hb dX11_strike_28 rfl (lv_at hl 3 rfl) ?_
  obtain ⟨g6, h⟩ := grd_s h
  refine g_iast (ws9 := oc_X11 T a_o (upo x_o5 18 (x_o5 15 0).toNatClampNeg p3) ++ Z) hx hb hK hW 17 rfl g6 sa_X11_18 dX11_strike_29 (fun H locs hW => ?_)
  obtain ⟨x_o7, ex_o7⟩ : ∃ y : Ob, y = upo x_o5 18 (x_o5 15 0).toNatClampNeg p3 := ⟨_, rfl⟩
  rw [← ex_o7] at hW
  have h := lb_at ex_o7 h
  refine lv_aload_n hx hb dX11_strike_30 rfl (lv_at hl 0 rfl) ?_
  refine fg_X11_62 (v := .ref (a_o 18)) hx hb hts hown hK hW 0 rfl rfl dX11_strike_31 ?_
  refine lv_aload_n hx hb dX11_strike_34 rfl (lv_at hl 0 rfl) ?_
  refine fg_X11_230 (v := .int (x_o7 15 0)) hx hb hts hown hK hW 0 rfl rfl dX11_strike_35 ?_
  refine lv_iload hx hb dX11_strike_38 (lv_at hl 4 rfl) ?_
  obtain ⟨g8, h⟩ := grd_s h
  refine g_iast (ws9 := oc_X11 T a_o (upo x_o7 19 (x_o7 15 0).toNatClampNeg p4) ++ Z) hx hb hK hW 18 rfl g8 sa_X11_19 dX11_strike_40 (fun H locs hW => ?_)
  obtain ⟨x_o9, ex_o9⟩ : ∃ y : Ob, y = upo x_o7 19 (x_o7 15 0).toNatClampNeg p4 := ⟨_, rfl⟩
  rw [← ex_o9] at hW
  have h := lb_at ex_o9 h
  refine lv_aload_n hx hb dX11_strike_41 rfl (lv_at hl 0 rfl) ?_
  refine fg_X11_65 (v := .ref (a_o 19)) hx hb hts hown hK hW 0 rfl rfl dX11_strike_42 ?_
  refine lv_aload_n hx hb dX11_strike_45 rfl (lv_at hl 0 rfl) ?_
  refine fg_X11_230 (v := .int (x_o9 15 0)) hx hb hts hown hK hW 0 rfl rfl dX11_strike_46 ?_
  refine lv_iload hx hb dX11_strike_49 (lv_at hl 5 rfl) ?_
  obtain ⟨g10, h⟩ := grd_s h
  refine g_iast (ws9 := oc_X11 T a_o (upo x_o9 20 (x_o9 15 0).toNatClampNeg p5) ++ Z) hx hb hK hW 19 rfl g10 sa_X11_20 dX11_strike_51 (fun H locs hW => ?_)
  obtain ⟨x_o11, ex_o11⟩ : ∃ y : Ob, y = upo x_o9 20 (x_o9 15 0).toNatClampNeg p5 := ⟨_, rfl⟩
  rw [← ex_o11] at hW
  have h := lb_at ex_o11 h
  refine lv_aload_n hx hb dX11_strike_52 rfl (lv_at hl 0 rfl) ?_
  refine lv_dup hx hb dX11_strike_53 rfl ?_
  refine fg_X11_230 (v := .int (x_o11 15 0)) hx hb hts hown hK hW 0 rfl rfl dX11_strike_54 ?_
  refine lv_iconst (v := 1) hx hb dX11_strike_57 (by decide) ?_
  refine lv_iadd hx hb dX11_strike_58 ?_
  refine fp_X11_230 (ws9 := oc_X11 T a_o (upo x_o11 15 0 ((x_o11 15 0) + 1)) ++ Z) hx hb hts hown hK hW 0 rfl (Nat.le_of_ble_eq_true rfl) sf_X11_15 dX11_strike_59 (fun H locs hW => ?_)
  obtain ⟨x_o12, ex_o12⟩ : ∃ y : Ob, y = upo x_o11 15 0 ((x_o11 15 0) + 1) := ⟨_, rfl⟩
  rw [← ex_o12] at hW
  have h := lb_at ex_o12 h
  refine lv_aload_n hx hb dX11_strike_62 rfl (lv_at hl 0 rfl) ?_
  refine lv_dup hx hb dX11_strike_63 rfl ?_
  refine fg_X11_219 (v := .int (x_o12 52 0)) hx hb hts hown hK hW 0 rfl rfl dX11_strike_64 ?_
  refine lv_iconst (v := 1) hx hb dX11_strike_67 (by decide) ?_
  refine lv_iadd hx hb dX11_strike_68 ?_
  refine fp_X11_219 (ws9 := oc_X11 T a_o (upo x_o12 52 0 ((x_o12 52 0) + 1)) ++ Z) hx hb hts hown hK hW 0 rfl (Nat.le_of_ble_eq_true rfl) sf_X11_52 dX11_strike_69 (fun H locs hW => ?_)
  obtain ⟨x_o13, ex_o13⟩ : ∃ y : Ob, y = upo x_o12 52 0 ((x_o12 52 0) + 1) := ⟨_, rfl⟩
  rw [← ex_o13] at hW
  have h := lb_at ex_o13 h
  refine lv_aload_n hx hb dX11_strike_72 rfl (lv_at hl 0 rfl) ?_
  refine fg_X11_230 (v := .int (x_o13 15 0)) hx hb hts hown hK hW 0 rfl rfl dX11_strike_73 ?_
  refine lv_iconst (v := 1) hx hb dX11_strike_76 (by decide) ?_
  refine lv_isub hx hb dX11_strike_77 ?_
  obtain ⟨rfl, rfl⟩ := ret2 h
  rw [hQ]
  exact g_reti hx hb hr hlk hW dX11_strike_78
set_option maxHeartbeats 4000000 in
set_option maxRecDepth 100000 in
theorem c_X11_sure (l : Launch) (D : va_G) (T : Nat → ClassId) (A : Nat → Prop) (a_o : Nat → Nat) (Z : va_W)  (x_o : Ob) (p1 : Int32) (p2 : Int32) (p3 : Int32) (r : Int32) (x_o9 : Ob) (h : f_X11_sure x_o p1 p2 p3 = some (r, x_o9)) : Met l yX11_sure (Cond.code yX11_sure cX11_sure 4 (some .int) :: wsL_law) (rmd 2) (Pg D T A (oc_X11 T a_o x_o ++ Z) [.ref (a_o 0), .int p1, .int p2, .int p3]) (Qgi D A (oc_X11 T a_o x_o9 ++ Z) r) 0 0 A := by
  refine Met.ofW (cc := cX11_sure) (maxL := 4) (ret := (some .int)) (by decide +kernel) rfl ?_
  intro p e s m args below meth c s₁ B hml hv
  obtain ⟨ha, hP, hK, hD, hN⟩ := hv
  have hx := B.exec
  have hb := B.bytes
  have hr := B.returns
  have hlk := B.notSynchronized
  have hts : ∀ w ∈ wsL_law, w.before args s = true := fun w hw => atoms_spec B.pre w (List.mem_cons_of_mem _ hw)
  have hown : s.vm.findClass RX11 = some m.cls := findClass_of_methodNamed B.named
  have hW : Wd D A s.heap (oc_X11 T a_o x_o ++ Z) s.heap [] := ⟨hP, hD, va_S.rf⟩
  have hl := lv_entry [.ref (a_o 0), .int p1, .int p2, .int p3] (n := 4) (Nat.le_of_ble_eq_true rfl)
  refine W.eq (en_eq ha) ?_
  generalize (lg_sl [.ref (a_o 0), .int p1, .int p2, .int p3] ++ List.replicate (4 - (lg_sl [.ref (a_o 0), .int p1, .int p2, .int p3]).length) Slot.unset).toArray = ls at hl ⊢
  have hl : lv_has ls 4 [(0, .ref (a_o 0)), (1, .int p1), (2, .int p2), (3, .int p3)] := hl
  clear hP hD B ha
  obtain ⟨Q, hQ⟩ : ∃ Q, Q = MQ below (Qgi D A (oc_X11 T a_o x_o9 ++ Z) r) args s 0 0 A := ⟨_, rfl⟩
  rw [← hQ]
  change W p l e (rmd 2) s m args below meth c s.heap [] 0 0 Q (F0 m 0 ls [])
  have J34 : ∀ (x_o_34 : Ob) (v1_34 : Int32) (v2_34 : Int32) (v3_34 : Int32) (s1_34 : Int32) (H : Heap) (locs : List Loc) (ls : Array Slot), Wd D A s.heap (oc_X11 T a_o x_o_34 ++ Z) H locs → lv_has ls 4 [(0, .ref (a_o 0)), (1, .int v1_34), (2, .int v2_34), (3, .int v3_34)] → f_X11_sure_J34 x_o_34 v1_34 v2_34 v3_34 s1_34 = some (r, x_o9) → W p l e (rmd 2) s m args below meth c H locs 0 0 Q (F0 m 34 ls [.int s1_34, .ref (a_o 0)]) := by
    intro x_o_34 v1_34 v2_34 v3_34 s1_34 H locs ls hW hl h
    rw [f_X11_sure_J34] at h
    refine lv_aload_n hx hb dX11_sure_34 rfl (lv_at hl 0 rfl) ?_
    refine fg_X11_230 (v := .int (x_o_34 15 0)) hx hb hts hown hK hW 0 rfl rfl dX11_sure_35 ?_
    refine lv_bipush (v := 8) hx hb dX11_sure_38 (by decide) ?_
    refine lv_icmp_ge (tgt := 47) hx hb dX11_sure_40 (by decide) (fun c4 => ?_) (fun c4 => ?_)
    · have h := ite_t c4 h
      refine lv_iconst (v := 0) hx hb dX11_sure_47 (by decide) ?_
      obtain ⟨r5, x_o6, q7, h⟩ := bnd2_s h
      refine cl_X11_205 hx hb hml hown hts hK hN hW (c_X11_mayBoth l D T A a_o (Z) x_o_34 s1_34 0 r5 x_o6 q7) ⟨Nat.le_of_ble_eq_true rfl, Nat.le_of_ble_eq_true rfl⟩ hl.1 rfl (Nat.le_of_ble_eq_true rfl) dX11_sure_48 ⟨Nat.zero_le _, Nat.zero_le _⟩ rfl (fun H locs hW => ?_)
      refine lv_if_eq (tgt := 66) hx hb dX11_sure_51 (by decide) (fun c8 => ?_) (fun c8 => ?_)
      · have h := ite_t c8 h
        refine lv_iconst (v := 0) hx hb dX11_sure_66 (by decide) ?_
        obtain ⟨rfl, rfl⟩ := ret2 h
        rw [hQ]
        exact g_reti hx hb hr hlk hW dX11_sure_67
      · have h := ite_f c8 h
        refine lv_aload_n hx hb dX11_sure_54 rfl (lv_at hl 0 rfl) ?_
        refine lv_iconst (v := 0) hx hb dX11_sure_55 (by decide) ?_
        refine lv_iload_n hx hb dX11_sure_56 rfl (lv_at hl 1 rfl) ?_
        refine lv_iload_n hx hb dX11_sure_57 rfl (lv_at hl 2 rfl) ?_
        refine lv_iload_n hx hb dX11_sure_58 rfl (lv_at hl 3 rfl) ?_
        refine lv_iconst (v := (-1)) hx hb dX11_sure_59 (by decide) ?_
        obtain ⟨r9, x_o10, q11, h⟩ := bnd2_s h
        refine cl_X11_233 hx hb hml hown hts hK hN hW (c_X11_strike l D T A a_o (Z) x_o6 0 v1_34 v2_34 v3_34 (-1) r9 x_o10 q11) ⟨Nat.le_of_ble_eq_true rfl, Nat.le_of_ble_eq_true rfl⟩ hl.1 rfl (Nat.le_of_ble_eq_true rfl) dX11_sure_60 ⟨Nat.zero_le _, Nat.zero_le _⟩ rfl (fun H locs hW => ?_)
        refine lv_goto (tgt := 67) hx hb dX11_sure_63 (by decide) ?_
        obtain ⟨rfl, rfl⟩ := ret2 h
        rw [hQ]
        exact g_reti hx hb hr hlk hW dX11_sure_67
    · have h := ite_f c4 h
      refine lv_iconst (v := 1) hx hb dX11_sure_43 (by decide) ?_
      refine lv_goto (tgt := 48) hx hb dX11_sure_44 (by decide) ?_
      obtain ⟨r12, x_o13, q14, h⟩ := bnd2_s h
      refine cl_X11_205 hx hb hml hown hts hK hN hW (c_X11_mayBoth l D T A a_o (Z) x_o_34 s1_34 1 r12 x_o13 q14) ⟨Nat.le_of_ble_eq_true rfl, Nat.le_of_ble_eq_true rfl⟩ hl.1 rfl (Nat.le_of_ble_eq_true rfl) dX11_sure_48 ⟨Nat.zero_le _, Nat.zero_le _⟩ rfl (fun H locs hW => ?_)
      refine lv_if_eq (tgt := 66) hx hb dX11_sure_51 (by decide) (fun c15 => ?_) (fun c15 => ?_)
      · have h := ite_t c15 h
        refine lv_iconst (v := 0) hx hb dX11_sure_66 (by decide) ?_
        obtain ⟨rfl, rfl⟩ := ret2 h
        rw [hQ]
        exact g_reti hx hb hr hlk hW dX11_sure_67
      · have h := ite_f c15 h
        refine lv_aload_n hx hb dX11_sure_54 rfl (lv_at hl 0 rfl) ?_
        refine lv_iconst (v := 0) hx hb dX11_sure_55 (by decide) ?_
        refine lv_iload_n hx hb dX11_sure_56 rfl (lv_at hl 1 rfl) ?_
        refine lv_iload_n hx hb dX11_sure_57 rfl (lv_at hl 2 rfl) ?_
        refine lv_iload_n hx hb dX11_sure_58 rfl (lv_at hl 3 rfl) ?_
        refine lv_iconst (v := (-1)) hx hb dX11_sure_59 (by decide) ?_
        obtain ⟨r16, x_o17, q18, h⟩ := bnd2_s h
        refine cl_X11_233 hx hb hml hown hts hK hN hW (c_X11_strike l D T A a_o (Z) x_o13 0 v1_34 v2_34 v3_34 (-1) r16 x_o17 q18) ⟨Nat.le_of_ble_eq_true rfl, Nat.le_of_ble_eq_true rfl⟩ hl.1 rfl (Nat.le_of_ble_eq_true rfl) dX11_sure_60 ⟨Nat.zero_le _, Nat.zero_le _⟩ rfl (fun H locs hW => ?_)
        refine lv_goto (tgt := 67) hx hb dX11_sure_63 (by decide) ?_
        obtain ⟨rfl, rfl⟩ := ret2 h
        rw [hQ]
        exact g_reti hx hb hr hlk hW dX11_sure_67
  have J33 : ∀ (x_o_33 : Ob) (v1_33 : Int32) (v2_33 : Int32) (v3_33 : Int32) (H : Heap) (locs : List Loc) (ls : Array Slot), Wd D A s.heap (oc_X11 T a_o x_o_33 ++ Z) H locs → lv_has ls 4 [(0, .ref (a_o 0)), (1, .int v1_33), (2, .int v2_33), (3, .int v3_33)] → f_X11_sure_J33 x_o_33 v1_33 v2_33 v3_33 = some (r, x_o9) → W p l e (rmd 2) s m args below meth c H locs 0 0 Q (F0 m 33 ls [.ref (a_o 0)]) := by
    intro x_o_33 v1_33 v2_33 v3_33 H locs ls hW hl h
    rw [f_X11_sure_J33] at h
    refine lv_iconst (v := 0) hx hb dX11_sure_33 (by decide) ?_
    exact J34 _ _ _ _ _ H locs ls hW (lv_sub hl [0, 1, 2, 3] rfl) h
  rw [f_X11_sure] at h
  suffices hm : ∀ (H : Heap) (locs : List Loc), Wd D A s.heap (oc_X11 T a_o x_o ++ Z) H locs → W p l e (rmd 2) s m args below meth c H locs 0 0 Q (F0 m 0 ls []) from hm _ _ hW
  intro H locs hW
  refine lv_aload_n hx hb dX11_sure_0 rfl (lv_at hl 0 rfl) ?_
  refine lv_iload_n hx hb dX11_sure_1 rfl (lv_at hl 1 rfl) ?_
  obtain ⟨r1, q2, h⟩ := bnd1_s h
  refine cl_X11_202 hx hb hml hown hts hK hN hW (c_X11_isDigit l D T A (oc_X11 T a_o x_o ++ Z) p1 r1 q2) ⟨Nat.le_of_ble_eq_true rfl, Nat.le_of_ble_eq_true rfl⟩ hl.1 rfl (Nat.le_of_ble_eq_true rfl) dX11_sure_2 ⟨Nat.zero_le _, Nat.zero_le _⟩ rfl (fun H locs hW => ?_)
  refine lv_if_eq (tgt := 33) hx hb dX11_sure_5 (by decide) (fun c3 => ?_) (fun c3 => ?_)
  · have h := ite_t c3 h
    exact J33 _ _ _ _ H locs ls hW (lv_sub hl [0, 1, 2, 3] rfl) h
  · have h := ite_f c3 h
    refine lv_iload_n hx hb dX11_sure_8 rfl (lv_at hl 2 rfl) ?_
    refine lv_bipush (v := (-5)) hx hb dX11_sure_9 (by decide) ?_
    refine lv_iconst (v := 5) hx hb dX11_sure_11 (by decide) ?_
    obtain ⟨r19, q20, h⟩ := bnd1_s h
    refine cl_X11_187 hx hb hml hown hts hK hN hW (c_X11_isIn l D T A (oc_X11 T a_o x_o ++ Z) p2 (-5) 5 r19 q20) ⟨Nat.le_of_ble_eq_true rfl, Nat.le_of_ble_eq_true rfl⟩ hl.1 rfl (Nat.le_of_ble_eq_true rfl) dX11_sure_12 ⟨Nat.zero_le _, Nat.zero_le _⟩ rfl (fun H locs hW => ?_)
    refine lv_if_eq (tgt := 33) hx hb dX11_sure_15 (by decide) (fun c21 => ?_) (fun c21 => ?_)
    · have h := ite_t c21 h
      exact J33 _ _ _ _ H locs ls hW (lv_sub hl [0, 1, 2, 3] rfl) h
    · have h := ite_f c21 h
      refine lv_iload_n hx hb dX11_sure_18 rfl (lv_at hl 2 rfl) ?_
      refine lv_if_eq (tgt := 33) hx hb dX11_sure_19 (by decide) (fun c22 => ?_) (fun c22 => ?_)
      · have h := ite_t c22 h
        exact J33 _ _ _ _ H locs ls hW (lv_sub hl [0, 1, 2, 3] rfl) h
      · have h := ite_f c22 h
        refine lv_iload_n hx hb dX11_sure_22 rfl (lv_at hl 3 rfl) ?_
        obtain ⟨r23, q24, h⟩ := bnd1_s h
        refine cl_X11_202 hx hb hml hown hts hK hN hW (c_X11_isDigit l D T A (oc_X11 T a_o x_o ++ Z) p3 r23 q24) ⟨Nat.le_of_ble_eq_true rfl, Nat.le_of_ble_eq_true rfl⟩ hl.1 rfl (Nat.le_of_ble_eq_true rfl) dX11_sure_23 ⟨Nat.zero_le _, Nat.zero_le _⟩ rfl (fun H locs hW => ?_)
        refine lv_if_eq (tgt := 33) hx hb dX11_sure_26 (by decide) (fun c25 => ?_) (fun c25 => ?_)
        · have h := ite_t c25 h
          exact J33 _ _ _ _ H locs ls hW (lv_sub hl [0, 1, 2, 3] rfl) h
        · have h := ite_f c25 h
          refine lv_iconst (v := 1) hx hb dX11_sure_29 (by decide) ?_
          refine lv_goto (tgt := 34) hx hb dX11_sure_30 (by decide) ?_
          exact J34 _ _ _ _ _ H locs ls hW (lv_sub hl [0, 1, 2, 3] rfl) h
set_option maxHeartbeats 4000000 in
set_option maxRecDepth 100000 in
theorem c_X11_seen (l : Launch) (D : va_G) (T : Nat → ClassId) (A : Nat → Prop) (a_o : Nat → Nat) (Z : va_W)  (x_o : Ob) (p1 : Int32) (p2 : Int32) (p3 : Int32) (p4 : Int32) (r : Int32) (x_o9 : Ob) (h : f_X11_seen x_o p1 p2 p3 p4 = some (r, x_o9)) : Met l yX11_seen (Cond.code yX11_seen cX11_seen 6 (some .int) :: wsL_law) (rmd 2) (Pg D T A (oc_X11 T a_o x_o ++ Z) [.ref (a_o 0), .int p1, .int p2, .int p3, .int p4]) (Qgi D A (oc_X11 T a_o x_o9 ++ Z) r) 0 0 A := by
  refine Met.ofW (cc := cX11_seen) (maxL := 6) (ret := (some .int)) (by decide +kernel) rfl ?_
  intro p e s m args below meth c s₁ B hml hv
  obtain ⟨ha, hP, hK, hD, hN⟩ := hv
  have hx := B.exec
  have hb := B.bytes
  have hr := B.returns
  have hlk := B.notSynchronized
  have hts : ∀ w ∈ wsL_law, w.before args s = true := fun w hw => atoms_spec B.pre w (List.mem_cons_of_mem _ hw)
  have hown : s.vm.findClass RX11 = some m.cls := findClass_of_methodNamed B.named
  have hW : Wd D A s.heap (oc_X11 T a_o x_o ++ Z) s.heap [] := ⟨hP, hD, va_S.rf⟩
  have hl := lv_entry [.ref (a_o 0), .int p1, .int p2, .int p3, .int p4] (n := 6) (Nat.le_of_ble_eq_true rfl)
  refine W.eq (en_eq ha) ?_
  generalize (lg_sl [.ref (a_o 0), .int p1, .int p2, .int p3, .int p4] ++ List.replicate (6 - (lg_sl [.ref (a_o 0), .int p1, .int p2, .int p3, .int p4]).length) Slot.unset).toArray = ls at hl ⊢
  have hl : lv_has ls 6 [(0, .ref (a_o 0)), (1, .int p1), (2, .int p2), (3, .int p3), (4, .int p4)] := hl
  clear hP hD B ha
  obtain ⟨Q, hQ⟩ : ∃ Q, Q = MQ below (Qgi D A (oc_X11 T a_o x_o9 ++ Z) r) args s 0 0 A := ⟨_, rfl⟩
  rw [← hQ]
  change W p l e (rmd 2) s m args below meth c s.heap [] 0 0 Q (F0 m 0 ls [])
  have J43 : ∀ (x_o_43 : Ob) (v1_43 : Int32) (v2_43 : Int32) (v3_43 : Int32) (v4_43 : Int32) (s0_43 : Int32) (H : Heap) (locs : List Loc) (ls : Array Slot), Wd D A s.heap (oc_X11 T a_o x_o_43 ++ Z) H locs → lv_has ls 6 [(0, .ref (a_o 0)), (1, .int v1_43), (2, .int v2_43), (3, .int v3_43), (4, .int v4_43)] → f_X11_seen_J43 x_o_43 v1_43 v2_43 v3_43 v4_43 s0_43 = some (r, x_o9) → W p l e (rmd 2) s m args below meth c H locs 0 0 Q (F0 m 43 ls [.int s0_43]) := by
    intro x_o_43 v1_43 v2_43 v3_43 v4_43 s0_43 H locs ls hW hl h
    rw [f_X11_seen_J43] at h
    refine lv_istore (lv' := [(5, .int s0_43), (0, .ref (a_o 0)), (1, .int v1_43), (2, .int v2_43), (3, .int v3_43), (4, .int v4_43)]) hx hb dX11_seen_43 hl (by decide) rfl (fun ls hl => ?_)
    refine lv_aload_n hx hb dX11_seen_45 rfl (lv_at hl 1 rfl) ?_
    refine lv_iload hx hb dX11_seen_46 (lv_at hl 0 rfl) ?_
    refine lv_aload_n hx hb dX11_seen_48 rfl (lv_at hl 1 rfl) ?_
    refine fg_X11_230 (v := .int (x_o_43 15 0)) hx hb hts hown hK hW 0 rfl rfl dX11_seen_49 ?_
    refine lv_bipush (v := 8) hx hb dX11_seen_52 (by decide) ?_
    refine lv_icmp_ge (tgt := 61) hx hb dX11_seen_54 (by decide) (fun c4 => ?_) (fun c4 => ?_)
    · have h := ite_t c4 h
      refine lv_iconst (v := 0) hx hb dX11_seen_61 (by decide) ?_
      obtain ⟨r5, x_o6, q7, h⟩ := bnd2_s h
      refine cl_X11_205 hx hb hml hown hts hK hN hW (c_X11_mayBoth l D T A a_o (Z) x_o_43 s0_43 0 r5 x_o6 q7) ⟨Nat.le_of_ble_eq_true rfl, Nat.le_of_ble_eq_true rfl⟩ hl.1 rfl (Nat.le_of_ble_eq_true rfl) dX11_seen_62 ⟨Nat.zero_le _, Nat.zero_le _⟩ rfl (fun H locs hW => ?_)
      refine lv_if_eq (tgt := 81) hx hb dX11_seen_65 (by decide) (fun c8 => ?_) (fun c8 => ?_)
      · have h := ite_t c8 h
        refine lv_iconst (v := 0) hx hb dX11_seen_81 (by decide) ?_
        obtain ⟨rfl, rfl⟩ := ret2 h
        rw [hQ]
        exact g_reti hx hb hr hlk hW dX11_seen_82
      · have h := ite_f c8 h
        refine lv_aload_n hx hb dX11_seen_68 rfl (lv_at hl 1 rfl) ?_
        refine lv_iconst (v := 1) hx hb dX11_seen_69 (by decide) ?_
        refine lv_iload_n hx hb dX11_seen_70 rfl (lv_at hl 2 rfl) ?_
        refine lv_iload_n hx hb dX11_seen_71 rfl (lv_at hl 3 rfl) ?_
        refine lv_iload_n hx hb dX11_seen_72 rfl (lv_at hl 4 rfl) ?_
        refine lv_iload hx hb dX11_seen_73 (lv_at hl 5 rfl) ?_
        obtain ⟨r9, x_o10, q11, h⟩ := bnd2_s h
        refine cl_X11_233 hx hb hml hown hts hK hN hW (c_X11_strike l D T A a_o (Z) x_o6 1 v1_43 v2_43 v3_43 v4_43 r9 x_o10 q11) ⟨Nat.le_of_ble_eq_true rfl, Nat.le_of_ble_eq_true rfl⟩ hl.1 rfl (Nat.le_of_ble_eq_true rfl) dX11_seen_75 ⟨Nat.zero_le _, Nat.zero_le _⟩ rfl (fun H locs hW => ?_)
        refine lv_goto (tgt := 82) hx hb dX11_seen_78 (by decide) ?_
        obtain ⟨rfl, rfl⟩ := ret2 h
        rw [hQ]
        exact g_reti hx hb hr hlk hW dX11_seen_82
    · have h := ite_f c4 h
      refine lv_iconst (v := 1) hx hb dX11_seen_57 (by decide) ?_
      refine lv_goto (tgt := 62) hx hb dX11_seen_58 (by decide) ?_
      obtain ⟨r12, x_o13, q14, h⟩ := bnd2_s h
      refine cl_X11_205 hx hb hml hown hts hK hN hW (c_X11_mayBoth l D T A a_o (Z) x_o_43 s0_43 1 r12 x_o13 q14) ⟨Nat.le_of_ble_eq_true rfl, Nat.le_of_ble_eq_true rfl⟩ hl.1 rfl (Nat.le_of_ble_eq_true rfl) dX11_seen_62 ⟨Nat.zero_le _, Nat.zero_le _⟩ rfl (fun H locs hW => ?_)
      refine lv_if_eq (tgt := 81) hx hb dX11_seen_65 (by decide) (fun c15 => ?_) (fun c15 => ?_)
      · have h := ite_t c15 h
        refine lv_iconst (v := 0) hx hb dX11_seen_81 (by decide) ?_
        obtain ⟨rfl, rfl⟩ := ret2 h
        rw [hQ]
        exact g_reti hx hb hr hlk hW dX11_seen_82
      · have h := ite_f c15 h
        refine lv_aload_n hx hb dX11_seen_68 rfl (lv_at hl 1 rfl) ?_
        refine lv_iconst (v := 1) hx hb dX11_seen_69 (by decide) ?_
        refine lv_iload_n hx hb dX11_seen_70 rfl (lv_at hl 2 rfl) ?_
        refine lv_iload_n hx hb dX11_seen_71 rfl (lv_at hl 3 rfl) ?_
        refine lv_iload_n hx hb dX11_seen_72 rfl (lv_at hl 4 rfl) ?_
        refine lv_iload hx hb dX11_seen_73 (lv_at hl 5 rfl) ?_
        obtain ⟨r16, x_o17, q18, h⟩ := bnd2_s h
        refine cl_X11_233 hx hb hml hown hts hK hN hW (c_X11_strike l D T A a_o (Z) x_o13 1 v1_43 v2_43 v3_43 v4_43 r16 x_o17 q18) ⟨Nat.le_of_ble_eq_true rfl, Nat.le_of_ble_eq_true rfl⟩ hl.1 rfl (Nat.le_of_ble_eq_true rfl) dX11_seen_75 ⟨Nat.zero_le _, Nat.zero_le _⟩ rfl (fun H locs hW => ?_)
        refine lv_goto (tgt := 82) hx hb dX11_seen_78 (by decide) ?_
        obtain ⟨rfl, rfl⟩ := ret2 h
        rw [hQ]
        exact g_reti hx hb hr hlk hW dX11_seen_82
  have J42 : ∀ (x_o_42 : Ob) (v1_42 : Int32) (v2_42 : Int32) (v3_42 : Int32) (v4_42 : Int32) (H : Heap) (locs : List Loc) (ls : Array Slot), Wd D A s.heap (oc_X11 T a_o x_o_42 ++ Z) H locs → lv_has ls 6 [(0, .ref (a_o 0)), (1, .int v1_42), (2, .int v2_42), (3, .int v3_42), (4, .int v4_42)] → f_X11_seen_J42 x_o_42 v1_42 v2_42 v3_42 v4_42 = some (r, x_o9) → W p l e (rmd 2) s m args below meth c H locs 0 0 Q (F0 m 42 ls []) := by
    intro x_o_42 v1_42 v2_42 v3_42 v4_42 H locs ls hW hl h
    rw [f_X11_seen_J42] at h
    refine lv_iconst (v := 0) hx hb dX11_seen_42 (by decide) ?_
    exact J43 _ _ _ _ _ _ H locs ls hW (lv_sub hl [0, 1, 2, 3, 4] rfl) h
  have J38 : ∀ (x_o_38 : Ob) (v1_38 : Int32) (v2_38 : Int32) (v3_38 : Int32) (v4_38 : Int32) (H : Heap) (locs : List Loc) (ls : Array Slot), Wd D A s.heap (oc_X11 T a_o x_o_38 ++ Z) H locs → lv_has ls 6 [(0, .ref (a_o 0)), (1, .int v1_38), (2, .int v2_38), (3, .int v3_38), (4, .int v4_38)] → f_X11_seen_J38 x_o_38 v1_38 v2_38 v3_38 v4_38 = some (r, x_o9) → W p l e (rmd 2) s m args below meth c H locs 0 0 Q (F0 m 38 ls []) := by
    intro x_o_38 v1_38 v2_38 v3_38 v4_38 H locs ls hW hl h
    rw [f_X11_seen_J38] at h
    refine lv_iconst (v := 1) hx hb dX11_seen_38 (by decide) ?_
    refine lv_goto (tgt := 43) hx hb dX11_seen_39 (by decide) ?_
    exact J43 _ _ _ _ _ _ H locs ls hW (lv_sub hl [0, 1, 2, 3, 4] rfl) h
  have J17 : ∀ (x_o_17 : Ob) (v1_17 : Int32) (v2_17 : Int32) (v3_17 : Int32) (v4_17 : Int32) (H : Heap) (locs : List Loc) (ls : Array Slot), Wd D A s.heap (oc_X11 T a_o x_o_17 ++ Z) H locs → lv_has ls 6 [(0, .ref (a_o 0)), (1, .int v1_17), (2, .int v2_17), (3, .int v3_17), (4, .int v4_17)] → f_X11_seen_J17 x_o_17 v1_17 v2_17 v3_17 v4_17 = some (r, x_o9) → W p l e (rmd 2) s m args below meth c H locs 0 0 Q (F0 m 17 ls []) := by
    intro x_o_17 v1_17 v2_17 v3_17 v4_17 H locs ls hW hl h
    rw [f_X11_seen_J17] at h
    refine lv_iload_n hx hb dX11_seen_17 rfl (lv_at hl 3 rfl) ?_
    obtain ⟨r20, q21, h⟩ := bnd1_s h
    refine cl_X11_202 hx hb hml hown hts hK hN hW (c_X11_isDigit l D T A (oc_X11 T a_o x_o_17 ++ Z) v3_17 r20 q21) ⟨Nat.le_of_ble_eq_true rfl, Nat.le_of_ble_eq_true rfl⟩ hl.1 rfl (Nat.le_of_ble_eq_true rfl) dX11_seen_18 ⟨Nat.zero_le _, Nat.zero_le _⟩ rfl (fun H locs hW => ?_)
    refine lv_if_eq (tgt := 42) hx hb dX11_seen_21 (by decide) (fun c22 => ?_) (fun c22 => ?_)
    · have h := ite_t c22 h
      exact J42 _ _ _ _ _ H locs ls hW (lv_sub hl [0, 1, 2, 3, 4] rfl) h
    · have h := ite_f c22 h
      refine lv_iload hx hb dX11_seen_24 (lv_at hl 4 rfl) ?_
      refine lv_iconst (v := (-1)) hx hb dX11_seen_26 (by decide) ?_
      refine lv_icmp_eq (tgt := 38) hx hb dX11_seen_27 (by decide) (fun c23 => ?_) (fun c23 => ?_)
      · have h := ite_t c23 h
        exact J38 _ _ _ _ _ H locs ls hW (lv_sub hl [0, 1, 2, 3, 4] rfl) h
      · have h := ite_f c23 h
        refine lv_iload hx hb dX11_seen_30 (lv_at hl 4 rfl) ?_
        obtain ⟨r24, q25, h⟩ := bnd1_s h
        refine cl_X11_202 hx hb hml hown hts hK hN hW (c_X11_isDigit l D T A (oc_X11 T a_o x_o_17 ++ Z) v4_17 r24 q25) ⟨Nat.le_of_ble_eq_true rfl, Nat.le_of_ble_eq_true rfl⟩ hl.1 rfl (Nat.le_of_ble_eq_true rfl) dX11_seen_32 ⟨Nat.zero_le _, Nat.zero_le _⟩ rfl (fun H locs hW => ?_)
        refine lv_if_eq (tgt := 42) hx hb dX11_seen_35 (by decide) (fun c26 => ?_) (fun c26 => ?_)
        · have h := ite_t c26 h
          exact J42 _ _ _ _ _ H locs ls hW (lv_sub hl [0, 1, 2, 3, 4] rfl) h
        · have h := ite_f c26 h
          exact J38 _ _ _ _ _ H locs ls hW (lv_sub hl [0, 1, 2, 3, 4] rfl) h
  rw [f_X11_seen] at h
  suffices hm : ∀ (H : Heap) (locs : List Loc), Wd D A s.heap (oc_X11 T a_o x_o ++ Z) H locs → W p l e (rmd 2) s m args below meth c H locs 0 0 Q (F0 m 0 ls []) from hm _ _ hW
  intro H locs hW
  refine lv_iload_n hx hb dX11_seen_0 rfl (lv_at hl 1 rfl) ?_
  obtain ⟨r1, q2, h⟩ := bnd1_s h
  refine cl_X11_202 hx hb hml hown hts hK hN hW (c_X11_isDigit l D T A (oc_X11 T a_o x_o ++ Z) p1 r1 q2) ⟨Nat.le_of_ble_eq_true rfl, Nat.le_of_ble_eq_true rfl⟩ hl.1 rfl (Nat.le_of_ble_eq_true rfl) dX11_seen_1 ⟨Nat.zero_le _, Nat.zero_le _⟩ rfl (fun H locs hW => ?_)
  refine lv_if_eq (tgt := 42) hx hb dX11_seen_4 (by decide) (fun c3 => ?_) (fun c3 => ?_)
  · have h := ite_t c3 h
    exact J42 _ _ _ _ _ H locs ls hW (lv_sub hl [0, 1, 2, 3, 4] rfl) h
  · have h := ite_f c3 h
    refine lv_iload_n hx hb dX11_seen_7 rfl (lv_at hl 2 rfl) ?_
    refine lv_iconst (v := (-1)) hx hb dX11_seen_8 (by decide) ?_
    refine lv_icmp_eq (tgt := 17) hx hb dX11_seen_9 (by decide) (fun c19 => ?_) (fun c19 => ?_)
    · have h := ite_t c19 h
      exact J17 _ _ _ _ _ H locs ls hW (lv_sub hl [0, 1, 2, 3, 4] rfl) h
    · have h := ite_f c19 h
      refine lv_iload_n hx hb dX11_seen_12 rfl (lv_at hl 2 rfl) ?_
      refine lv_iconst (v := 1) hx hb dX11_seen_13 (by decide) ?_
      refine lv_icmp_ne (tgt := 42) hx hb dX11_seen_14 (by decide) (fun c27 => ?_) (fun c27 => ?_)
      · have h := ite_f c27 h
        exact J42 _ _ _ _ _ H locs ls hW (lv_sub hl [0, 1, 2, 3, 4] rfl) h
      · have h := ite_t c27 h
        exact J17 _ _ _ _ _ H locs ls hW (lv_sub hl [0, 1, 2, 3, 4] rfl) h
set_option maxHeartbeats 4000000 in
set_option maxRecDepth 100000 in
theorem c_X11_leftOf (l : Launch) (D : va_G) (T : Nat → ClassId) (A : Nat → Prop) (a_o : Nat → Nat) (Z : va_W)  (x_o : Ob) (p1 : Int32) (p2 : Int32) (r : Int32) (h : f_X11_leftOf x_o p1 p2 = some r) : Met l yX11_leftOf (Cond.code yX11_leftOf cX11_leftOf 5 (some .int) :: wsL_law) (rmd 1) (Pg D T A (oc_X11 T a_o x_o ++ Z) [.ref (a_o 0), .int p1, .int p2]) (Qgi D A (oc_X11 T a_o x_o ++ Z) r) 0 0 A := by
  refine Met.ofW (cc := cX11_leftOf) (maxL := 5) (ret := (some .int)) (by decide +kernel) rfl ?_
  intro p e s m args below meth c s₁ B hml hv
  obtain ⟨ha, hP, hK, hD, hN⟩ := hv
  have hx := B.exec
  have hb := B.bytes
  have hr := B.returns
  have hlk := B.notSynchronized
  have hts : ∀ w ∈ wsL_law, w.before args s = true := fun w hw => atoms_spec B.pre w (List.mem_cons_of_mem _ hw)
  have hown : s.vm.findClass RX11 = some m.cls := findClass_of_methodNamed B.named
  have hW : Wd D A s.heap (oc_X11 T a_o x_o ++ Z) s.heap [] := ⟨hP, hD, va_S.rf⟩
  have hl := lv_entry [.ref (a_o 0), .int p1, .int p2] (n := 5) (Nat.le_of_ble_eq_true rfl)
  refine W.eq (en_eq ha) ?_
  generalize (lg_sl [.ref (a_o 0), .int p1, .int p2] ++ List.replicate (5 - (lg_sl [.ref (a_o 0), .int p1, .int p2]).length) Slot.unset).toArray = ls at hl ⊢
  have hl : lv_has ls 5 [(0, .ref (a_o 0)), (1, .int p1), (2, .int p2)] := hl
  clear hP hD B ha
  obtain ⟨Q, hQ⟩ : ∃ Q, Q = MQ below (Qgi D A (oc_X11 T a_o x_o ++ Z) r) args s 0 0 A := ⟨_, rfl⟩
  rw [← hQ]
  change W p l e (rmd 1) s m args below meth c s.heap [] 0 0 Q (F0 m 0 ls [])
  have L5 : ∀ (n : Nat) (v1_5 : Int32) (v2_5 : Int32) (v3_5 : Int32) (v4_5 : Int32) (H : Heap) (locs : List Loc) (ls : Array Slot) (o3_5r : Int32) (o4_5r : Int32), Wd D A s.heap (oc_X11 T a_o x_o ++ Z) H locs → lv_has ls 5 [(0, .ref (a_o 0)), (1, .int v1_5), (2, .int v2_5), (3, .int v3_5), (4, .int v4_5)] → f_X11_leftOf_L5 n x_o v1_5 v2_5 v3_5 v4_5 = some (o3_5r, o4_5r) → (∀ (H : Heap) (locs : List Loc) (ls : Array Slot), Wd D A s.heap (oc_X11 T a_o x_o ++ Z) H locs → lv_has ls 5 [(3, .int o3_5r)] → W p l e (rmd 1) s m args below meth c H locs 0 0 Q (F0 m 68 ls [])) → W p l e (rmd 1) s m args below meth c H locs 0 0 Q (F0 m 5 ls []) := by
    intro n
    induction n with
    | zero =>
      intro v1_5 v2_5 v3_5 v4_5 H locs ls o3_5r o4_5r hW hl h k1
      rw [f_X11_leftOf_L5] at h
      cases h
    | succ n ih =>
      intro v1_5 v2_5 v3_5 v4_5 H locs ls o3_5r o4_5r hW hl h k1
      rw [f_X11_leftOf_L5] at h
      refine lv_iload hx hb dX11_leftOf_5 (lv_at hl 4 rfl) ?_
      refine lv_aload_n hx hb dX11_leftOf_7 rfl (lv_at hl 0 rfl) ?_
      refine lv_aload_n hx hb dX11_leftOf_8 rfl (lv_at hl 0 rfl) ?_
      refine fg_X11_37 (v := .ref (a_o 10)) hx hb hts hown hK hW 0 rfl rfl dX11_leftOf_9 ?_
      refine lv_iload_n hx hb dX11_leftOf_12 rfl (lv_at hl 1 rfl) ?_
      obtain ⟨g1, h⟩ := grd_s h
      refine g_iald hx hb hK hW 10 rfl g1 dX11_leftOf_13 ?_
      obtain ⟨r2, q3, h⟩ := bnd1_s h
      refine cl_X11_226 hx hb hml hown hts hK hN hW (c_X11_countOf l D T A a_o (Z) x_o (x_o 10 v1_5.toNatClampNeg) r2 q3) ⟨Nat.le_of_ble_eq_true rfl, Nat.le_of_ble_eq_true rfl⟩ hl.1 rfl (Nat.le_of_ble_eq_true rfl) dX11_leftOf_14 ⟨Nat.zero_le _, Nat.zero_le _⟩ rfl (fun H locs hW => ?_)
      refine lv_icmp_ge (tgt := 68) hx hb dX11_leftOf_17 (by decide) (fun c4 => ?_) (fun c4 => ?_)
      · have h := ite_t c4 h
        obtain ⟨rfl, rfl⟩ := ret2 h
        exact k1 H locs ls hW (lv_sub hl [3] rfl)
      · have h := ite_f c4 h
        refine lv_iload_n hx hb dX11_leftOf_20 rfl (lv_at hl 3 rfl) ?_
        refine lv_aload_n hx hb dX11_leftOf_21 rfl (lv_at hl 0 rfl) ?_
        refine fg_X11_40 (v := .ref (a_o 11)) hx hb hts hown hK hW 0 rfl rfl dX11_leftOf_22 ?_
        refine lv_iload_n hx hb dX11_leftOf_25 rfl (lv_at hl 1 rfl) ?_
        obtain ⟨g5, h⟩ := grd_s h
        refine g_iald hx hb hK hW 11 rfl g5 dX11_leftOf_26 ?_
        refine lv_iload hx hb dX11_leftOf_27 (lv_at hl 4 rfl) ?_
        refine lv_ishr hx hb dX11_leftOf_29 ?_
        refine lv_iconst (v := 1) hx hb dX11_leftOf_30 (by decide) ?_
        refine lv_iand hx hb dX11_leftOf_31 ?_
        refine lv_iconst (v := 1) hx hb dX11_leftOf_32 (by decide) ?_
        refine lv_icmp_ne (tgt := 59) hx hb dX11_leftOf_33 (by decide) (fun c6 => ?_) (fun c6 => ?_)
        · have h := ite_f c6 h
          refine lv_iconst (v := 0) hx hb dX11_leftOf_59 (by decide) ?_
          refine lv_ior hx hb dX11_leftOf_60 ?_
          refine lv_topi (fun w3_7 ew3_7 => ?_)
          have h := lb_at ew3_7 h
          refine lv_istore_n (lv' := [(3, .int w3_7), (0, .ref (a_o 0)), (1, .int v1_5), (2, .int v2_5), (4, .int v4_5)]) hx hb dX11_leftOf_61 rfl hl (by decide) rfl (fun ls hl => ?_)
          obtain ⟨w4_8, ew4_8⟩ : ∃ y : Int32, y = v4_5 + 1 := ⟨_, rfl⟩
          have h := lb_at ew4_8 h
          refine lv_iinc (v := w4_8) (lv' := [(4, .int w4_8), (3, .int w3_7), (0, .ref (a_o 0)), (1, .int v1_5), (2, .int v2_5)]) hx hb dX11_leftOf_62 hl (k := 4) rfl (by rw [ew4_8]; rfl) (by decide) rfl (fun ls hl => ?_)
          refine lv_goto (tgt := 5) hx hb dX11_leftOf_65 (by decide) ?_
          exact ih _ _ _ _ H locs ls _ _ hW (lv_sub hl [2, 3, 4, 1, 0] rfl) h k1
        · have h := ite_t c6 h
          refine lv_aload_n hx hb dX11_leftOf_36 rfl (lv_at hl 0 rfl) ?_
          refine lv_aload_n hx hb dX11_leftOf_37 rfl (lv_at hl 0 rfl) ?_
          refine fg_X11_37 (v := .ref (a_o 10)) hx hb hts hown hK hW 0 rfl rfl dX11_leftOf_38 ?_
          refine lv_iload_n hx hb dX11_leftOf_41 rfl (lv_at hl 1 rfl) ?_
          obtain ⟨g9, h⟩ := grd_s h
          refine g_iald hx hb hK hW 10 rfl g9 dX11_leftOf_42 ?_
          refine lv_iload hx hb dX11_leftOf_43 (lv_at hl 4 rfl) ?_
          obtain ⟨r10, q11, h⟩ := bnd1_s h
          refine cl_X11_237 hx hb hml hown hts hK hN hW (c_X11_categoryOf l D T A a_o (Z) x_o (x_o 10 v1_5.toNatClampNeg) v4_5 r10 q11) ⟨Nat.le_of_ble_eq_true rfl, Nat.le_of_ble_eq_true rfl⟩ hl.1 rfl (Nat.le_of_ble_eq_true rfl) dX11_leftOf_45 ⟨Nat.zero_le _, Nat.zero_le _⟩ rfl (fun H locs hW => ?_)
          refine lv_iload_n hx hb dX11_leftOf_48 rfl (lv_at hl 2 rfl) ?_
          refine lv_icmp_ne (tgt := 59) hx hb dX11_leftOf_49 (by decide) (fun c12 => ?_) (fun c12 => ?_)
          · have h := ite_f c12 h
            refine lv_iconst (v := 0) hx hb dX11_leftOf_59 (by decide) ?_
            refine lv_ior hx hb dX11_leftOf_60 ?_
            refine lv_topi (fun w3_13 ew3_13 => ?_)
            have h := lb_at ew3_13 h
            refine lv_istore_n (lv' := [(3, .int w3_13), (0, .ref (a_o 0)), (1, .int v1_5), (2, .int v2_5), (4, .int v4_5)]) hx hb dX11_leftOf_61 rfl hl (by decide) rfl (fun ls hl => ?_)
            obtain ⟨w4_14, ew4_14⟩ : ∃ y : Int32, y = v4_5 + 1 := ⟨_, rfl⟩
            have h := lb_at ew4_14 h
            refine lv_iinc (v := w4_14) (lv' := [(4, .int w4_14), (3, .int w3_13), (0, .ref (a_o 0)), (1, .int v1_5), (2, .int v2_5)]) hx hb dX11_leftOf_62 hl (k := 4) rfl (by rw [ew4_14]; rfl) (by decide) rfl (fun ls hl => ?_)
            refine lv_goto (tgt := 5) hx hb dX11_leftOf_65 (by decide) ?_
            exact ih _ _ _ _ H locs ls _ _ hW (lv_sub hl [2, 3, 4, 1, 0] rfl) h k1
          · have h := ite_t c12 h
            refine lv_iconst (v := 1) hx hb dX11_leftOf_52 (by decide) ?_
            refine lv_iload hx hb dX11_leftOf_53 (lv_at hl 4 rfl) ?_
            refine lv_ishl hx hb dX11_leftOf_55 ?_
            refine lv_goto (tgt := 60) hx hb dX11_leftOf_56 (by decide) ?_
            refine lv_ior hx hb dX11_leftOf_60 ?_
            refine lv_topi (fun w3_15 ew3_15 => ?_)
            have h := lb_at ew3_15 h
            refine lv_istore_n (lv' := [(3, .int w3_15), (0, .ref (a_o 0)), (1, .int v1_5), (2, .int v2_5), (4, .int v4_5)]) hx hb dX11_leftOf_61 rfl hl (by decide) rfl (fun ls hl => ?_)
            obtain ⟨w4_16, ew4_16⟩ : ∃ y : Int32, y = v4_5 + 1 := ⟨_, rfl⟩
            have h := lb_at ew4_16 h
            refine lv_iinc (v := w4_16) (lv' := [(4, .int w4_16), (3, .int w3_15), (0, .ref (a_o 0)), (1, .int v1_5), (2, .int v2_5)]) hx hb dX11_leftOf_62 hl (k := 4) rfl (by rw [ew4_16]; rfl) (by decide) rfl (fun ls hl => ?_)
            refine lv_goto (tgt := 5) hx hb dX11_leftOf_65 (by decide) ?_
            exact ih _ _ _ _ H locs ls _ _ hW (lv_sub hl [2, 3, 4, 1, 0] rfl) h k1
  rw [f_X11_leftOf] at h
  suffices hm : ∀ (H : Heap) (locs : List Loc), Wd D A s.heap (oc_X11 T a_o x_o ++ Z) H locs → W p l e (rmd 1) s m args below meth c H locs 0 0 Q (F0 m 0 ls []) from hm _ _ hW
  intro H locs hW
  refine lv_iconst (v := 0) hx hb dX11_leftOf_0 (by decide) ?_
  refine lv_istore_n (lv' := [(3, .int 0), (0, .ref (a_o 0)), (1, .int p1), (2, .int p2)]) hx hb dX11_leftOf_1 rfl hl (by decide) rfl (fun ls hl => ?_)
  refine lv_iconst (v := 0) hx hb dX11_leftOf_2 (by decide) ?_
  refine lv_istore (lv' := [(4, .int 0), (3, .int 0), (0, .ref (a_o 0)), (1, .int p1), (2, .int p2)]) hx hb dX11_leftOf_3 hl (by decide) rfl (fun ls hl => ?_)
  obtain ⟨o3_u17, o4_u17, q18, h⟩ := bnd2_s h
  refine L5 200 _ _ _ _ H locs ls o3_u17 o4_u17 hW (lv_sub hl [2, 3, 4, 1, 0] rfl) q18 (fun H locs ls hW hl => ?_)
  refine lv_iload_n hx hb dX11_leftOf_68 rfl (lv_at hl 0 rfl) ?_
  obtain rfl := ret1 h
  rw [hQ]
  exact g_reti hx hb hr hlk hW dX11_leftOf_69
set_option maxHeartbeats 4000000 in
set_option maxRecDepth 100000 in
theorem c_X11_holds (l : Launch) (D : va_G) (T : Nat → ClassId) (A : Nat → Prop) (a_o : Nat → Nat) (Z : va_W)  (x_o : Ob) (p1 : Int32) (p2 : Int32) (p3 : Int32) (r : Int32) (h : f_X11_holds x_o p1 p2 p3 = some r) : Met l yX11_holds (Cond.code yX11_holds cX11_holds 6 (some .boolean) :: wsL_law) (rmd 2) (Pg D T A (oc_X11 T a_o x_o ++ Z) [.ref (a_o 0), .int p1, .int p2, .int p3]) (Qgi D A (oc_X11 T a_o x_o ++ Z) r) 0 0 A := by
  refine Met.ofW (cc := cX11_holds) (maxL := 6) (ret := (some .boolean)) (by decide +kernel) rfl ?_
  intro p e s m args below meth c s₁ B hml hv
  obtain ⟨ha, hP, hK, hD, hN⟩ := hv
  have hx := B.exec
  have hb := B.bytes
  have hr := B.returns
  have hlk := B.notSynchronized
  have hts : ∀ w ∈ wsL_law, w.before args s = true := fun w hw => atoms_spec B.pre w (List.mem_cons_of_mem _ hw)
  have hown : s.vm.findClass RX11 = some m.cls := findClass_of_methodNamed B.named
  have hW : Wd D A s.heap (oc_X11 T a_o x_o ++ Z) s.heap [] := ⟨hP, hD, va_S.rf⟩
  have hl := lv_entry [.ref (a_o 0), .int p1, .int p2, .int p3] (n := 6) (Nat.le_of_ble_eq_true rfl)
  refine W.eq (en_eq ha) ?_
  generalize (lg_sl [.ref (a_o 0), .int p1, .int p2, .int p3] ++ List.replicate (6 - (lg_sl [.ref (a_o 0), .int p1, .int p2, .int p3]).length) Slot.unset).toArray = ls at hl ⊢
  have hl : lv_has ls 6 [(0, .ref (a_o 0)), (1, .int p1), (2, .int p2), (3, .int p3)] := hl
  clear hP hD B ha
  obtain ⟨Q, hQ⟩ : ∃ Q, Q = MQ below (Qgi D A (oc_X11 T a_o x_o ++ Z) r) args s 0 0 A := ⟨_, rfl⟩
  rw [← hQ]
  change W p l e (rmd 2) s m args below meth c s.heap [] 0 0 Q (F0 m 0 ls [])
  have J160 : ∀ (v1_160 : Int32) (v2_160 : Int32) (v4_160 : Int32) (v5_160 : Int32) (H : Heap) (locs : List Loc) (ls : Array Slot) (code : Nat) (o4j : Int32), Wd D A s.heap (oc_X11 T a_o x_o ++ Z) H locs → lv_has ls 6 [(0, .ref (a_o 0)), (1, .int v1_160), (2, .int v2_160), (4, .int v4_160), (5, .int v5_160)] → f_X11_holds_J160 x_o v1_160 v2_160 v4_160 v5_160 = some (code, o4j) → (code = 0 → ∀ (H : Heap) (locs : List Loc) (ls : Array Slot), Wd D A s.heap (oc_X11 T a_o x_o ++ Z) H locs → lv_has ls 6 [(0, .ref (a_o 0)), (1, .int v1_160), (2, .int v2_160), (4, .int o4j)] → W p l e (rmd 2) s m args below meth c H locs 0 0 Q (F0 m 93 ls [])) → (code = 1 → ∀ (H : Heap) (locs : List Loc) (ls : Array Slot), Wd D A s.heap (oc_X11 T a_o x_o ++ Z) H locs → lv_has ls 6 [] → W p l e (rmd 2) s m args below meth c H locs 0 0 Q (F0 m 191 ls [])) → (code = 2 → ∀ (H : Heap) (locs : List Loc) (ls : Array Slot), Wd D A s.heap (oc_X11 T a_o x_o ++ Z) H locs → lv_has ls 6 [] → W p l e (rmd 2) s m args below meth c H locs 0 0 Q (F0 m 158 ls [])) → (code = 3 → ∀ (H : Heap) (locs : List Loc) (ls : Array Slot), Wd D A s.heap (oc_X11 T a_o x_o ++ Z) H locs → lv_has ls 6 [] → W p l e (rmd 2) s m args below meth c H locs 0 0 Q (F0 m 175 ls [])) → W p l e (rmd 2) s m args below meth c H locs 0 0 Q (F0 m 160 ls []) := by
    intro v1_160 v2_160 v4_160 v5_160 H locs ls code o4j hW hl h k0 k1 k2 k3
    rw [f_X11_holds_J160] at h
    refine lv_aload_n hx hb dX11_holds_160 rfl (lv_at hl 0 rfl) ?_
    refine lv_iload hx hb dX11_holds_161 (lv_at hl 4 rfl) ?_
    refine lv_aload_n hx hb dX11_holds_163 rfl (lv_at hl 0 rfl) ?_
    refine fg_X11_62 (v := .ref (a_o 18)) hx hb hts hown hK hW 0 rfl rfl dX11_holds_164 ?_
    refine lv_iload_n hx hb dX11_holds_167 rfl (lv_at hl 2 rfl) ?_
    obtain ⟨g11, h⟩ := grd_s h
    refine g_iald hx hb hK hW 18 rfl g11 dX11_holds_168 ?_
    obtain ⟨r12, q13, h⟩ := bnd1_s h
    refine cl_X11_241 hx hb hml hown hts hK hN hW (c_X11_leftOf l D T A a_o (Z) x_o v5_160 (x_o 19 v2_160.toNatClampNeg) r12 q13) ⟨Nat.le_of_ble_eq_true rfl, Nat.le_of_ble_eq_true rfl⟩ hl.1 rfl (Nat.le_of_ble_eq_true rfl) dX11_holds_169 ⟨Nat.zero_le _, Nat.zero_le _⟩ rfl (fun H locs hW => ?_)
    refine lv_if_eq (tgt := 177) hx hb dX11_holds_172 (by decide) (fun c14 => ?_) (fun c14 => ?_)
    · have h := ite_t c14 h
      refine lv_iload hx hb dX11_holds_177 (lv_at hl 3 rfl) ?_
      refine lv_aload_n hx hb dX11_holds_179 rfl (lv_at hl 0 rfl) ?_
      refine fg_X11_59 (v := .ref (a_o 17)) hx hb hts hown hK hW 0 rfl rfl dX11_holds_180 ?_
      refine lv_iload_n hx hb dX11_holds_183 rfl (lv_at hl 2 rfl) ?_
      obtain ⟨g15, h⟩ := grd_s h
      refine g_iald hx hb hK hW 17 rfl g15 dX11_holds_184 ?_
      refine lv_iadd hx hb dX11_holds_185 ?_
      refine lv_topi (fun w4_16 ew4_16 => ?_)
      have h := lb_at ew4_16 h
      refine lv_istore (lv' := [(4, .int w4_16), (0, .ref (a_o 0)), (1, .int v1_160), (2, .int v2_160), (5, .int v5_160)]) hx hb dX11_holds_186 hl (by decide) rfl (fun ls hl => ?_)
      refine lv_goto (tgt := 93) hx hb dX11_holds_188 (by decide) ?_
      obtain ⟨rfl, rfl⟩ := ret2 h
      exact k0 rfl H locs ls hW (lv_sub hl [1, 2, 3, 0] rfl)
    · have h := ite_f c14 h
      obtain ⟨rfl, rfl⟩ := ret2 h
      exact k3 rfl H locs ls hW (lv_sub hl [] rfl)
  have L93 : ∀ (n : Nat) (v1_93 : Int32) (v2_93 : Int32) (v4_93 : Int32) (H : Heap) (locs : List Loc) (ls : Array Slot) (code : Nat) (o4_93r : Int32), Wd D A s.heap (oc_X11 T a_o x_o ++ Z) H locs → lv_has ls 6 [(0, .ref (a_o 0)), (1, .int v1_93), (2, .int v2_93), (4, .int v4_93)] → f_X11_holds_L93 n x_o v1_93 v2_93 v4_93 = some (code, o4_93r) → (code = 1 → ∀ (H : Heap) (locs : List Loc) (ls : Array Slot), Wd D A s.heap (oc_X11 T a_o x_o ++ Z) H locs → lv_has ls 6 [] → W p l e (rmd 2) s m args below meth c H locs 0 0 Q (F0 m 191 ls [])) → (code = 2 → ∀ (H : Heap) (locs : List Loc) (ls : Array Slot), Wd D A s.heap (oc_X11 T a_o x_o ++ Z) H locs → lv_has ls 6 [] → W p l e (rmd 2) s m args below meth c H locs 0 0 Q (F0 m 158 ls [])) → (code = 3 → ∀ (H : Heap) (locs : List Loc) (ls : Array Slot), Wd D A s.heap (oc_X11 T a_o x_o ++ Z) H locs → lv_has ls 6 [] → W p l e (rmd 2) s m args below meth c H locs 0 0 Q (F0 m 175 ls [])) → W p l e (rmd 2) s m args below meth c H locs 0 0 Q (F0 m 93 ls []) := by
    intro n
    induction n with
    | zero =>
      intro v1_93 v2_93 v4_93 H locs ls code o4_93r hW hl h k1 k2 k3
      rw [f_X11_holds_L93] at h
      cases h
    | succ n ih =>
      intro v1_93 v2_93 v4_93 H locs ls code o4_93r hW hl h k1 k2 k3
      rw [f_X11_holds_L93] at h
      refine lv_iload hx hb dX11_holds_93 (lv_at hl 3 rfl) ?_
      refine lv_if_lt (tgt := 191) hx hb dX11_holds_95 (by decide) (fun c5 => ?_) (fun c5 => ?_)
      · have h := ite_t c5 h
        obtain ⟨rfl, rfl⟩ := ret2 h
        exact k1 rfl H locs ls hW (lv_sub hl [] rfl)
      · have h := ite_f c5 h
        refine lv_iload hx hb dX11_holds_98 (lv_at hl 3 rfl) ?_
        refine lv_aload_n hx hb dX11_holds_100 rfl (lv_at hl 0 rfl) ?_
        refine fg_X11_34 (v := .ref (a_o 9)) hx hb hts hown hK hW 0 rfl rfl dX11_holds_101 ?_
        refine lv_iload_n hx hb dX11_holds_104 rfl (lv_at hl 1 rfl) ?_
        obtain ⟨g6, h⟩ := grd_s h
        refine g_iald hx hb hK hW 9 rfl g6 dX11_holds_105 ?_
        refine lv_icmp_ge (tgt := 191) hx hb dX11_holds_106 (by decide) (fun c7 => ?_) (fun c7 => ?_)
        · have h := ite_t c7 h
          obtain ⟨rfl, rfl⟩ := ret2 h
          exact k1 rfl H locs ls hW (lv_sub hl [] rfl)
        · have h := ite_f c7 h
          refine lv_bipush (v := 6) hx hb dX11_holds_109 (by decide) ?_
          refine lv_iload_n hx hb dX11_holds_111 rfl (lv_at hl 1 rfl) ?_
          refine lv_imul hx hb dX11_holds_112 ?_
          refine lv_iload hx hb dX11_holds_113 (lv_at hl 3 rfl) ?_
          refine lv_iadd hx hb dX11_holds_115 ?_
          refine lv_topi (fun w5_8 ew5_8 => ?_)
          have h := lb_at ew5_8 h
          refine lv_istore (lv' := [(5, .int w5_8), (0, .ref (a_o 0)), (1, .int v1_93), (2, .int v2_93), (4, .int v4_93)]) hx hb dX11_holds_116 hl (by decide) rfl (fun ls hl => ?_)
          refine lv_aload_n hx hb dX11_holds_118 rfl (lv_at hl 1 rfl) ?_
          refine fg_X11_65 (v := .ref (a_o 19)) hx hb hts hown hK hW 0 rfl rfl dX11_holds_119 ?_
          refine lv_iload_n hx hb dX11_holds_122 rfl (lv_at hl 3 rfl) ?_
          obtain ⟨g9, h⟩ := grd_s h
          refine g_iald hx hb hK hW 19 rfl g9 dX11_holds_123 ?_
          refine lv_iconst (v := (-1)) hx hb dX11_holds_124 (by decide) ?_
          refine lv_icmp_eq (tgt := 160) hx hb dX11_holds_125 (by decide) (fun c10 => ?_) (fun c10 => ?_)
          · have h := ite_t c10 h
            obtain ⟨code18, o4_t17, q19, h⟩ := bnd2_s h
            refine J160 _ _ _ _ H locs ls code18 o4_t17 hW (lv_sub hl [1, 2, 3, 4, 0] rfl) q19 (fun hc H locs ls hW hl => ?_) (fun hc H locs ls hW hl => ?_) (fun hc H locs ls hW hl => ?_) (fun hc H locs ls hW hl => ?_)
            · have h := ite_t hc h
              exact ih _ _ _ H locs ls _ _ hW (lv_sub hl [0, 1, 2, 3] rfl) h k1 k2 k3
            · have h := ite_f (by rw [hc]; decide) h
              obtain ⟨rfl, rfl⟩ := ret2 h
              exact k1 hc H locs ls hW hl
            · have h := ite_f (by rw [hc]; decide) h
              obtain ⟨rfl, rfl⟩ := ret2 h
              exact k2 hc H locs ls hW hl
            · have h := ite_f (by rw [hc]; decide) h
              obtain ⟨rfl, rfl⟩ := ret2 h
              exact k3 hc H locs ls hW hl
          · have h := ite_f c10 h
            refine lv_aload_n hx hb dX11_holds_128 rfl (lv_at hl 1 rfl) ?_
            refine fg_X11_65 (v := .ref (a_o 19)) hx hb hts hown hK hW 0 rfl rfl dX11_holds_129 ?_
            refine lv_iload_n hx hb dX11_holds_132 rfl (lv_at hl 3 rfl) ?_
            obtain ⟨g20, h⟩ := grd_s h
            refine g_iald hx hb hK hW 19 rfl g20 dX11_holds_133 ?_
            refine lv_aload_n hx hb dX11_holds_134 rfl (lv_at hl 1 rfl) ?_
            refine fg_X11_62 (v := .ref (a_o 18)) hx hb hts hown hK hW 0 rfl rfl dX11_holds_135 ?_
            refine lv_iload_n hx hb dX11_holds_138 rfl (lv_at hl 3 rfl) ?_
            obtain ⟨g21, h⟩ := grd_s h
            refine g_iald hx hb hK hW 18 rfl g21 dX11_holds_139 ?_
            refine lv_icmp_eq (tgt := 160) hx hb dX11_holds_140 (by decide) (fun c22 => ?_) (fun c22 => ?_)
            · have h := ite_t c22 h
              obtain ⟨code24, o4_t23, q25, h⟩ := bnd2_s h
              refine J160 _ _ _ _ H locs ls code24 o4_t23 hW (lv_sub hl [1, 2, 3, 4, 0] rfl) q25 (fun hc H locs ls hW hl => ?_) (fun hc H locs ls hW hl => ?_) (fun hc H locs ls hW hl => ?_) (fun hc H locs ls hW hl => ?_)
              · have h := ite_t hc h
                exact ih _ _ _ H locs ls _ _ hW (lv_sub hl [0, 1, 2, 3] rfl) h k1 k2 k3
              · have h := ite_f (by rw [hc]; decide) h
                obtain ⟨rfl, rfl⟩ := ret2 h
                exact k1 hc H locs ls hW hl
              · have h := ite_f (by rw [hc]; decide) h
                obtain ⟨rfl, rfl⟩ := ret2 h
                exact k2 hc H locs ls hW hl
              · have h := ite_f (by rw [hc]; decide) h
                obtain ⟨rfl, rfl⟩ := ret2 h
                exact k3 hc H locs ls hW hl
            · have h := ite_f c22 h
              refine lv_aload_n hx hb dX11_holds_143 rfl (lv_at hl 1 rfl) ?_
              refine lv_iload hx hb dX11_holds_144 (lv_at hl 0 rfl) ?_
              refine lv_aload_n hx hb dX11_holds_146 rfl (lv_at hl 1 rfl) ?_
              refine fg_X11_65 (v := .ref (a_o 19)) hx hb hts hown hK hW 0 rfl rfl dX11_holds_147 ?_
              refine lv_iload_n hx hb dX11_holds_150 rfl (lv_at hl 3 rfl) ?_
              obtain ⟨g26, h⟩ := grd_s h
              refine g_iald hx hb hK hW 19 rfl g26 dX11_holds_151 ?_
              obtain ⟨r27, q28, h⟩ := bnd1_s h
              refine cl_X11_241 hx hb hml hown hts hK hN hW (c_X11_leftOf l D T A a_o (Z) x_o w5_8 (x_o 20 v2_93.toNatClampNeg) r27 q28) ⟨Nat.le_of_ble_eq_true rfl, Nat.le_of_ble_eq_true rfl⟩ hl.1 rfl (Nat.le_of_ble_eq_true rfl) dX11_holds_152 ⟨Nat.zero_le _, Nat.zero_le _⟩ rfl (fun H locs hW => ?_)
              refine lv_if_eq (tgt := 160) hx hb dX11_holds_155 (by decide) (fun c29 => ?_) (fun c29 => ?_)
              · have h := ite_t c29 h
                obtain ⟨code31, o4_t30, q32, h⟩ := bnd2_s h
                refine J160 _ _ _ _ H locs ls code31 o4_t30 hW (lv_sub hl [1, 2, 3, 4, 0] rfl) q32 (fun hc H locs ls hW hl => ?_) (fun hc H locs ls hW hl => ?_) (fun hc H locs ls hW hl => ?_) (fun hc H locs ls hW hl => ?_)
                · have h := ite_t hc h
                  exact ih _ _ _ H locs ls _ _ hW (lv_sub hl [0, 1, 2, 3] rfl) h k1 k2 k3
                · have h := ite_f (by rw [hc]; decide) h
                  obtain ⟨rfl, rfl⟩ := ret2 h
                  exact k1 hc H locs ls hW hl
                · have h := ite_f (by rw [hc]; decide) h
                  obtain ⟨rfl, rfl⟩ := ret2 h
                  exact k2 hc H locs ls hW hl
                · have h := ite_f (by rw [hc]; decide) h
                  obtain ⟨rfl, rfl⟩ := ret2 h
                  exact k3 hc H locs ls hW hl
              · have h := ite_f c29 h
                obtain ⟨rfl, rfl⟩ := ret2 h
                exact k2 rfl H locs ls hW (lv_sub hl [] rfl)
  rw [f_X11_holds] at h
  suffices hm : ∀ (H : Heap) (locs : List Loc), Wd D A s.heap (oc_X11 T a_o x_o ++ Z) H locs → W p l e (rmd 2) s m args below meth c H locs 0 0 Q (F0 m 0 ls []) from hm _ _ hW
  intro H locs hW
  refine lv_aload_n hx hb dX11_holds_0 rfl (lv_at hl 0 rfl) ?_
  refine fg_X11_52 (v := .ref (a_o 15)) hx hb hts hown hK hW 0 rfl rfl dX11_holds_1 ?_
  refine lv_iload_n hx hb dX11_holds_4 rfl (lv_at hl 2 rfl) ?_
  obtain ⟨g1, h⟩ := grd_s h
  refine g_zald hx hb hK hW 15 rfl g1 dX11_holds_5 ?_
  refine lv_if_ne (tgt := 83) hx hb dX11_holds_6 (by decide) (fun c2 => ?_) (fun c2 => ?_)
  · have h := ite_f c2 h
    refine lv_iload_n hx hb dX11_holds_83 rfl (lv_at hl 3 rfl) ?_
    refine lv_aload_n hx hb dX11_holds_84 rfl (lv_at hl 0 rfl) ?_
    refine fg_X11_59 (v := .ref (a_o 17)) hx hb hts hown hK hW 0 rfl rfl dX11_holds_85 ?_
    refine lv_iload_n hx hb dX11_holds_88 rfl (lv_at hl 2 rfl) ?_
    obtain ⟨g3, h⟩ := grd_s h
    refine g_iald hx hb hK hW 17 rfl g3 dX11_holds_89 ?_
    refine lv_iadd hx hb dX11_holds_90 ?_
    refine lv_topi (fun w4_4 ew4_4 => ?_)
    have h := lb_at ew4_4 h
    refine lv_istore (lv' := [(4, .int w4_4), (0, .ref (a_o 0)), (1, .int p1), (2, .int p2), (3, .int p3)]) hx hb dX11_holds_91 hl (by decide) rfl (fun ls hl => ?_)
    obtain ⟨code34, o4_u33, q35, h⟩ := bnd2_s h
    refine L93 200 _ _ _ H locs ls code34 o4_u33 hW (lv_sub hl [1, 2, 3, 0] rfl) q35 (fun hc H locs ls hW hl => ?_) (fun hc H locs ls hW hl => ?_) (fun hc H locs ls hW hl => ?_)
    · have h := ite_t hc h
      refine lv_iconst (v := 0) hx hb dX11_holds_191 (by decide) ?_
      obtain rfl := ret1 h
      rw [hQ]
      exact g_retz hx hb hr hlk hW (by decide) dX11_holds_192
    · have h := ite_f (by rw [hc]; decide) h
      have h := ite_t hc h
      refine lv_iconst (v := 0) hx hb dX11_holds_158 (by decide) ?_
      obtain rfl := ret1 h
      rw [hQ]
      exact g_retz hx hb hr hlk hW (by decide) dX11_holds_159
    · have h := ite_f (by rw [hc]; decide) h
      have h := ite_f (by rw [hc]; decide) h
      refine lv_iconst (v := 1) hx hb dX11_holds_175 (by decide) ?_
      obtain rfl := ret1 h
      rw [hQ]
      exact g_retz hx hb hr hlk hW (by decide) dX11_holds_176
  · have h := ite_t c2 h
    refine lv_iload_n hx hb dX11_holds_9 rfl (lv_at hl 3 rfl) ?_
    refine lv_aload_n hx hb dX11_holds_10 rfl (lv_at hl 0 rfl) ?_
    refine fg_X11_59 (v := .ref (a_o 17)) hx hb hts hown hK hW 0 rfl rfl dX11_holds_11 ?_
    refine lv_iload_n hx hb dX11_holds_14 rfl (lv_at hl 2 rfl) ?_
    obtain ⟨g36, h⟩ := grd_s h
    refine g_iald hx hb hK hW 17 rfl g36 dX11_holds_15 ?_
    refine lv_iadd hx hb dX11_holds_16 ?_
    refine lv_topi (fun w4_37 ew4_37 => ?_)
    have h := lb_at ew4_37 h
    refine lv_istore (lv' := [(4, .int w4_37), (0, .ref (a_o 0)), (1, .int p1), (2, .int p2), (3, .int p3)]) hx hb dX11_holds_17 hl (by decide) rfl (fun ls hl => ?_)
    refine lv_bipush (v := 6) hx hb dX11_holds_19 (by decide) ?_
    refine lv_iload_n hx hb dX11_holds_21 rfl (lv_at hl 2 rfl) ?_
    refine lv_imul hx hb dX11_holds_22 ?_
    refine lv_iload hx hb dX11_holds_23 (lv_at hl 0 rfl) ?_
    refine lv_iadd hx hb dX11_holds_25 ?_
    refine lv_topi (fun w5_38 ew5_38 => ?_)
    have h := lb_at ew5_38 h
    refine lv_istore (lv' := [(5, .int w5_38), (4, .int w4_37), (0, .ref (a_o 0)), (1, .int p1), (2, .int p2), (3, .int p3)]) hx hb dX11_holds_26 hl (by decide) rfl (fun ls hl => ?_)
    refine lv_iload hx hb dX11_holds_28 (lv_at hl 1 rfl) ?_
    refine lv_iconst (v := 0) hx hb dX11_holds_30 (by decide) ?_
    refine lv_aload_n hx hb dX11_holds_31 rfl (lv_at hl 2 rfl) ?_
    refine fg_X11_34 (v := .ref (a_o 9)) hx hb hts hown hK hW 0 rfl rfl dX11_holds_32 ?_
    refine lv_iload_n hx hb dX11_holds_35 rfl (lv_at hl 3 rfl) ?_
    obtain ⟨g39, h⟩ := grd_s h
    refine g_iald hx hb hK hW 9 rfl g39 dX11_holds_36 ?_
    refine lv_iconst (v := 1) hx hb dX11_holds_37 (by decide) ?_
    refine lv_isub hx hb dX11_holds_38 ?_
    obtain ⟨r40, q41, h⟩ := bnd1_s h
    refine cl_X11_187 hx hb hml hown hts hK hN hW (c_X11_isIn l D T A (oc_X11 T a_o x_o ++ Z) w4_37 0 ((x_o 9 p1.toNatClampNeg) - 1) r40 q41) ⟨Nat.le_of_ble_eq_true rfl, Nat.le_of_ble_eq_true rfl⟩ hl.1 rfl (Nat.le_of_ble_eq_true rfl) dX11_holds_39 ⟨Nat.zero_le _, Nat.zero_le _⟩ rfl (fun H locs hW => ?_)
    refine lv_if_eq (tgt := 81) hx hb dX11_holds_42 (by decide) (fun c42 => ?_) (fun c42 => ?_)
    · have h := ite_t c42 h
      refine lv_iconst (v := 0) hx hb dX11_holds_81 (by decide) ?_
      obtain rfl := ret1 h
      rw [hQ]
      exact g_retz hx hb hr hlk hW (by decide) dX11_holds_82
    · have h := ite_f c42 h
      refine lv_aload_n hx hb dX11_holds_45 rfl (lv_at hl 2 rfl) ?_
      refine fg_X11_40 (v := .ref (a_o 11)) hx hb hts hown hK hW 0 rfl rfl dX11_holds_46 ?_
      refine lv_iload hx hb dX11_holds_49 (lv_at hl 0 rfl) ?_
      obtain ⟨g43, h⟩ := grd_s h
      refine g_iald hx hb hK hW 11 rfl g43 dX11_holds_51 ?_
      refine lv_if_eq (tgt := 81) hx hb dX11_holds_52 (by decide) (fun c44 => ?_) (fun c44 => ?_)
      · have h := ite_t c44 h
        refine lv_iconst (v := 0) hx hb dX11_holds_81 (by decide) ?_
        obtain rfl := ret1 h
        rw [hQ]
        exact g_retz hx hb hr hlk hW (by decide) dX11_holds_82
      · have h := ite_f c44 h
        refine lv_aload_n hx hb dX11_holds_55 rfl (lv_at hl 2 rfl) ?_
        refine lv_iload hx hb dX11_holds_56 (lv_at hl 0 rfl) ?_
        refine lv_aload_n hx hb dX11_holds_58 rfl (lv_at hl 2 rfl) ?_
        refine fg_X11_62 (v := .ref (a_o 18)) hx hb hts hown hK hW 0 rfl rfl dX11_holds_59 ?_
        refine lv_iload_n hx hb dX11_holds_62 rfl (lv_at hl 4 rfl) ?_
        obtain ⟨g45, h⟩ := grd_s h
        refine g_iald hx hb hK hW 18 rfl g45 dX11_holds_63 ?_
        obtain ⟨r46, q47, h⟩ := bnd1_s h
        refine cl_X11_241 hx hb hml hown hts hK hN hW (c_X11_leftOf l D T A a_o (Z) x_o w5_38 (x_o 19 p2.toNatClampNeg) r46 q47) ⟨Nat.le_of_ble_eq_true rfl, Nat.le_of_ble_eq_true rfl⟩ hl.1 rfl (Nat.le_of_ble_eq_true rfl) dX11_holds_64 ⟨Nat.zero_le _, Nat.zero_le _⟩ rfl (fun H locs hW => ?_)
        refine lv_aload_n hx hb dX11_holds_67 rfl (lv_at hl 2 rfl) ?_
        refine fg_X11_40 (v := .ref (a_o 11)) hx hb hts hown hK hW 0 rfl rfl dX11_holds_68 ?_
        refine lv_iload hx hb dX11_holds_71 (lv_at hl 0 rfl) ?_
        obtain ⟨g48, h⟩ := grd_s h
        refine g_iald hx hb hK hW 11 rfl g48 dX11_holds_73 ?_
        refine lv_icmp_ne (tgt := 81) hx hb dX11_holds_74 (by decide) (fun c49 => ?_) (fun c49 => ?_)
        · have h := ite_f c49 h
          refine lv_iconst (v := 0) hx hb dX11_holds_81 (by decide) ?_
          obtain rfl := ret1 h
          rw [hQ]
          exact g_retz hx hb hr hlk hW (by decide) dX11_holds_82
        · have h := ite_t c49 h
          refine lv_iconst (v := 1) hx hb dX11_holds_77 (by decide) ?_
          refine lv_goto (tgt := 82) hx hb dX11_holds_78 (by decide) ?_
          obtain rfl := ret1 h
          rw [hQ]
          exact g_retz hx hb hr hlk hW (by decide) dX11_holds_82
set_option maxHeartbeats 4000000 in
set_option maxRecDepth 100000 in
theorem c_X11_strikeAll (l : Launch) (D : va_G) (T : Nat → ClassId) (A : Nat → Prop) (a_o : Nat → Nat) (Z : va_W)  (x_o : Ob) (p1 : Int32) (x_o9 : Ob) (h : f_X11_strikeAll x_o p1 = some x_o9) : Met l yX11_strikeAll (Cond.code yX11_strikeAll cX11_strikeAll 7 none :: wsL_law) (rmd 3) (Pg D T A (oc_X11 T a_o x_o ++ Z) [.ref (a_o 0), .int p1]) (Qgv D A (oc_X11 T a_o x_o9 ++ Z)) 0 0 A := by
  refine Met.ofW (cc := cX11_strikeAll) (maxL := 7) (ret := none) (by decide +kernel) rfl ?_
  intro p e s m args below meth c s₁ B hml hv
  obtain ⟨ha, hP, hK, hD, hN⟩ := hv
  have hx := B.exec
  have hb := B.bytes
  have hr := B.returns
  have hlk := B.notSynchronized
  have hts : ∀ w ∈ wsL_law, w.before args s = true := fun w hw => atoms_spec B.pre w (List.mem_cons_of_mem _ hw)
  have hown : s.vm.findClass RX11 = some m.cls := findClass_of_methodNamed B.named
  have hW : Wd D A s.heap (oc_X11 T a_o x_o ++ Z) s.heap [] := ⟨hP, hD, va_S.rf⟩
  have hl := lv_entry [.ref (a_o 0), .int p1] (n := 7) (Nat.le_of_ble_eq_true rfl)
  refine W.eq (en_eq ha) ?_
  generalize (lg_sl [.ref (a_o 0), .int p1] ++ List.replicate (7 - (lg_sl [.ref (a_o 0), .int p1]).length) Slot.unset).toArray = ls at hl ⊢
  have hl : lv_has ls 7 [(0, .ref (a_o 0)), (1, .int p1)] := hl
  clear hP hD B ha
  obtain ⟨Q, hQ⟩ : ∃ Q, Q = MQ below (Qgv D A (oc_X11 T a_o x_o9 ++ Z)) args s 0 0 A := ⟨_, rfl⟩
  rw [← hQ]
  change W p l e (rmd 3) s m args below meth c s.heap [] 0 0 Q (F0 m 0 ls [])
  have L2 : ∀ (n : Nat) (x_o_2 : Ob) (v1_2 : Int32) (v2_2 : Int32) (H : Heap) (locs : List Loc) (ls : Array Slot) (o2_2r : Int32) (y_o_2r : Ob), Wd D A s.heap (oc_X11 T a_o x_o_2 ++ Z) H locs → lv_has ls 7 [(0, .ref (a_o 0)), (1, .int v1_2), (2, .int v2_2)] → f_X11_strikeAll_L2 n x_o_2 v1_2 v2_2 = some (o2_2r, y_o_2r) → (∀ (H : Heap) (locs : List Loc) (ls : Array Slot), Wd D A s.heap (oc_X11 T a_o y_o_2r ++ Z) H locs → lv_has ls 7 [(0, .ref (a_o 0)), (1, .int v1_2)] → W p l e (rmd 3) s m args below meth c H locs 0 0 Q (F0 m 48 ls [])) → W p l e (rmd 3) s m args below meth c H locs 0 0 Q (F0 m 2 ls []) := by
    intro n
    induction n with
    | zero =>
      intro x_o_2 v1_2 v2_2 H locs ls o2_2r y_o_2r hW hl h k1
      rw [f_X11_strikeAll_L2] at h
      cases h
    | succ n ih =>
      intro x_o_2 v1_2 v2_2 H locs ls o2_2r y_o_2r hW hl h k1
      rw [f_X11_strikeAll_L2] at h
      refine lv_iload_n hx hb dX11_strikeAll_2 rfl (lv_at hl 2 rfl) ?_
      refine lv_aload_n hx hb dX11_strikeAll_3 rfl (lv_at hl 0 rfl) ?_
      refine fg_X11_34 (v := .ref (a_o 9)) hx hb hts hown hK hW 0 rfl rfl dX11_strikeAll_4 ?_
      refine lv_iload_n hx hb dX11_strikeAll_7 rfl (lv_at hl 1 rfl) ?_
      obtain ⟨g1, h⟩ := grd_s h
      refine g_iald hx hb hK hW 9 rfl g1 dX11_strikeAll_8 ?_
      refine lv_icmp_ge (tgt := 48) hx hb dX11_strikeAll_9 (by decide) (fun c2 => ?_) (fun c2 => ?_)
      · have h := ite_t c2 h
        obtain ⟨rfl, rfl⟩ := ret2 h
        exact k1 H locs ls hW (lv_sub hl [0, 1] rfl)
      · have h := ite_f c2 h
        refine lv_aload_n hx hb dX11_strikeAll_12 rfl (lv_at hl 0 rfl) ?_
        refine fg_X11_40 (v := .ref (a_o 11)) hx hb hts hown hK hW 0 rfl rfl dX11_strikeAll_13 ?_
        refine lv_bipush (v := 6) hx hb dX11_strikeAll_16 (by decide) ?_
        refine lv_iload_n hx hb dX11_strikeAll_18 rfl (lv_at hl 1 rfl) ?_
        refine lv_imul hx hb dX11_strikeAll_19 ?_
        refine lv_iload_n hx hb dX11_strikeAll_20 rfl (lv_at hl 2 rfl) ?_
        refine lv_iadd hx hb dX11_strikeAll_21 ?_
        refine lv_iconst (v := 1) hx hb dX11_strikeAll_22 (by decide) ?_
        refine lv_aload_n hx hb dX11_strikeAll_23 rfl (lv_at hl 0 rfl) ?_
        refine lv_aload_n hx hb dX11_strikeAll_24 rfl (lv_at hl 0 rfl) ?_
        refine fg_X11_37 (v := .ref (a_o 10)) hx hb hts hown hK hW 0 rfl rfl dX11_strikeAll_25 ?_
        refine lv_bipush (v := 6) hx hb dX11_strikeAll_28 (by decide) ?_
        refine lv_iload_n hx hb dX11_strikeAll_30 rfl (lv_at hl 1 rfl) ?_
        refine lv_imul hx hb dX11_strikeAll_31 ?_
        refine lv_iload_n hx hb dX11_strikeAll_32 rfl (lv_at hl 2 rfl) ?_
        refine lv_iadd hx hb dX11_strikeAll_33 ?_
        obtain ⟨g3, h⟩ := grd_s h
        refine g_iald hx hb hK hW 10 rfl g3 dX11_strikeAll_34 ?_
        obtain ⟨r4, q5, h⟩ := bnd1_s h
        refine cl_X11_226 hx hb hml hown hts hK hN hW (c_X11_countOf l D T A a_o (Z) x_o_2 (x_o_2 10 ((6 * v1_2) + v2_2).toNatClampNeg) r4 q5) ⟨Nat.le_of_ble_eq_true rfl, Nat.le_of_ble_eq_true rfl⟩ hl.1 rfl (Nat.le_of_ble_eq_true rfl) dX11_strikeAll_35 ⟨Nat.zero_le _, Nat.zero_le _⟩ rfl (fun H locs hW => ?_)
        refine lv_ishl hx hb dX11_strikeAll_38 ?_
        refine lv_iconst (v := 1) hx hb dX11_strikeAll_39 (by decide) ?_
        refine lv_isub hx hb dX11_strikeAll_40 ?_
        obtain ⟨g6, h⟩ := grd_s h
        refine g_iast (ws9 := oc_X11 T a_o (upo x_o_2 11 ((6 * v1_2) + v2_2).toNatClampNeg (((1 : Int32) <<< (r4 &&& 31)) - 1)) ++ Z) hx hb hK hW 11 rfl g6 sa_X11_11 dX11_strikeAll_41 (fun H locs hW => ?_)
        obtain ⟨x_o7, ex_o7⟩ : ∃ y : Ob, y = upo x_o_2 11 ((6 * v1_2) + v2_2).toNatClampNeg (((1 : Int32) <<< (r4 &&& 31)) - 1) := ⟨_, rfl⟩
        rw [← ex_o7] at hW
        have h := lb_at ex_o7 h
        obtain ⟨w2_8, ew2_8⟩ : ∃ y : Int32, y = v2_2 + 1 := ⟨_, rfl⟩
        have h := lb_at ew2_8 h
        refine lv_iinc (v := w2_8) (lv' := [(2, .int w2_8), (0, .ref (a_o 0)), (1, .int v1_2)]) hx hb dX11_strikeAll_42 hl (k := 2) rfl (by rw [ew2_8]; rfl) (by decide) rfl (fun ls hl => ?_)
        refine lv_goto (tgt := 2) hx hb dX11_strikeAll_45 (by decide) ?_
        exact ih _ _ _ H locs ls _ _ hW (lv_sub hl [1, 2, 0] rfl) h k1
  have L69 : ∀ (n : Nat) (x_o_69 : Ob) (v1_69 : Int32) (v2_69 : Int32) (v3_69 : Int32) (v4_69 : Int32) (H : Heap) (locs : List Loc) (ls : Array Slot) (o2_69r : Int32) (o4_69r : Int32) (y_o_69r : Ob), Wd D A s.heap (oc_X11 T a_o x_o_69 ++ Z) H locs → lv_has ls 7 [(0, .ref (a_o 0)), (1, .int v1_69), (2, .int v2_69), (3, .int v3_69), (4, .int v4_69)] → f_X11_strikeAll_L69 n x_o_69 v1_69 v2_69 v3_69 v4_69 = some (o2_69r, o4_69r, y_o_69r) → (∀ (H : Heap) (locs : List Loc) (ls : Array Slot), Wd D A s.heap (oc_X11 T a_o y_o_69r ++ Z) H locs → lv_has ls 7 [(0, .ref (a_o 0)), (1, .int v1_69), (2, .int o2_69r), (3, .int v3_69)] → W p l e (rmd 3) s m args below meth c H locs 0 0 Q (F0 m 151 ls [])) → W p l e (rmd 3) s m args below meth c H locs 0 0 Q (F0 m 69 ls []) := by
    intro n
    induction n with
    | zero =>
      intro x_o_69 v1_69 v2_69 v3_69 v4_69 H locs ls o2_69r o4_69r y_o_69r hW hl h k1
      rw [f_X11_strikeAll_L69] at h
      cases h
    | succ n ih =>
      intro x_o_69 v1_69 v2_69 v3_69 v4_69 H locs ls o2_69r o4_69r y_o_69r hW hl h k1
      rw [f_X11_strikeAll_L69] at h
      refine lv_iload hx hb dX11_strikeAll_69 (lv_at hl 4 rfl) ?_
      refine lv_aload_n hx hb dX11_strikeAll_71 rfl (lv_at hl 0 rfl) ?_
      refine fg_X11_34 (v := .ref (a_o 9)) hx hb hts hown hK hW 0 rfl rfl dX11_strikeAll_72 ?_
      refine lv_iload_n hx hb dX11_strikeAll_75 rfl (lv_at hl 1 rfl) ?_
      obtain ⟨g13, h⟩ := grd_s h
      refine g_iald hx hb hK hW 9 rfl g13 dX11_strikeAll_76 ?_
      refine lv_icmp_ge (tgt := 151) hx hb dX11_strikeAll_77 (by decide) (fun c14 => ?_) (fun c14 => ?_)
      · have h := ite_t c14 h
        obtain ⟨rfl, rfl, rfl⟩ := ret3 h
        exact k1 H locs ls hW (lv_sub hl [0, 1, 2, 3] rfl)
      · have h := ite_f c14 h
        refine lv_bipush (v := 6) hx hb dX11_strikeAll_80 (by decide) ?_
        refine lv_iload_n hx hb dX11_strikeAll_82 rfl (lv_at hl 1 rfl) ?_
        refine lv_imul hx hb dX11_strikeAll_83 ?_
        refine lv_iload hx hb dX11_strikeAll_84 (lv_at hl 4 rfl) ?_
        refine lv_iadd hx hb dX11_strikeAll_86 ?_
        refine lv_topi (fun w5_15 ew5_15 => ?_)
        have h := lb_at ew5_15 h
        refine lv_istore (lv' := [(5, .int w5_15), (0, .ref (a_o 0)), (1, .int v1_69), (2, .int v2_69), (3, .int v3_69), (4, .int v4_69)]) hx hb dX11_strikeAll_87 hl (by decide) rfl (fun ls hl => ?_)
        refine lv_aload_n hx hb dX11_strikeAll_89 rfl (lv_at hl 1 rfl) ?_
        refine lv_iload hx hb dX11_strikeAll_90 (lv_at hl 0 rfl) ?_
        refine lv_aload_n hx hb dX11_strikeAll_92 rfl (lv_at hl 1 rfl) ?_
        refine fg_X11_56 (v := .ref (a_o 16)) hx hb hts hown hK hW 0 rfl rfl dX11_strikeAll_93 ?_
        refine lv_iload_n hx hb dX11_strikeAll_96 rfl (lv_at hl 4 rfl) ?_
        obtain ⟨g16, h⟩ := grd_s h
        refine g_iald hx hb hK hW 16 rfl g16 dX11_strikeAll_97 ?_
        obtain ⟨r17, q18, h⟩ := bnd1_s h
        refine cl_X11_241 hx hb hml hown hts hK hN hW (c_X11_leftOf l D T A a_o (Z) x_o_69 w5_15 (x_o_69 17 v3_69.toNatClampNeg) r17 q18) ⟨Nat.le_of_ble_eq_true rfl, Nat.le_of_ble_eq_true rfl⟩ hl.1 rfl (Nat.le_of_ble_eq_true rfl) dX11_strikeAll_98 ⟨Nat.zero_le _, Nat.zero_le _⟩ rfl (fun H locs hW => ?_)
        refine lv_istore (lv' := [(6, .int r17), (5, .int w5_15), (0, .ref (a_o 0)), (1, .int v1_69), (2, .int v2_69), (3, .int v3_69), (4, .int v4_69)]) hx hb dX11_strikeAll_101 hl (by decide) rfl (fun ls hl => ?_)
        refine lv_iload hx hb dX11_strikeAll_103 (lv_at hl 0 rfl) ?_
        refine lv_if_eq (tgt := 145) hx hb dX11_strikeAll_105 (by decide) (fun c19 => ?_) (fun c19 => ?_)
        · have h := ite_t c19 h
          obtain ⟨w4_20, ew4_20⟩ : ∃ y : Int32, y = v4_69 + 1 := ⟨_, rfl⟩
          have h := lb_at ew4_20 h
          refine lv_iinc (v := w4_20) (lv' := [(4, .int w4_20), (6, .int r17), (5, .int w5_15), (0, .ref (a_o 0)), (1, .int v1_69), (2, .int v2_69), (3, .int v3_69)]) hx hb dX11_strikeAll_145 hl (k := 6) rfl (by rw [ew4_20]; rfl) (by decide) rfl (fun ls hl => ?_)
          refine lv_goto (tgt := 69) hx hb dX11_strikeAll_148 (by decide) ?_
          exact ih _ _ _ _ _ H locs ls _ _ _ hW (lv_sub hl [3, 4, 5, 6, 0] rfl) h k1
        · have h := ite_f c19 h
          refine lv_iload hx hb dX11_strikeAll_108 (lv_at hl 0 rfl) ?_
          refine lv_aload_n hx hb dX11_strikeAll_110 rfl (lv_at hl 2 rfl) ?_
          refine fg_X11_40 (v := .ref (a_o 11)) hx hb hts hown hK hW 0 rfl rfl dX11_strikeAll_111 ?_
          refine lv_iload hx hb dX11_strikeAll_114 (lv_at hl 1 rfl) ?_
          obtain ⟨g21, h⟩ := grd_s h
          refine g_iald hx hb hK hW 11 rfl g21 dX11_strikeAll_116 ?_
          refine lv_icmp_eq (tgt := 145) hx hb dX11_strikeAll_117 (by decide) (fun c22 => ?_) (fun c22 => ?_)
          · have h := ite_t c22 h
            obtain ⟨w4_23, ew4_23⟩ : ∃ y : Int32, y = v4_69 + 1 := ⟨_, rfl⟩
            have h := lb_at ew4_23 h
            refine lv_iinc (v := w4_23) (lv' := [(4, .int w4_23), (6, .int r17), (5, .int w5_15), (0, .ref (a_o 0)), (1, .int v1_69), (2, .int v2_69), (3, .int v3_69)]) hx hb dX11_strikeAll_145 hl (k := 6) rfl (by rw [ew4_23]; rfl) (by decide) rfl (fun ls hl => ?_)
            refine lv_goto (tgt := 69) hx hb dX11_strikeAll_148 (by decide) ?_
            exact ih _ _ _ _ _ H locs ls _ _ _ hW (lv_sub hl [3, 4, 5, 6, 0] rfl) h k1
          · have h := ite_f c22 h
            refine lv_aload_n hx hb dX11_strikeAll_120 rfl (lv_at hl 2 rfl) ?_
            refine lv_iload_n hx hb dX11_strikeAll_121 rfl (lv_at hl 3 rfl) ?_
            refine lv_iload_n hx hb dX11_strikeAll_122 rfl (lv_at hl 5 rfl) ?_
            refine lv_iload hx hb dX11_strikeAll_123 (lv_at hl 6 rfl) ?_
            obtain ⟨r24, q25, h⟩ := bnd1_s h
            refine cl_X11_244 hx hb hml hown hts hK hN hW (c_X11_holds l D T A a_o (Z) x_o_69 v1_69 v3_69 v4_69 r24 q25) ⟨Nat.le_of_ble_eq_true rfl, Nat.le_of_ble_eq_true rfl⟩ hl.1 rfl (Nat.le_of_ble_eq_true rfl) dX11_strikeAll_125 ⟨Nat.zero_le _, Nat.zero_le _⟩ rfl (fun H locs hW => ?_)
            refine lv_if_eq (tgt := 145) hx hb dX11_strikeAll_128 (by decide) (fun c26 => ?_) (fun c26 => ?_)
            · have h := ite_t c26 h
              obtain ⟨w4_27, ew4_27⟩ : ∃ y : Int32, y = v4_69 + 1 := ⟨_, rfl⟩
              have h := lb_at ew4_27 h
              refine lv_iinc (v := w4_27) (lv' := [(4, .int w4_27), (6, .int r17), (5, .int w5_15), (0, .ref (a_o 0)), (1, .int v1_69), (2, .int v2_69), (3, .int v3_69)]) hx hb dX11_strikeAll_145 hl (k := 6) rfl (by rw [ew4_27]; rfl) (by decide) rfl (fun ls hl => ?_)
              refine lv_goto (tgt := 69) hx hb dX11_strikeAll_148 (by decide) ?_
              exact ih _ _ _ _ _ H locs ls _ _ _ hW (lv_sub hl [3, 4, 5, 6, 0] rfl) h k1
            · have h := ite_f c26 h
              refine lv_aload_n hx hb dX11_strikeAll_131 rfl (lv_at hl 2 rfl) ?_
              refine fg_X11_40 (v := .ref (a_o 11)) hx hb hts hown hK hW 0 rfl rfl dX11_strikeAll_132 ?_
              refine lv_iload hx hb dX11_strikeAll_135 (lv_at hl 1 rfl) ?_
              refine lv_dup2_11 hx hb dX11_strikeAll_137 rfl rfl ?_
              obtain ⟨g28, h⟩ := grd_s h
              refine g_iald hx hb hK hW 11 rfl g28 dX11_strikeAll_138 ?_
              refine lv_iload hx hb dX11_strikeAll_139 (lv_at hl 0 rfl) ?_
              refine lv_isub hx hb dX11_strikeAll_141 ?_
              obtain ⟨g29, h⟩ := grd_s h
              refine g_iast (ws9 := oc_X11 T a_o (upo x_o_69 11 w5_15.toNatClampNeg ((x_o_69 11 w5_15.toNatClampNeg) - r17)) ++ Z) hx hb hK hW 11 rfl g29 sa_X11_11 dX11_strikeAll_142 (fun H locs hW => ?_)
              obtain ⟨x_o30, ex_o30⟩ : ∃ y : Ob, y = upo x_o_69 11 w5_15.toNatClampNeg ((x_o_69 11 w5_15.toNatClampNeg) - r17) := ⟨_, rfl⟩
              rw [← ex_o30] at hW
              have h := lb_at ex_o30 h
              refine lv_iconst (v := 1) hx hb dX11_strikeAll_143 (by decide) ?_
              refine lv_istore_n (lv' := [(2, .int 1), (6, .int r17), (5, .int w5_15), (0, .ref (a_o 0)), (1, .int v1_69), (3, .int v3_69), (4, .int v4_69)]) hx hb dX11_strikeAll_144 rfl hl (by decide) rfl (fun ls hl => ?_)
              obtain ⟨w4_31, ew4_31⟩ : ∃ y : Int32, y = v4_69 + 1 := ⟨_, rfl⟩
              have h := lb_at ew4_31 h
              refine lv_iinc (v := w4_31) (lv' := [(4, .int w4_31), (2, .int 1), (6, .int r17), (5, .int w5_15), (0, .ref (a_o 0)), (1, .int v1_69), (3, .int v3_69)]) hx hb dX11_strikeAll_145 hl (k := 6) rfl (by rw [ew4_31]; rfl) (by decide) rfl (fun ls hl => ?_)
              refine lv_goto (tgt := 69) hx hb dX11_strikeAll_148 (by decide) ?_
              exact ih _ _ _ _ _ H locs ls _ _ _ hW (lv_sub hl [4, 5, 1, 6, 0] rfl) h k1
  have L58 : ∀ (n : Nat) (x_o_58 : Ob) (v1_58 : Int32) (v2_58 : Int32) (v3_58 : Int32) (H : Heap) (locs : List Loc) (ls : Array Slot) (o2_58r : Int32) (o3_58r : Int32) (y_o_58r : Ob), Wd D A s.heap (oc_X11 T a_o x_o_58 ++ Z) H locs → lv_has ls 7 [(0, .ref (a_o 0)), (1, .int v1_58), (2, .int v2_58), (3, .int v3_58)] → f_X11_strikeAll_L58 n x_o_58 v1_58 v2_58 v3_58 = some (o2_58r, o3_58r, y_o_58r) → (∀ (H : Heap) (locs : List Loc) (ls : Array Slot), Wd D A s.heap (oc_X11 T a_o y_o_58r ++ Z) H locs → lv_has ls 7 [(0, .ref (a_o 0)), (1, .int v1_58), (2, .int o2_58r)] → W p l e (rmd 3) s m args below meth c H locs 0 0 Q (F0 m 157 ls [])) → W p l e (rmd 3) s m args below meth c H locs 0 0 Q (F0 m 58 ls []) := by
    intro n
    induction n with
    | zero =>
      intro x_o_58 v1_58 v2_58 v3_58 H locs ls o2_58r o3_58r y_o_58r hW hl h k1
      rw [f_X11_strikeAll_L58] at h
      cases h
    | succ n ih =>
      intro x_o_58 v1_58 v2_58 v3_58 H locs ls o2_58r o3_58r y_o_58r hW hl h k1
      rw [f_X11_strikeAll_L58] at h
      refine lv_iload_n hx hb dX11_strikeAll_58 rfl (lv_at hl 3 rfl) ?_
      refine lv_aload_n hx hb dX11_strikeAll_59 rfl (lv_at hl 0 rfl) ?_
      refine fg_X11_230 (v := .int (x_o_58 15 0)) hx hb hts hown hK hW 0 rfl rfl dX11_strikeAll_60 ?_
      refine lv_icmp_ge (tgt := 157) hx hb dX11_strikeAll_63 (by decide) (fun c12 => ?_) (fun c12 => ?_)
      · have h := ite_t c12 h
        obtain ⟨rfl, rfl, rfl⟩ := ret3 h
        exact k1 H locs ls hW (lv_sub hl [0, 1, 2] rfl)
      · have h := ite_f c12 h
        refine lv_iconst (v := 0) hx hb dX11_strikeAll_66 (by decide) ?_
        refine lv_istore (lv' := [(4, .int 0), (0, .ref (a_o 0)), (1, .int v1_58), (2, .int v2_58), (3, .int v3_58)]) hx hb dX11_strikeAll_67 hl (by decide) rfl (fun ls hl => ?_)
        obtain ⟨o2_u32, o4_u32, y_o_u32, q33, h⟩ := bnd3_s h
        refine L69 200 _ _ _ _ _ H locs ls o2_u32 o4_u32 y_o_u32 hW (lv_sub hl [1, 2, 3, 4, 0] rfl) q33 (fun H locs ls hW hl => ?_)
        obtain ⟨w3_34, ew3_34⟩ : ∃ y : Int32, y = v3_58 + 1 := ⟨_, rfl⟩
        have h := lb_at ew3_34 h
        refine lv_iinc (v := w3_34) (lv' := [(3, .int w3_34), (0, .ref (a_o 0)), (1, .int v1_58), (2, .int o2_u32)]) hx hb dX11_strikeAll_151 hl (k := 3) rfl (by rw [ew3_34]; rfl) (by decide) rfl (fun ls hl => ?_)
        refine lv_goto (tgt := 58) hx hb dX11_strikeAll_154 (by decide) ?_
        exact ih _ _ _ _ H locs ls _ _ _ hW (lv_sub hl [1, 2, 3, 0] rfl) h k1
  have L50 : ∀ (n : Nat) (x_o_50 : Ob) (v1_50 : Int32) (v2_50 : Int32) (H : Heap) (locs : List Loc) (ls : Array Slot) (o2_50r : Int32) (y_o_50r : Ob), Wd D A s.heap (oc_X11 T a_o x_o_50 ++ Z) H locs → lv_has ls 7 [(0, .ref (a_o 0)), (1, .int v1_50), (2, .int v2_50)] → f_X11_strikeAll_L50 n x_o_50 v1_50 v2_50 = some (o2_50r, y_o_50r) → (∀ (H : Heap) (locs : List Loc) (ls : Array Slot), Wd D A s.heap (oc_X11 T a_o y_o_50r ++ Z) H locs → lv_has ls 7 [] → W p l e (rmd 3) s m args below meth c H locs 0 0 Q (F0 m 160 ls [])) → W p l e (rmd 3) s m args below meth c H locs 0 0 Q (F0 m 50 ls []) := by
    intro n
    induction n with
    | zero =>
      intro x_o_50 v1_50 v2_50 H locs ls o2_50r y_o_50r hW hl h k1
      rw [f_X11_strikeAll_L50] at h
      cases h
    | succ n ih =>
      intro x_o_50 v1_50 v2_50 H locs ls o2_50r y_o_50r hW hl h k1
      rw [f_X11_strikeAll_L50] at h
      refine lv_iload_n hx hb dX11_strikeAll_50 rfl (lv_at hl 2 rfl) ?_
      refine lv_if_eq (tgt := 160) hx hb dX11_strikeAll_51 (by decide) (fun c11 => ?_) (fun c11 => ?_)
      · have h := ite_t c11 h
        obtain ⟨rfl, rfl⟩ := ret2 h
        exact k1 H locs ls hW (lv_sub hl [] rfl)
      · have h := ite_f c11 h
        refine lv_iconst (v := 0) hx hb dX11_strikeAll_54 (by decide) ?_
        refine lv_istore_n (lv' := [(2, .int 0), (0, .ref (a_o 0)), (1, .int v1_50)]) hx hb dX11_strikeAll_55 rfl hl (by decide) rfl (fun ls hl => ?_)
        refine lv_iconst (v := 0) hx hb dX11_strikeAll_56 (by decide) ?_
        refine lv_istore_n (lv' := [(3, .int 0), (2, .int 0), (0, .ref (a_o 0)), (1, .int v1_50)]) hx hb dX11_strikeAll_57 rfl hl (by decide) rfl (fun ls hl => ?_)
        obtain ⟨o2_u35, o3_u35, y_o_u35, q36, h⟩ := bnd3_s h
        refine L58 200 _ _ _ _ H locs ls o2_u35 o3_u35 y_o_u35 hW (lv_sub hl [2, 3, 1, 0] rfl) q36 (fun H locs ls hW hl => ?_)
        refine lv_goto (tgt := 50) hx hb dX11_strikeAll_157 (by decide) ?_
        exact ih _ _ _ H locs ls _ _ hW (lv_sub hl [0, 1, 2] rfl) h k1
  rw [f_X11_strikeAll] at h
  suffices hm : ∀ (H : Heap) (locs : List Loc), Wd D A s.heap (oc_X11 T a_o x_o ++ Z) H locs → W p l e (rmd 3) s m args below meth c H locs 0 0 Q (F0 m 0 ls []) from hm _ _ hW
  intro H locs hW
  refine lv_iconst (v := 0) hx hb dX11_strikeAll_0 (by decide) ?_
  refine lv_istore_n (lv' := [(2, .int 0), (0, .ref (a_o 0)), (1, .int p1)]) hx hb dX11_strikeAll_1 rfl hl (by decide) rfl (fun ls hl => ?_)
  obtain ⟨o2_u9, y_o_u9, q10, h⟩ := bnd2_s h
  refine L2 200 _ _ _ H locs ls o2_u9 y_o_u9 hW (lv_sub hl [1, 2, 0] rfl) q10 (fun H locs ls hW hl => ?_)
  refine lv_iconst (v := 1) hx hb dX11_strikeAll_48 (by decide) ?_
  refine lv_istore_n (lv' := [(2, .int 1), (0, .ref (a_o 0)), (1, .int p1)]) hx hb dX11_strikeAll_49 rfl hl (by decide) rfl (fun ls hl => ?_)
  obtain ⟨o2_u37, y_o_u37, q38, h⟩ := bnd2_s h
  refine L50 200 _ _ _ H locs ls o2_u37 y_o_u37 hW (lv_sub hl [1, 2, 0] rfl) q38 (fun H locs ls hW hl => ?_)
  obtain rfl := ret1 h
  rw [hQ]
  exact g_retv hx hb hr hlk hW dX11_strikeAll_160
set_option maxHeartbeats 4000000 in
set_option maxRecDepth 100000 in
theorem c_X11_nounAt (l : Launch) (D : va_G) (T : Nat → ClassId) (A : Nat → Prop) (a_o : Nat → Nat) (Z : va_W)  (x_o : Ob) (p1 : Int32) (p2 : Int32) (p3 : Int32) (r : Int32) (h : f_X11_nounAt x_o p1 p2 p3 = some r) : Met l yX11_nounAt (Cond.code yX11_nounAt cX11_nounAt 7 (some .int) :: wsL_law) (rmd 1) (Pg D T A (oc_X11 T a_o x_o ++ Z) [.ref (a_o 0), .int p1, .int p2, .int p3]) (Qgi D A (oc_X11 T a_o x_o ++ Z) r) 0 0 A := by
  refine Met.ofW (cc := cX11_nounAt) (maxL := 7) (ret := (some .int)) (by decide +kernel) rfl ?_
  intro p e s m args below meth c s₁ B hml hv
  obtain ⟨ha, hP, hK, hD, hN⟩ := hv
  have hx := B.exec
  have hb := B.bytes
  have hr := B.returns
  have hlk := B.notSynchronized
  have hts : ∀ w ∈ wsL_law, w.before args s = true := fun w hw => atoms_spec B.pre w (List.mem_cons_of_mem _ hw)
  have hown : s.vm.findClass RX11 = some m.cls := findClass_of_methodNamed B.named
  have hW : Wd D A s.heap (oc_X11 T a_o x_o ++ Z) s.heap [] := ⟨hP, hD, va_S.rf⟩
  have hl := lv_entry [.ref (a_o 0), .int p1, .int p2, .int p3] (n := 7) (Nat.le_of_ble_eq_true rfl)
  refine W.eq (en_eq ha) ?_
  generalize (lg_sl [.ref (a_o 0), .int p1, .int p2, .int p3] ++ List.replicate (7 - (lg_sl [.ref (a_o 0), .int p1, .int p2, .int p3]).length) Slot.unset).toArray = ls at hl ⊢
  have hl : lv_has ls 7 [(0, .ref (a_o 0)), (1, .int p1), (2, .int p2), (3, .int p3)] := hl
  clear hP hD B ha
  obtain ⟨Q, hQ⟩ : ∃ Q, Q = MQ below (Qgi D A (oc_X11 T a_o x_o ++ Z) r) args s 0 0 A := ⟨_, rfl⟩
  rw [← hQ]
  change W p l e (rmd 1) s m args below meth c s.heap [] 0 0 Q (F0 m 0 ls [])
  have J93 : ∀ (v1_93 : Int32) (v2_93 : Int32) (v3_93 : Int32) (v4_93 : Int32) (v6_93 : Int32) (H : Heap) (locs : List Loc) (ls : Array Slot) (code : Nat) (o4j : Int32), Wd D A s.heap (oc_X11 T a_o x_o ++ Z) H locs → lv_has ls 7 [(0, .ref (a_o 0)), (1, .int v1_93), (2, .int v2_93), (3, .int v3_93), (4, .int v4_93), (6, .int v6_93)] → f_X11_nounAt_J93 x_o v1_93 v2_93 v3_93 v4_93 v6_93 = some (code, o4j) → (code = 0 → ∀ (H : Heap) (locs : List Loc) (ls : Array Slot), Wd D A s.heap (oc_X11 T a_o x_o ++ Z) H locs → lv_has ls 7 [(0, .ref (a_o 0)), (1, .int v1_93), (2, .int v2_93), (3, .int v3_93), (4, .int o4j)] → W p l e (rmd 1) s m args below meth c H locs 0 0 Q (F0 m 3 ls [])) → (code = 1 → ∀ (H : Heap) (locs : List Loc) (ls : Array Slot), Wd D A s.heap (oc_X11 T a_o x_o ++ Z) H locs → lv_has ls 7 [] → W p l e (rmd 1) s m args below meth c H locs 0 0 Q (F0 m 117 ls [])) → (code = 2 → ∀ (H : Heap) (locs : List Loc) (ls : Array Slot), Wd D A s.heap (oc_X11 T a_o x_o ++ Z) H locs → lv_has ls 7 [(4, .int o4j)] → W p l e (rmd 1) s m args below meth c H locs 0 0 Q (F0 m 108 ls [])) → W p l e (rmd 1) s m args below meth c H locs 0 0 Q (F0 m 93 ls []) := by
    intro v1_93 v2_93 v3_93 v4_93 v6_93 H locs ls code o4j hW hl h k0 k1 k2
    rw [f_X11_nounAt_J93] at h
    refine lv_iload hx hb dX11_nounAt_93 (lv_at hl 5 rfl) ?_
    refine lv_iload_n hx hb dX11_nounAt_95 rfl (lv_at hl 3 rfl) ?_
    refine lv_icmp_eq (tgt := 108) hx hb dX11_nounAt_96 (by decide) (fun c20 => ?_) (fun c20 => ?_)
    · have h := ite_t c20 h
      obtain ⟨rfl, rfl⟩ := ret2 h
      exact k2 rfl H locs ls hW (lv_sub hl [4] rfl)
    · have h := ite_f c20 h
      refine lv_iload hx hb dX11_nounAt_99 (lv_at hl 5 rfl) ?_
      refine lv_if_eq (tgt := 108) hx hb dX11_nounAt_101 (by decide) (fun c21 => ?_) (fun c21 => ?_)
      · have h := ite_t c21 h
        obtain ⟨rfl, rfl⟩ := ret2 h
        exact k2 rfl H locs ls hW (lv_sub hl [4] rfl)
      · have h := ite_f c21 h
        refine lv_iload_n hx hb dX11_nounAt_104 rfl (lv_at hl 3 rfl) ?_
        refine lv_if_ne (tgt := 111) hx hb dX11_nounAt_105 (by decide) (fun c22 => ?_) (fun c22 => ?_)
        · have h := ite_f c22 h
          obtain ⟨w4_23, ew4_23⟩ : ∃ y : Int32, y = v4_93 + 1 := ⟨_, rfl⟩
          have h := lb_at ew4_23 h
          refine lv_iinc (v := w4_23) (lv' := [(4, .int w4_23), (0, .ref (a_o 0)), (1, .int v1_93), (2, .int v2_93), (3, .int v3_93), (6, .int v6_93)]) hx hb dX11_nounAt_111 hl (k := 4) rfl (by rw [ew4_23]; rfl) (by decide) rfl (fun ls hl => ?_)
          refine lv_goto (tgt := 3) hx hb dX11_nounAt_114 (by decide) ?_
          obtain ⟨rfl, rfl⟩ := ret2 h
          exact k0 rfl H locs ls hW (lv_sub hl [1, 2, 3, 4, 0] rfl)
        · have h := ite_t c22 h
          obtain ⟨rfl, rfl⟩ := ret2 h
          exact k2 rfl H locs ls hW (lv_sub hl [4] rfl)
  have L3 : ∀ (n : Nat) (v1_3 : Int32) (v2_3 : Int32) (v3_3 : Int32) (v4_3 : Int32) (H : Heap) (locs : List Loc) (ls : Array Slot) (code : Nat) (o4_3r : Int32), Wd D A s.heap (oc_X11 T a_o x_o ++ Z) H locs → lv_has ls 7 [(0, .ref (a_o 0)), (1, .int v1_3), (2, .int v2_3), (3, .int v3_3), (4, .int v4_3)] → f_X11_nounAt_L3 n x_o v1_3 v2_3 v3_3 v4_3 = some (code, o4_3r) → (code = 1 → ∀ (H : Heap) (locs : List Loc) (ls : Array Slot), Wd D A s.heap (oc_X11 T a_o x_o ++ Z) H locs → lv_has ls 7 [] → W p l e (rmd 1) s m args below meth c H locs 0 0 Q (F0 m 117 ls [])) → (code = 2 → ∀ (H : Heap) (locs : List Loc) (ls : Array Slot), Wd D A s.heap (oc_X11 T a_o x_o ++ Z) H locs → lv_has ls 7 [(4, .int o4_3r)] → W p l e (rmd 1) s m args below meth c H locs 0 0 Q (F0 m 108 ls [])) → W p l e (rmd 1) s m args below meth c H locs 0 0 Q (F0 m 3 ls []) := by
    intro n
    induction n with
    | zero =>
      intro v1_3 v2_3 v3_3 v4_3 H locs ls code o4_3r hW hl h k1 k2
      rw [f_X11_nounAt_L3] at h
      cases h
    | succ n ih =>
      intro v1_3 v2_3 v3_3 v4_3 H locs ls code o4_3r hW hl h k1 k2
      rw [f_X11_nounAt_L3] at h
      refine lv_iload hx hb dX11_nounAt_3 (lv_at hl 4 rfl) ?_
      refine lv_aload_n hx hb dX11_nounAt_5 rfl (lv_at hl 0 rfl) ?_
      refine lv_aload_n hx hb dX11_nounAt_6 rfl (lv_at hl 0 rfl) ?_
      refine fg_X11_37 (v := .ref (a_o 10)) hx hb hts hown hK hW 0 rfl rfl dX11_nounAt_7 ?_
      refine lv_iload_n hx hb dX11_nounAt_10 rfl (lv_at hl 1 rfl) ?_
      obtain ⟨g1, h⟩ := grd_s h
      refine g_iald hx hb hK hW 10 rfl g1 dX11_nounAt_11 ?_
      obtain ⟨r2, q3, h⟩ := bnd1_s h
      refine cl_X11_226 hx hb hml hown hts hK hN hW (c_X11_countOf l D T A a_o (Z) x_o (x_o 10 v1_3.toNatClampNeg) r2 q3) ⟨Nat.le_of_ble_eq_true rfl, Nat.le_of_ble_eq_true rfl⟩ hl.1 rfl (Nat.le_of_ble_eq_true rfl) dX11_nounAt_12 ⟨Nat.zero_le _, Nat.zero_le _⟩ rfl (fun H locs hW => ?_)
      refine lv_icmp_ge (tgt := 117) hx hb dX11_nounAt_15 (by decide) (fun c4 => ?_) (fun c4 => ?_)
      · have h := ite_t c4 h
        obtain ⟨rfl, rfl⟩ := ret2 h
        exact k1 rfl H locs ls hW (lv_sub hl [] rfl)
      · have h := ite_f c4 h
        refine lv_aload_n hx hb dX11_nounAt_18 rfl (lv_at hl 0 rfl) ?_
        refine fg_X11_40 (v := .ref (a_o 11)) hx hb hts hown hK hW 0 rfl rfl dX11_nounAt_19 ?_
        refine lv_iload_n hx hb dX11_nounAt_22 rfl (lv_at hl 1 rfl) ?_
        obtain ⟨g5, h⟩ := grd_s h
        refine g_iald hx hb hK hW 11 rfl g5 dX11_nounAt_23 ?_
        refine lv_iload hx hb dX11_nounAt_24 (lv_at hl 4 rfl) ?_
        refine lv_ishr hx hb dX11_nounAt_26 ?_
        refine lv_iconst (v := 1) hx hb dX11_nounAt_27 (by decide) ?_
        refine lv_iand hx hb dX11_nounAt_28 ?_
        refine lv_iconst (v := 1) hx hb dX11_nounAt_29 (by decide) ?_
        refine lv_icmp_ne (tgt := 111) hx hb dX11_nounAt_30 (by decide) (fun c6 => ?_) (fun c6 => ?_)
        · have h := ite_f c6 h
          obtain ⟨w4_7, ew4_7⟩ : ∃ y : Int32, y = v4_3 + 1 := ⟨_, rfl⟩
          have h := lb_at ew4_7 h
          refine lv_iinc (v := w4_7) (lv' := [(4, .int w4_7), (0, .ref (a_o 0)), (1, .int v1_3), (2, .int v2_3), (3, .int v3_3)]) hx hb dX11_nounAt_111 hl (k := 4) rfl (by rw [ew4_7]; rfl) (by decide) rfl (fun ls hl => ?_)
          refine lv_goto (tgt := 3) hx hb dX11_nounAt_114 (by decide) ?_
          exact ih _ _ _ _ H locs ls _ _ hW (lv_sub hl [1, 2, 3, 4, 0] rfl) h k1 k2
        · have h := ite_t c6 h
          refine lv_aload_n hx hb dX11_nounAt_33 rfl (lv_at hl 0 rfl) ?_
          refine lv_aload_n hx hb dX11_nounAt_34 rfl (lv_at hl 0 rfl) ?_
          refine fg_X11_37 (v := .ref (a_o 10)) hx hb hts hown hK hW 0 rfl rfl dX11_nounAt_35 ?_
          refine lv_iload_n hx hb dX11_nounAt_38 rfl (lv_at hl 1 rfl) ?_
          obtain ⟨g8, h⟩ := grd_s h
          refine g_iald hx hb hK hW 10 rfl g8 dX11_nounAt_39 ?_
          refine lv_iload hx hb dX11_nounAt_40 (lv_at hl 4 rfl) ?_
          obtain ⟨r9, q10, h⟩ := bnd1_s h
          refine cl_X11_237 hx hb hml hown hts hK hN hW (c_X11_categoryOf l D T A a_o (Z) x_o (x_o 10 v1_3.toNatClampNeg) v4_3 r9 q10) ⟨Nat.le_of_ble_eq_true rfl, Nat.le_of_ble_eq_true rfl⟩ hl.1 rfl (Nat.le_of_ble_eq_true rfl) dX11_nounAt_42 ⟨Nat.zero_le _, Nat.zero_le _⟩ rfl (fun H locs hW => ?_)
          refine lv_if_ne (tgt := 111) hx hb dX11_nounAt_45 (by decide) (fun c11 => ?_) (fun c11 => ?_)
          · have h := ite_f c11 h
            obtain ⟨w4_12, ew4_12⟩ : ∃ y : Int32, y = v4_3 + 1 := ⟨_, rfl⟩
            have h := lb_at ew4_12 h
            refine lv_iinc (v := w4_12) (lv' := [(4, .int w4_12), (0, .ref (a_o 0)), (1, .int v1_3), (2, .int v2_3), (3, .int v3_3)]) hx hb dX11_nounAt_111 hl (k := 4) rfl (by rw [ew4_12]; rfl) (by decide) rfl (fun ls hl => ?_)
            refine lv_goto (tgt := 3) hx hb dX11_nounAt_114 (by decide) ?_
            exact ih _ _ _ _ H locs ls _ _ hW (lv_sub hl [1, 2, 3, 4, 0] rfl) h k1 k2
          · have h := ite_t c11 h
            refine lv_aload_n hx hb dX11_nounAt_48 rfl (lv_at hl 0 rfl) ?_
            refine lv_aload_n hx hb dX11_nounAt_49 rfl (lv_at hl 0 rfl) ?_
            refine fg_X11_37 (v := .ref (a_o 10)) hx hb hts hown hK hW 0 rfl rfl dX11_nounAt_50 ?_
            refine lv_iload_n hx hb dX11_nounAt_53 rfl (lv_at hl 1 rfl) ?_
            obtain ⟨g13, h⟩ := grd_s h
            refine g_iald hx hb hK hW 10 rfl g13 dX11_nounAt_54 ?_
            refine lv_iload hx hb dX11_nounAt_55 (lv_at hl 4 rfl) ?_
            refine lv_iconst (v := 0) hx hb dX11_nounAt_57 (by decide) ?_
            obtain ⟨r14, q15, h⟩ := bnd1_s h
            refine cl_X11_247 hx hb hml hown hts hK hN hW (c_X11_featureOf l D T A a_o (Z) x_o (x_o 10 v1_3.toNatClampNeg) v4_3 0 r14 q15) ⟨Nat.le_of_ble_eq_true rfl, Nat.le_of_ble_eq_true rfl⟩ hl.1 rfl (Nat.le_of_ble_eq_true rfl) dX11_nounAt_58 ⟨Nat.zero_le _, Nat.zero_le _⟩ rfl (fun H locs hW => ?_)
            refine lv_istore (lv' := [(5, .int r14), (0, .ref (a_o 0)), (1, .int v1_3), (2, .int v2_3), (3, .int v3_3), (4, .int v4_3)]) hx hb dX11_nounAt_61 hl (by decide) rfl (fun ls hl => ?_)
            refine lv_aload_n hx hb dX11_nounAt_63 rfl (lv_at hl 1 rfl) ?_
            refine lv_aload_n hx hb dX11_nounAt_64 rfl (lv_at hl 1 rfl) ?_
            refine fg_X11_37 (v := .ref (a_o 10)) hx hb hts hown hK hW 0 rfl rfl dX11_nounAt_65 ?_
            refine lv_iload_n hx hb dX11_nounAt_68 rfl (lv_at hl 2 rfl) ?_
            obtain ⟨g16, h⟩ := grd_s h
            refine g_iald hx hb hK hW 10 rfl g16 dX11_nounAt_69 ?_
            refine lv_iload hx hb dX11_nounAt_70 (lv_at hl 5 rfl) ?_
            refine lv_iconst (v := 1) hx hb dX11_nounAt_72 (by decide) ?_
            obtain ⟨r17, q18, h⟩ := bnd1_s h
            refine cl_X11_247 hx hb hml hown hts hK hN hW (c_X11_featureOf l D T A a_o (Z) x_o (x_o 10 v1_3.toNatClampNeg) v4_3 1 r17 q18) ⟨Nat.le_of_ble_eq_true rfl, Nat.le_of_ble_eq_true rfl⟩ hl.1 rfl (Nat.le_of_ble_eq_true rfl) dX11_nounAt_73 ⟨Nat.zero_le _, Nat.zero_le _⟩ rfl (fun H locs hW => ?_)
            refine lv_istore (lv' := [(6, .int r17), (5, .int r14), (0, .ref (a_o 0)), (1, .int v1_3), (2, .int v2_3), (3, .int v3_3), (4, .int v4_3)]) hx hb dX11_nounAt_76 hl (by decide) rfl (fun ls hl => ?_)
            refine lv_iload hx hb dX11_nounAt_78 (lv_at hl 1 rfl) ?_
            refine lv_iload_n hx hb dX11_nounAt_80 rfl (lv_at hl 4 rfl) ?_
            refine lv_icmp_eq (tgt := 93) hx hb dX11_nounAt_81 (by decide) (fun c19 => ?_) (fun c19 => ?_)
            · have h := ite_t c19 h
              obtain ⟨code25, o4_t24, q26, h⟩ := bnd2_s h
              refine J93 _ _ _ _ _ H locs ls code25 o4_t24 hW (lv_sub hl [2, 3, 4, 5, 6, 0] rfl) q26 (fun hc H locs ls hW hl => ?_) (fun hc H locs ls hW hl => ?_) (fun hc H locs ls hW hl => ?_)
              · have h := ite_t hc h
                exact ih _ _ _ _ H locs ls _ _ hW (lv_sub hl [0, 1, 2, 3, 4] rfl) h k1 k2
              · have h := ite_f (by rw [hc]; decide) h
                obtain ⟨rfl, rfl⟩ := ret2 h
                exact k1 hc H locs ls hW hl
              · have h := ite_f (by rw [hc]; decide) h
                obtain ⟨rfl, rfl⟩ := ret2 h
                exact k2 hc H locs ls hW hl
            · have h := ite_f c19 h
              refine lv_iload hx hb dX11_nounAt_84 (lv_at hl 1 rfl) ?_
              refine lv_if_eq (tgt := 93) hx hb dX11_nounAt_86 (by decide) (fun c27 => ?_) (fun c27 => ?_)
              · have h := ite_t c27 h
                obtain ⟨code29, o4_t28, q30, h⟩ := bnd2_s h
                refine J93 _ _ _ _ _ H locs ls code29 o4_t28 hW (lv_sub hl [2, 3, 4, 5, 6, 0] rfl) q30 (fun hc H locs ls hW hl => ?_) (fun hc H locs ls hW hl => ?_) (fun hc H locs ls hW hl => ?_)
                · have h := ite_t hc h
                  exact ih _ _ _ _ H locs ls _ _ hW (lv_sub hl [0, 1, 2, 3, 4] rfl) h k1 k2
                · have h := ite_f (by rw [hc]; decide) h
                  obtain ⟨rfl, rfl⟩ := ret2 h
                  exact k1 hc H locs ls hW hl
                · have h := ite_f (by rw [hc]; decide) h
                  obtain ⟨rfl, rfl⟩ := ret2 h
                  exact k2 hc H locs ls hW hl
              · have h := ite_f c27 h
                refine lv_iload_n hx hb dX11_nounAt_89 rfl (lv_at hl 4 rfl) ?_
                refine lv_if_ne (tgt := 111) hx hb dX11_nounAt_90 (by decide) (fun c31 => ?_) (fun c31 => ?_)
                · have h := ite_f c31 h
                  obtain ⟨w4_32, ew4_32⟩ : ∃ y : Int32, y = v4_3 + 1 := ⟨_, rfl⟩
                  have h := lb_at ew4_32 h
                  refine lv_iinc (v := w4_32) (lv' := [(4, .int w4_32), (6, .int r17), (5, .int r14), (0, .ref (a_o 0)), (1, .int v1_3), (2, .int v2_3), (3, .int v3_3)]) hx hb dX11_nounAt_111 hl (k := 6) rfl (by rw [ew4_32]; rfl) (by decide) rfl (fun ls hl => ?_)
                  refine lv_goto (tgt := 3) hx hb dX11_nounAt_114 (by decide) ?_
                  exact ih _ _ _ _ H locs ls _ _ hW (lv_sub hl [3, 4, 5, 6, 0] rfl) h k1 k2
                · have h := ite_t c31 h
                  obtain ⟨code34, o4_t33, q35, h⟩ := bnd2_s h
                  refine J93 _ _ _ _ _ H locs ls code34 o4_t33 hW (lv_sub hl [2, 3, 4, 5, 6, 0] rfl) q35 (fun hc H locs ls hW hl => ?_) (fun hc H locs ls hW hl => ?_) (fun hc H locs ls hW hl => ?_)
                  · have h := ite_t hc h
                    exact ih _ _ _ _ H locs ls _ _ hW (lv_sub hl [0, 1, 2, 3, 4] rfl) h k1 k2
                  · have h := ite_f (by rw [hc]; decide) h
                    obtain ⟨rfl, rfl⟩ := ret2 h
                    exact k1 hc H locs ls hW hl
                  · have h := ite_f (by rw [hc]; decide) h
                    obtain ⟨rfl, rfl⟩ := ret2 h
                    exact k2 hc H locs ls hW hl
  rw [f_X11_nounAt] at h
  suffices hm : ∀ (H : Heap) (locs : List Loc), Wd D A s.heap (oc_X11 T a_o x_o ++ Z) H locs → W p l e (rmd 1) s m args below meth c H locs 0 0 Q (F0 m 0 ls []) from hm _ _ hW
  intro H locs hW
  refine lv_iconst (v := 0) hx hb dX11_nounAt_0 (by decide) ?_
  refine lv_istore (lv' := [(4, .int 0), (0, .ref (a_o 0)), (1, .int p1), (2, .int p2), (3, .int p3)]) hx hb dX11_nounAt_1 hl (by decide) rfl (fun ls hl => ?_)
  obtain ⟨code37, o4_u36, q38, h⟩ := bnd2_s h
  refine L3 200 _ _ _ _ H locs ls code37 o4_u36 hW (lv_sub hl [1, 2, 3, 4, 0] rfl) q38 (fun hc H locs ls hW hl => ?_) (fun hc H locs ls hW hl => ?_)
  · have h := ite_t hc h
    refine lv_iconst (v := (-1)) hx hb dX11_nounAt_117 (by decide) ?_
    obtain rfl := ret1 h
    rw [hQ]
    exact g_reti hx hb hr hlk hW dX11_nounAt_118
  · have h := ite_f (by rw [hc]; decide) h
    refine lv_iload hx hb dX11_nounAt_108 (lv_at hl 0 rfl) ?_
    obtain rfl := ret1 h
    rw [hQ]
    exact g_reti hx hb hr hlk hW dX11_nounAt_110
