set_option maxHeartbeats 4000000 in
set_option maxRecDepth 100000 in
theorem c_X0_clear (l : Launch) (D : va_G) (T : Nat → ClassId) (A : Nat → Prop) (a_o : Nat → Nat) (Z : va_W)  (x_o : Ob) (p1 : Int32) (x_o9 : Ob) (h : f_X0_clear x_o p1 = some x_o9) : Met l yX0_clear (Cond.code yX0_clear cX0_clear 3 none :: wsL_law) (rmd 0) (Pg D T A (oc_X0 T a_o x_o ++ Z) [.ref (a_o 0), .int p1]) (Qgv D A (oc_X0 T a_o x_o9 ++ Z)) 0 0 A := by
  refine Met.ofW (cc := cX0_clear) (maxL := 3) (ret := none) (by decide +kernel) rfl ?_
  intro p e s m args below meth c s₁ B hml hv
  obtain ⟨ha, hP, hK, hD, hN⟩ := hv
  have hx := B.exec
  have hb := B.bytes
  have hr := B.returns
  have hlk := B.notSynchronized
  have hts : ∀ w ∈ wsL_law, w.before args s = true := fun w hw => atoms_spec B.pre w (List.mem_cons_of_mem _ hw)
  have hown : s.vm.findClass RX0 = some m.cls := findClass_of_methodNamed B.named
  have hW : Wd D A s.heap (oc_X0 T a_o x_o ++ Z) s.heap [] := ⟨hP, hD, va_S.rf⟩
  have hl := lv_entry [.ref (a_o 0), .int p1] (n := 3) (Nat.le_of_ble_eq_true rfl)
  refine W.eq (en_eq ha) ?_
  generalize (lg_sl [.ref (a_o 0), .int p1] ++ List.replicate (3 - (lg_sl [.ref (a_o 0), .int p1]).length) Slot.unset).toArray = ls at hl ⊢
  have hl : lv_has ls 3 [(0, .ref (a_o 0)), (1, .int p1)] := hl
  clear hP hD B ha
  obtain ⟨Q, hQ⟩ : ∃ Q, Q = MQ below (Qgv D A (oc_X0 T a_o x_o9 ++ Z)) args s 0 0 A := ⟨_, rfl⟩
  rw [← hQ]
  change W p l e (rmd 0) s m args below meth c s.heap [] 0 0 Q (F0 m 0 ls [])
  have L7 : ∀ (n : Nat) (x_o_7 : Ob) (v2_7 : Int32) (H : Heap) (locs : List Loc) (ls : Array Slot) (o2_7r : Int32) (y_o_7r : Ob), Wd D A s.heap (oc_X0 T a_o x_o_7 ++ Z) H locs → lv_has ls 3 [(0, .ref (a_o 0)), (2, .int v2_7)] → f_X0_clear_L7 n x_o_7 v2_7 = some (o2_7r, y_o_7r) → (∀ (H : Heap) (locs : List Loc) (ls : Array Slot), Wd D A s.heap (oc_X0 T a_o y_o_7r ++ Z) H locs → lv_has ls 3 [] → W p l e (rmd 0) s m args below meth c H locs 0 0 Q (F0 m 29 ls [])) → W p l e (rmd 0) s m args below meth c H locs 0 0 Q (F0 m 7 ls []) := by
    intro n
    induction n with
    | zero =>
      intro x_o_7 v2_7 H locs ls o2_7r y_o_7r hW hl h k1
      rw [f_X0_clear_L7] at h
      cases h
    | succ n ih =>
      intro x_o_7 v2_7 H locs ls o2_7r y_o_7r hW hl h k1
      rw [f_X0_clear_L7] at h
      refine lv_iload_n hx hb dX0_clear_7 rfl (lv_at hl 1 rfl) ?_
      refine lv_aload_n hx hb dX0_clear_8 rfl (lv_at hl 0 rfl) ?_
      refine fg_X0_15 (v := .ref (a_o 1)) hx hb hts hown hK hW 0 rfl rfl dX0_clear_9 ?_
      refine g_alen (v := 36) hx hb hK hW 1 0 rfl rfl rfl dX0_clear_12 ?_
      refine lv_icmp_ge (tgt := 29) hx hb dX0_clear_13 (by decide) (fun c2 => ?_) (fun c2 => ?_)
      · have h := ite_t c2 h
        obtain ⟨rfl, rfl⟩ := ret2 h
        exact k1 H locs ls hW (lv_sub hl [] rfl)
      · have h := ite_f c2 h
        refine lv_aload_n hx hb dX0_clear_16 rfl (lv_at hl 0 rfl) ?_
        refine fg_X0_15 (v := .ref (a_o 1)) hx hb hts hown hK hW 0 rfl rfl dX0_clear_17 ?_
        refine lv_iload_n hx hb dX0_clear_20 rfl (lv_at hl 1 rfl) ?_
        refine lv_iconst (v := 0) hx hb dX0_clear_21 (by decide) ?_
        obtain ⟨g3, h⟩ := grd_s h
        refine g_iast (ws9 := oc_X0 T a_o (upo x_o_7 1 v2_7.toNatClampNeg 0) ++ Z) hx hb hK hW 1 rfl g3 sa_X0_1 dX0_clear_22 (fun H locs hW => ?_)
        obtain ⟨x_o4, ex_o4⟩ : ∃ y : Ob, y = upo x_o_7 1 v2_7.toNatClampNeg 0 := ⟨_, rfl⟩
        rw [← ex_o4] at hW
        have h := lb_at ex_o4 h
        obtain ⟨w2_5, ew2_5⟩ : ∃ y : Int32, y = v2_7 + 1 := ⟨_, rfl⟩
        have h := lb_at ew2_5 h
        refine lv_iinc (v := w2_5) (lv' := [(2, .int w2_5), (0, .ref (a_o 0))]) hx hb dX0_clear_23 hl (k := 1) rfl (by rw [ew2_5]; rfl) (by decide) rfl (fun ls hl => ?_)
        refine lv_goto (tgt := 7) hx hb dX0_clear_26 (by decide) ?_
        exact ih _ _ H locs ls _ _ hW (lv_sub hl [1, 0] rfl) h k1
  rw [f_X0_clear] at h
  suffices hm : ∀ (H : Heap) (locs : List Loc), Wd D A s.heap (oc_X0 T a_o x_o ++ Z) H locs → W p l e (rmd 0) s m args below meth c H locs 0 0 Q (F0 m 0 ls []) from hm _ _ hW
  intro H locs hW
  refine lv_aload_n hx hb dX0_clear_0 rfl (lv_at hl 0 rfl) ?_
  refine lv_iload_n hx hb dX0_clear_1 rfl (lv_at hl 1 rfl) ?_
  refine fp_X0_9 (ws9 := oc_X0 T a_o (upo x_o 0 0 p1) ++ Z) hx hb hts hown hK hW 0 rfl (Nat.le_of_ble_eq_true rfl) sf_X0_0 dX0_clear_2 (fun H locs hW => ?_)
  obtain ⟨x_o1, ex_o1⟩ : ∃ y : Ob, y = upo x_o 0 0 p1 := ⟨_, rfl⟩
  rw [← ex_o1] at hW
  have h := lb_at ex_o1 h
  refine lv_iconst (v := 0) hx hb dX0_clear_5 (by decide) ?_
  refine lv_istore_n (lv' := [(2, .int 0), (0, .ref (a_o 0)), (1, .int p1)]) hx hb dX0_clear_6 rfl hl (by decide) rfl (fun ls hl => ?_)
  obtain ⟨o2_u6, y_o_u6, q7, h⟩ := bnd2_s h
  refine L7 200 _ _ H locs ls o2_u6 y_o_u6 hW (lv_sub hl [1, 0] rfl) q7 (fun H locs ls hW hl => ?_)
  obtain rfl := ret1 h
  rw [hQ]
  exact g_retv hx hb hr hlk hW dX0_clear_29
set_option maxHeartbeats 4000000 in
set_option maxRecDepth 100000 in
theorem c_X0_edgesOf (l : Launch) (D : va_G) (T : Nat → ClassId) (A : Nat → Prop) (a_o : Nat → Nat) (Z : va_W)  (x_o : Ob) (p1 : Int32) (r : Int32) (h : f_X0_edgesOf x_o p1 = some r) : Met l yX0_edgesOf (Cond.code yX0_edgesOf cX0_edgesOf 2 (some .int) :: wsL_law) (rmd 0) (Pg D T A (oc_X0 T a_o x_o ++ Z) [.ref (a_o 0), .int p1]) (Qgi D A (oc_X0 T a_o x_o ++ Z) r) 0 0 A := by
  refine Met.ofW (cc := cX0_edgesOf) (maxL := 2) (ret := (some .int)) (by decide +kernel) rfl ?_
  intro p e s m args below meth c s₁ B hml hv
  obtain ⟨ha, hP, hK, hD, hN⟩ := hv
  have hx := B.exec
  have hb := B.bytes
  have hr := B.returns
  have hlk := B.notSynchronized
  have hts : ∀ w ∈ wsL_law, w.before args s = true := fun w hw => atoms_spec B.pre w (List.mem_cons_of_mem _ hw)
  have hown : s.vm.findClass RX0 = some m.cls := findClass_of_methodNamed B.named
  have hW : Wd D A s.heap (oc_X0 T a_o x_o ++ Z) s.heap [] := ⟨hP, hD, va_S.rf⟩
  have hl := lv_entry [.ref (a_o 0), .int p1] (n := 2) (Nat.le_of_ble_eq_true rfl)
  refine W.eq (en_eq ha) ?_
  generalize (lg_sl [.ref (a_o 0), .int p1] ++ List.replicate (2 - (lg_sl [.ref (a_o 0), .int p1]).length) Slot.unset).toArray = ls at hl ⊢
  have hl : lv_has ls 2 [(0, .ref (a_o 0)), (1, .int p1)] := hl
  clear hP hD B ha
  obtain ⟨Q, hQ⟩ : ∃ Q, Q = MQ below (Qgi D A (oc_X0 T a_o x_o ++ Z) r) args s 0 0 A := ⟨_, rfl⟩
  rw [← hQ]
  change W p l e (rmd 0) s m args below meth c s.heap [] 0 0 Q (F0 m 0 ls [])
  rw [f_X0_edgesOf] at h
  suffices hm : ∀ (H : Heap) (locs : List Loc), Wd D A s.heap (oc_X0 T a_o x_o ++ Z) H locs → W p l e (rmd 0) s m args below meth c H locs 0 0 Q (F0 m 0 ls []) from hm _ _ hW
  intro H locs hW
  refine lv_iload_n hx hb dX0_edgesOf_0 rfl (lv_at hl 1 rfl) ?_
  refine lv_if_lt (tgt := 19) hx hb dX0_edgesOf_1 (by decide) (fun c1 => ?_) (fun c1 => ?_)
  · have h := ite_t c1 h
    refine lv_iconst (v := 0) hx hb dX0_edgesOf_19 (by decide) ?_
    obtain rfl := ret1 h
    rw [hQ]
    exact g_reti hx hb hr hlk hW dX0_edgesOf_20
  · have h := ite_f c1 h
    refine lv_iload_n hx hb dX0_edgesOf_4 rfl (lv_at hl 1 rfl) ?_
    refine lv_bipush (v := 36) hx hb dX0_edgesOf_5 (by decide) ?_
    refine lv_icmp_ge (tgt := 19) hx hb dX0_edgesOf_7 (by decide) (fun c2 => ?_) (fun c2 => ?_)
    · have h := ite_t c2 h
      refine lv_iconst (v := 0) hx hb dX0_edgesOf_19 (by decide) ?_
      obtain rfl := ret1 h
      rw [hQ]
      exact g_reti hx hb hr hlk hW dX0_edgesOf_20
    · have h := ite_f c2 h
      refine lv_aload_n hx hb dX0_edgesOf_10 rfl (lv_at hl 0 rfl) ?_
      refine fg_X0_15 (v := .ref (a_o 1)) hx hb hts hown hK hW 0 rfl rfl dX0_edgesOf_11 ?_
      refine lv_iload_n hx hb dX0_edgesOf_14 rfl (lv_at hl 1 rfl) ?_
      obtain ⟨g3, h⟩ := grd_s h
      refine g_iald hx hb hK hW 1 rfl g3 dX0_edgesOf_15 ?_
      refine lv_goto (tgt := 20) hx hb dX0_edgesOf_16 (by decide) ?_
      obtain rfl := ret1 h
      rw [hQ]
      exact g_reti hx hb hr hlk hW dX0_edgesOf_20
set_option maxHeartbeats 4000000 in
set_option maxRecDepth 100000 in
theorem c_X0_add (l : Launch) (D : va_G) (T : Nat → ClassId) (A : Nat → Prop) (a_o : Nat → Nat) (Z : va_W)  (x_o : Ob) (p1 : Int32) (p2 : Int32) (p3 : Int32) (p4 : Int32) (r : Int32) (x_o9 : Ob) (h : f_X0_add x_o p1 p2 p3 p4 = some (r, x_o9)) : Met l yX0_add (Cond.code yX0_add cX0_add 8 (some .int) :: wsL_law) (rmd 0) (Pg D T A (oc_X0 T a_o x_o ++ Z) [.ref (a_o 0), .int p1, .int p2, .int p3, .int p4]) (Qgi D A (oc_X0 T a_o x_o9 ++ Z) r) 0 0 A := by
  refine Met.ofW (cc := cX0_add) (maxL := 8) (ret := (some .int)) (by decide +kernel) rfl ?_
  intro p e s m args below meth c s₁ B hml hv
  obtain ⟨ha, hP, hK, hD, hN⟩ := hv
  have hx := B.exec
  have hb := B.bytes
  have hr := B.returns
  have hlk := B.notSynchronized
  have hts : ∀ w ∈ wsL_law, w.before args s = true := fun w hw => atoms_spec B.pre w (List.mem_cons_of_mem _ hw)
  have hown : s.vm.findClass RX0 = some m.cls := findClass_of_methodNamed B.named
  have hW : Wd D A s.heap (oc_X0 T a_o x_o ++ Z) s.heap [] := ⟨hP, hD, va_S.rf⟩
  have hl := lv_entry [.ref (a_o 0), .int p1, .int p2, .int p3, .int p4] (n := 8) (Nat.le_of_ble_eq_true rfl)
  refine W.eq (en_eq ha) ?_
  generalize (lg_sl [.ref (a_o 0), .int p1, .int p2, .int p3, .int p4] ++ List.replicate (8 - (lg_sl [.ref (a_o 0), .int p1, .int p2, .int p3, .int p4]).length) Slot.unset).toArray = ls at hl ⊢
  have hl : lv_has ls 8 [(0, .ref (a_o 0)), (1, .int p1), (2, .int p2), (3, .int p3), (4, .int p4)] := hl
  clear hP hD B ha
  obtain ⟨Q, hQ⟩ : ∃ Q, Q = MQ below (Qgi D A (oc_X0 T a_o x_o9 ++ Z) r) args s 0 0 A := ⟨_, rfl⟩
  rw [← hQ]
  change W p l e (rmd 0) s m args below meth c s.heap [] 0 0 Q (F0 m 0 ls [])
  have L42 : ∀ (n : Nat) (x_o_42 : Ob) (v1_42 : Int32) (v2_42 : Int32) (v3_42 : Int32) (v4_42 : Int32) (v5_42 : Int32) (v6_42 : Int32) (H : Heap) (locs : List Loc) (ls : Array Slot) (o6_42r : Int32), Wd D A s.heap (oc_X0 T a_o x_o_42 ++ Z) H locs → lv_has ls 8 [(0, .ref (a_o 0)), (1, .int v1_42), (2, .int v2_42), (3, .int v3_42), (4, .int v4_42), (5, .int v5_42), (6, .int v6_42)] → f_X0_add_L42 n x_o_42 v1_42 v2_42 v3_42 v4_42 v5_42 v6_42 = some o6_42r → (∀ (H : Heap) (locs : List Loc) (ls : Array Slot), Wd D A s.heap (oc_X0 T a_o x_o_42 ++ Z) H locs → lv_has ls 8 [(0, .ref (a_o 0)), (1, .int v1_42), (2, .int v2_42), (3, .int v3_42), (4, .int v4_42), (5, .int v5_42), (6, .int o6_42r)] → W p l e (rmd 0) s m args below meth c H locs 0 0 Q (F0 m 84 ls [])) → W p l e (rmd 0) s m args below meth c H locs 0 0 Q (F0 m 42 ls []) := by
    intro n
    induction n with
    | zero =>
      intro x_o_42 v1_42 v2_42 v3_42 v4_42 v5_42 v6_42 H locs ls o6_42r hW hl h k1
      rw [f_X0_add_L42] at h
      cases h
    | succ n ih =>
      intro x_o_42 v1_42 v2_42 v3_42 v4_42 v5_42 v6_42 H locs ls o6_42r hW hl h k1
      rw [f_X0_add_L42] at h
      refine lv_iload hx hb dX0_add_42 (lv_at hl 6 rfl) ?_
      refine lv_iload hx hb dX0_add_44 (lv_at hl 5 rfl) ?_
      refine lv_aload_n hx hb dX0_add_46 rfl (lv_at hl 0 rfl) ?_
      refine fg_X0_15 (v := .ref (a_o 1)) hx hb hts hown hK hW 0 rfl rfl dX0_add_47 ?_
      refine lv_iload_n hx hb dX0_add_50 rfl (lv_at hl 1 rfl) ?_
      obtain ⟨g8, h⟩ := grd_s h
      refine g_iald hx hb hK hW 1 rfl g8 dX0_add_51 ?_
      refine lv_iadd hx hb dX0_add_52 ?_
      refine lv_icmp_ge (tgt := 84) hx hb dX0_add_53 (by decide) (fun c9 => ?_) (fun c9 => ?_)
      · have h := ite_t c9 h
        obtain rfl := ret1 h
        exact k1 H locs ls hW (lv_sub hl [0, 1, 2, 3, 4, 5, 6] rfl)
      · have h := ite_f c9 h
        refine lv_aload_n hx hb dX0_add_56 rfl (lv_at hl 0 rfl) ?_
        refine fg_X0_19 (v := .ref (a_o 2)) hx hb hts hown hK hW 0 rfl rfl dX0_add_57 ?_
        refine lv_iload hx hb dX0_add_60 (lv_at hl 6 rfl) ?_
        obtain ⟨g10, h⟩ := grd_s h
        refine g_iald hx hb hK hW 2 rfl g10 dX0_add_62 ?_
        refine lv_iload_n hx hb dX0_add_63 rfl (lv_at hl 2 rfl) ?_
        refine lv_icmp_ne (tgt := 78) hx hb dX0_add_64 (by decide) (fun c11 => ?_) (fun c11 => ?_)
        · have h := ite_f c11 h
          obtain ⟨w6_12, ew6_12⟩ : ∃ y : Int32, y = v6_42 + 1 := ⟨_, rfl⟩
          have h := lb_at ew6_12 h
          refine lv_iinc (v := w6_12) (lv' := [(6, .int w6_12), (0, .ref (a_o 0)), (1, .int v1_42), (2, .int v2_42), (3, .int v3_42), (4, .int v4_42), (5, .int v5_42)]) hx hb dX0_add_78 hl (k := 6) rfl (by rw [ew6_12]; rfl) (by decide) rfl (fun ls hl => ?_)
          refine lv_goto (tgt := 42) hx hb dX0_add_81 (by decide) ?_
          exact ih _ _ _ _ _ _ _ H locs ls _ hW (lv_sub hl [1, 2, 3, 4, 5, 6, 0] rfl) h k1
        · have h := ite_t c11 h
          refine lv_aload_n hx hb dX0_add_67 rfl (lv_at hl 0 rfl) ?_
          refine fg_X0_22 (v := .ref (a_o 3)) hx hb hts hown hK hW 0 rfl rfl dX0_add_68 ?_
          refine lv_iload hx hb dX0_add_71 (lv_at hl 6 rfl) ?_
          obtain ⟨g13, h⟩ := grd_s h
          refine g_iald hx hb hK hW 3 rfl g13 dX0_add_73 ?_
          refine lv_iload_n hx hb dX0_add_74 rfl (lv_at hl 3 rfl) ?_
          refine lv_icmp_eq (tgt := 84) hx hb dX0_add_75 (by decide) (fun c14 => ?_) (fun c14 => ?_)
          · have h := ite_t c14 h
            obtain rfl := ret1 h
            exact k1 H locs ls hW (lv_sub hl [0, 1, 2, 3, 4, 5, 6] rfl)
          · have h := ite_f c14 h
            obtain ⟨w6_15, ew6_15⟩ : ∃ y : Int32, y = v6_42 + 1 := ⟨_, rfl⟩
            have h := lb_at ew6_15 h
            refine lv_iinc (v := w6_15) (lv' := [(6, .int w6_15), (0, .ref (a_o 0)), (1, .int v1_42), (2, .int v2_42), (3, .int v3_42), (4, .int v4_42), (5, .int v5_42)]) hx hb dX0_add_78 hl (k := 6) rfl (by rw [ew6_15]; rfl) (by decide) rfl (fun ls hl => ?_)
            refine lv_goto (tgt := 42) hx hb dX0_add_81 (by decide) ?_
            exact ih _ _ _ _ _ _ _ H locs ls _ hW (lv_sub hl [1, 2, 3, 4, 5, 6, 0] rfl) h k1
  have J155 : ∀ (x_o_155 : Ob) (v2_155 : Int32) (v3_155 : Int32) (v4_155 : Int32) (v6_155 : Int32) (s1_155 : Int32) (s2_155 : Int32) (s3_155 : Int32) (H : Heap) (locs : List Loc) (ls : Array Slot), Wd D A s.heap (oc_X0 T a_o x_o_155 ++ Z) H locs → lv_has ls 8 [(0, .ref (a_o 0)), (2, .int v2_155), (3, .int v3_155), (4, .int v4_155), (6, .int v6_155)] → f_X0_add_J155 x_o_155 v2_155 v3_155 v4_155 v6_155 s1_155 s2_155 s3_155 = some (r, x_o9) → W p l e (rmd 0) s m args below meth c H locs 0 0 Q (F0 m 155 ls [.int s3_155, .int s2_155, .int s1_155, .ref (a_o 1)]) := by
    intro x_o_155 v2_155 v3_155 v4_155 v6_155 s1_155 s2_155 s3_155 H locs ls hW hl h
    rw [f_X0_add_J155] at h
    refine lv_iadd hx hb dX0_add_155 ?_
    obtain ⟨g25, h⟩ := grd_s h
    refine g_iast (ws9 := oc_X0 T a_o (upo x_o_155 1 s1_155.toNatClampNeg (s2_155 + s3_155)) ++ Z) hx hb hK hW 1 rfl g25 sa_X0_1 dX0_add_156 (fun H locs hW => ?_)
    obtain ⟨x_o26, ex_o26⟩ : ∃ y : Ob, y = upo x_o_155 1 s1_155.toNatClampNeg (s2_155 + s3_155) := ⟨_, rfl⟩
    rw [← ex_o26] at hW
    have h := lb_at ex_o26 h
    refine lv_aload_n hx hb dX0_add_157 rfl (lv_at hl 0 rfl) ?_
    refine fg_X0_19 (v := .ref (a_o 2)) hx hb hts hown hK hW 0 rfl rfl dX0_add_158 ?_
    refine lv_iload hx hb dX0_add_161 (lv_at hl 4 rfl) ?_
    refine lv_iload_n hx hb dX0_add_163 rfl (lv_at hl 1 rfl) ?_
    obtain ⟨g27, h⟩ := grd_s h
    refine g_iast (ws9 := oc_X0 T a_o (upo x_o26 2 v6_155.toNatClampNeg v2_155) ++ Z) hx hb hK hW 2 rfl g27 sa_X0_2 dX0_add_164 (fun H locs hW => ?_)
    obtain ⟨x_o28, ex_o28⟩ : ∃ y : Ob, y = upo x_o26 2 v6_155.toNatClampNeg v2_155 := ⟨_, rfl⟩
    rw [← ex_o28] at hW
    have h := lb_at ex_o28 h
    refine lv_aload_n hx hb dX0_add_165 rfl (lv_at hl 0 rfl) ?_
    refine fg_X0_22 (v := .ref (a_o 3)) hx hb hts hown hK hW 0 rfl rfl dX0_add_166 ?_
    refine lv_iload hx hb dX0_add_169 (lv_at hl 4 rfl) ?_
    refine lv_iload_n hx hb dX0_add_171 rfl (lv_at hl 2 rfl) ?_
    obtain ⟨g29, h⟩ := grd_s h
    refine g_iast (ws9 := oc_X0 T a_o (upo x_o28 3 v6_155.toNatClampNeg v3_155) ++ Z) hx hb hK hW 3 rfl g29 sa_X0_3 dX0_add_172 (fun H locs hW => ?_)
    obtain ⟨x_o30, ex_o30⟩ : ∃ y : Ob, y = upo x_o28 3 v6_155.toNatClampNeg v3_155 := ⟨_, rfl⟩
    rw [← ex_o30] at hW
    have h := lb_at ex_o30 h
    refine lv_aload_n hx hb dX0_add_173 rfl (lv_at hl 0 rfl) ?_
    refine fg_X0_25 (v := .ref (a_o 4)) hx hb hts hown hK hW 0 rfl rfl dX0_add_174 ?_
    refine lv_iload hx hb dX0_add_177 (lv_at hl 4 rfl) ?_
    refine lv_iload hx hb dX0_add_179 (lv_at hl 3 rfl) ?_
    obtain ⟨g31, h⟩ := grd_s h
    refine g_iast (ws9 := oc_X0 T a_o (upo x_o30 4 v6_155.toNatClampNeg v4_155) ++ Z) hx hb hK hW 4 rfl g31 sa_X0_4 dX0_add_181 (fun H locs hW => ?_)
    obtain ⟨x_o32, ex_o32⟩ : ∃ y : Ob, y = upo x_o30 4 v6_155.toNatClampNeg v4_155 := ⟨_, rfl⟩
    rw [← ex_o32] at hW
    have h := lb_at ex_o32 h
    refine lv_iload hx hb dX0_add_182 (lv_at hl 4 rfl) ?_
    obtain ⟨rfl, rfl⟩ := ret2 h
    rw [hQ]
    exact g_reti hx hb hr hlk hW dX0_add_184
  have J138 : ∀ (x_o_138 : Ob) (v1_138 : Int32) (v2_138 : Int32) (v3_138 : Int32) (v4_138 : Int32) (v6_138 : Int32) (v7_138 : Int32) (H : Heap) (locs : List Loc) (ls : Array Slot), Wd D A s.heap (oc_X0 T a_o x_o_138 ++ Z) H locs → lv_has ls 8 [(0, .ref (a_o 0)), (1, .int v1_138), (2, .int v2_138), (3, .int v3_138), (4, .int v4_138), (6, .int v6_138), (7, .int v7_138)] → f_X0_add_J138 x_o_138 v1_138 v2_138 v3_138 v4_138 v6_138 v7_138 = some (r, x_o9) → W p l e (rmd 0) s m args below meth c H locs 0 0 Q (F0 m 138 ls []) := by
    intro x_o_138 v1_138 v2_138 v3_138 v4_138 v6_138 v7_138 H locs ls hW hl h
    rw [f_X0_add_J138] at h
    refine lv_aload_n hx hb dX0_add_138 rfl (lv_at hl 0 rfl) ?_
    refine fg_X0_15 (v := .ref (a_o 1)) hx hb hts hown hK hW 0 rfl rfl dX0_add_139 ?_
    refine lv_iload_n hx hb dX0_add_142 rfl (lv_at hl 1 rfl) ?_
    refine lv_dup2_11 hx hb dX0_add_143 rfl rfl ?_
    obtain ⟨g23, h⟩ := grd_s h
    refine g_iald hx hb hK hW 1 rfl g23 dX0_add_144 ?_
    refine lv_iload hx hb dX0_add_145 (lv_at hl 6 rfl) ?_
    refine lv_if_eq (tgt := 154) hx hb dX0_add_147 (by decide) (fun c24 => ?_) (fun c24 => ?_)
    · have h := ite_t c24 h
      refine lv_iconst (v := 0) hx hb dX0_add_154 (by decide) ?_
      exact J155 _ _ _ _ _ _ _ _ H locs ls hW (lv_sub hl [0, 2, 3, 4, 5] rfl) h
    · have h := ite_f c24 h
      refine lv_iconst (v := 1) hx hb dX0_add_150 (by decide) ?_
      refine lv_goto (tgt := 155) hx hb dX0_add_151 (by decide) ?_
      exact J155 _ _ _ _ _ _ _ _ H locs ls hW (lv_sub hl [0, 2, 3, 4, 5] rfl) h
  have J103 : ∀ (x_o_103 : Ob) (v1_103 : Int32) (v2_103 : Int32) (v3_103 : Int32) (v4_103 : Int32) (v6_103 : Int32) (s0_103 : Int32) (H : Heap) (locs : List Loc) (ls : Array Slot), Wd D A s.heap (oc_X0 T a_o x_o_103 ++ Z) H locs → lv_has ls 8 [(0, .ref (a_o 0)), (1, .int v1_103), (2, .int v2_103), (3, .int v3_103), (4, .int v4_103), (6, .int v6_103)] → f_X0_add_J103 x_o_103 v1_103 v2_103 v3_103 v4_103 v6_103 s0_103 = some (r, x_o9) → W p l e (rmd 0) s m args below meth c H locs 0 0 Q (F0 m 103 ls [.int s0_103]) := by
    intro x_o_103 v1_103 v2_103 v3_103 v4_103 v6_103 s0_103 H locs ls hW hl h
    rw [f_X0_add_J103] at h
    refine lv_istore (lv' := [(7, .int s0_103), (0, .ref (a_o 0)), (1, .int v1_103), (2, .int v2_103), (3, .int v3_103), (4, .int v4_103), (6, .int v6_103)]) hx hb dX0_add_103 hl (by decide) rfl (fun ls hl => ?_)
    refine lv_iload hx hb dX0_add_105 (lv_at hl 0 rfl) ?_
    refine lv_if_eq (tgt := 124) hx hb dX0_add_107 (by decide) (fun c20 => ?_) (fun c20 => ?_)
    · have h := ite_t c20 h
      refine lv_iload hx hb dX0_add_124 (lv_at hl 5 rfl) ?_
      refine lv_aload_n hx hb dX0_add_126 rfl (lv_at hl 1 rfl) ?_
      refine fg_X0_25 (v := .ref (a_o 4)) hx hb hts hown hK hW 0 rfl rfl dX0_add_127 ?_
      refine lv_iload hx hb dX0_add_130 (lv_at hl 6 rfl) ?_
      obtain ⟨g21, h⟩ := grd_s h
      refine g_iald hx hb hK hW 4 rfl g21 dX0_add_132 ?_
      refine lv_icmp_lt (tgt := 138) hx hb dX0_add_133 (by decide) (fun c22 => ?_) (fun c22 => ?_)
      · have h := ite_t c22 h
        exact J138 _ _ _ _ _ _ _ H locs ls hW (lv_sub hl [1, 2, 3, 4, 5, 6, 0] rfl) h
      · have h := ite_f c22 h
        refine lv_iconst (v := (-1)) hx hb dX0_add_136 (by decide) ?_
        obtain ⟨rfl, rfl⟩ := ret2 h
        rw [hQ]
        exact g_reti hx hb hr hlk hW dX0_add_137
    · have h := ite_f c20 h
      refine lv_aload_n hx hb dX0_add_110 rfl (lv_at hl 1 rfl) ?_
      refine fg_X0_15 (v := .ref (a_o 1)) hx hb hts hown hK hW 0 rfl rfl dX0_add_111 ?_
      refine lv_iload_n hx hb dX0_add_114 rfl (lv_at hl 2 rfl) ?_
      obtain ⟨g33, h⟩ := grd_s h
      refine g_iald hx hb hK hW 1 rfl g33 dX0_add_115 ?_
      refine lv_bipush (v := 8) hx hb dX0_add_116 (by decide) ?_
      refine lv_icmp_ne (tgt := 138) hx hb dX0_add_118 (by decide) (fun c34 => ?_) (fun c34 => ?_)
      · have h := ite_f c34 h
        exact J138 _ _ _ _ _ _ _ H locs ls hW (lv_sub hl [1, 2, 3, 4, 5, 6, 0] rfl) h
      · have h := ite_t c34 h
        refine lv_goto (tgt := 136) hx hb dX0_add_121 (by decide) ?_
        refine lv_iconst (v := (-1)) hx hb dX0_add_136 (by decide) ?_
        obtain ⟨rfl, rfl⟩ := ret2 h
        rw [hQ]
        exact g_reti hx hb hr hlk hW dX0_add_137
  rw [f_X0_add] at h
  suffices hm : ∀ (H : Heap) (locs : List Loc), Wd D A s.heap (oc_X0 T a_o x_o ++ Z) H locs → W p l e (rmd 0) s m args below meth c H locs 0 0 Q (F0 m 0 ls []) from hm _ _ hW
  intro H locs hW
  refine lv_iload_n hx hb dX0_add_0 rfl (lv_at hl 1 rfl) ?_
  refine lv_if_lt (tgt := 30) hx hb dX0_add_1 (by decide) (fun c1 => ?_) (fun c1 => ?_)
  · have h := ite_t c1 h
    refine lv_iconst (v := (-1)) hx hb dX0_add_30 (by decide) ?_
    obtain ⟨rfl, rfl⟩ := ret2 h
    rw [hQ]
    exact g_reti hx hb hr hlk hW dX0_add_31
  · have h := ite_f c1 h
    refine lv_iload_n hx hb dX0_add_4 rfl (lv_at hl 1 rfl) ?_
    refine lv_bipush (v := 36) hx hb dX0_add_5 (by decide) ?_
    refine lv_icmp_ge (tgt := 30) hx hb dX0_add_7 (by decide) (fun c2 => ?_) (fun c2 => ?_)
    · have h := ite_t c2 h
      refine lv_iconst (v := (-1)) hx hb dX0_add_30 (by decide) ?_
      obtain ⟨rfl, rfl⟩ := ret2 h
      rw [hQ]
      exact g_reti hx hb hr hlk hW dX0_add_31
    · have h := ite_f c2 h
      refine lv_aload_n hx hb dX0_add_10 rfl (lv_at hl 0 rfl) ?_
      refine fg_X0_15 (v := .ref (a_o 1)) hx hb hts hown hK hW 0 rfl rfl dX0_add_11 ?_
      refine lv_iload_n hx hb dX0_add_14 rfl (lv_at hl 1 rfl) ?_
      obtain ⟨g3, h⟩ := grd_s h
      refine g_iald hx hb hK hW 1 rfl g3 dX0_add_15 ?_
      refine lv_if_lt (tgt := 30) hx hb dX0_add_16 (by decide) (fun c4 => ?_) (fun c4 => ?_)
      · have h := ite_t c4 h
        refine lv_iconst (v := (-1)) hx hb dX0_add_30 (by decide) ?_
        obtain ⟨rfl, rfl⟩ := ret2 h
        rw [hQ]
        exact g_reti hx hb hr hlk hW dX0_add_31
      · have h := ite_f c4 h
        refine lv_aload_n hx hb dX0_add_19 rfl (lv_at hl 0 rfl) ?_
        refine fg_X0_15 (v := .ref (a_o 1)) hx hb hts hown hK hW 0 rfl rfl dX0_add_20 ?_
        refine lv_iload_n hx hb dX0_add_23 rfl (lv_at hl 1 rfl) ?_
        obtain ⟨g5, h⟩ := grd_s h
        refine g_iald hx hb hK hW 1 rfl g5 dX0_add_24 ?_
        refine lv_bipush (v := 8) hx hb dX0_add_25 (by decide) ?_
        refine lv_icmp_le (tgt := 32) hx hb dX0_add_27 (by decide) (fun c6 => ?_) (fun c6 => ?_)
        · have h := ite_t c6 h
          refine lv_iload_n hx hb dX0_add_32 rfl (lv_at hl 1 rfl) ?_
          refine lv_bipush (v := 8) hx hb dX0_add_33 (by decide) ?_
          refine lv_imul hx hb dX0_add_35 ?_
          refine lv_topi (fun w5_7 ew5_7 => ?_)
          have h := lb_at ew5_7 h
          refine lv_istore (lv' := [(5, .int w5_7), (0, .ref (a_o 0)), (1, .int p1), (2, .int p2), (3, .int p3), (4, .int p4)]) hx hb dX0_add_36 hl (by decide) rfl (fun ls hl => ?_)
          refine lv_iload hx hb dX0_add_38 (lv_at hl 0 rfl) ?_
          refine lv_istore (lv' := [(6, .int w5_7), (5, .int w5_7), (0, .ref (a_o 0)), (1, .int p1), (2, .int p2), (3, .int p3), (4, .int p4)]) hx hb dX0_add_40 hl (by decide) rfl (fun ls hl => ?_)
          obtain ⟨o6_u16, q17, h⟩ := bnd1_s h
          refine L42 200 _ _ _ _ _ _ _ H locs ls o6_u16 hW (lv_sub hl [2, 3, 4, 5, 6, 1, 0] rfl) q17 (fun H locs ls hW hl => ?_)
          refine lv_iload hx hb dX0_add_84 (lv_at hl 6 rfl) ?_
          refine lv_iload hx hb dX0_add_86 (lv_at hl 5 rfl) ?_
          refine lv_aload_n hx hb dX0_add_88 rfl (lv_at hl 0 rfl) ?_
          refine fg_X0_15 (v := .ref (a_o 1)) hx hb hts hown hK hW 0 rfl rfl dX0_add_89 ?_
          refine lv_iload_n hx hb dX0_add_92 rfl (lv_at hl 1 rfl) ?_
          obtain ⟨g18, h⟩ := grd_s h
          refine g_iald hx hb hK hW 1 rfl g18 dX0_add_93 ?_
          refine lv_iadd hx hb dX0_add_94 ?_
          refine lv_icmp_ne (tgt := 102) hx hb dX0_add_95 (by decide) (fun c19 => ?_) (fun c19 => ?_)
          · have h := ite_f c19 h
            refine lv_iconst (v := 0) hx hb dX0_add_102 (by decide) ?_
            exact J103 _ _ _ _ _ _ _ H locs ls hW (lv_sub hl [0, 1, 2, 3, 4, 6] rfl) h
          · have h := ite_t c19 h
            refine lv_iconst (v := 1) hx hb dX0_add_98 (by decide) ?_
            refine lv_goto (tgt := 103) hx hb dX0_add_99 (by decide) ?_
            exact J103 _ _ _ _ _ _ _ H locs ls hW (lv_sub hl [0, 1, 2, 3, 4, 6] rfl) h
        · have h := ite_f c6 h
          refine lv_iconst (v := (-1)) hx hb dX0_add_30 (by decide) ?_
          obtain ⟨rfl, rfl⟩ := ret2 h
          rw [hQ]
          exact g_reti hx hb hr hlk hW dX0_add_31
set_option maxHeartbeats 4000000 in
set_option maxRecDepth 100000 in
theorem c_X0_tellUse (l : Launch) (D : va_G) (T : Nat → ClassId) (A : Nat → Prop) (a_o : Nat → Nat) (Z : va_W)  (x_o : Ob) (p1 : Int32) (p2 : Int32) (p3 : Int32) (p4 : Int32) (p5 : Int32) (x_o9 : Ob) (h : f_X0_tellUse x_o p1 p2 p3 p4 p5 = some x_o9) : Met l yX0_tellUse (Cond.code yX0_tellUse cX0_tellUse 6 none :: wsL_law) (rmd 0) (Pg D T A (oc_X0 T a_o x_o ++ Z) [.ref (a_o 0), .int p1, .int p2, .int p3, .int p4, .int p5]) (Qgv D A (oc_X0 T a_o x_o9 ++ Z)) 0 0 A := by
  refine Met.ofW (cc := cX0_tellUse) (maxL := 6) (ret := none) (by decide +kernel) rfl ?_
  intro p e s m args below meth c s₁ B hml hv
  obtain ⟨ha, hP, hK, hD, hN⟩ := hv
  have hx := B.exec
  have hb := B.bytes
  have hr := B.returns
  have hlk := B.notSynchronized
  have hts : ∀ w ∈ wsL_law, w.before args s = true := fun w hw => atoms_spec B.pre w (List.mem_cons_of_mem _ hw)
  have hown : s.vm.findClass RX0 = some m.cls := findClass_of_methodNamed B.named
  have hW : Wd D A s.heap (oc_X0 T a_o x_o ++ Z) s.heap [] := ⟨hP, hD, va_S.rf⟩
  have hl := lv_entry [.ref (a_o 0), .int p1, .int p2, .int p3, .int p4, .int p5] (n := 6) (Nat.le_of_ble_eq_true rfl)
  refine W.eq (en_eq ha) ?_
  generalize (lg_sl [.ref (a_o 0), .int p1, .int p2, .int p3, .int p4, .int p5] ++ List.replicate (6 - (lg_sl [.ref (a_o 0), .int p1, .int p2, .int p3, .int p4, .int p5]).length) Slot.unset).toArray = ls at hl ⊢
  have hl : lv_has ls 6 [(0, .ref (a_o 0)), (1, .int p1), (2, .int p2), (3, .int p3), (4, .int p4), (5, .int p5)] := hl
  clear hP hD B ha
  obtain ⟨Q, hQ⟩ : ∃ Q, Q = MQ below (Qgv D A (oc_X0 T a_o x_o9 ++ Z)) args s 0 0 A := ⟨_, rfl⟩
  rw [← hQ]
  change W p l e (rmd 0) s m args below meth c s.heap [] 0 0 Q (F0 m 0 ls [])
  rw [f_X0_tellUse] at h
  suffices hm : ∀ (H : Heap) (locs : List Loc), Wd D A s.heap (oc_X0 T a_o x_o ++ Z) H locs → W p l e (rmd 0) s m args below meth c H locs 0 0 Q (F0 m 0 ls []) from hm _ _ hW
  intro H locs hW
  refine lv_iload_n hx hb dX0_tellUse_0 rfl (lv_at hl 1 rfl) ?_
  refine lv_if_lt (tgt := 41) hx hb dX0_tellUse_1 (by decide) (fun c1 => ?_) (fun c1 => ?_)
  · have h := ite_t c1 h
    obtain rfl := ret1 h
    rw [hQ]
    exact g_retv hx hb hr hlk hW dX0_tellUse_41
  · have h := ite_f c1 h
    refine lv_iload_n hx hb dX0_tellUse_4 rfl (lv_at hl 1 rfl) ?_
    refine lv_sipush (v := 288) hx hb dX0_tellUse_5 (by decide) ?_
    refine lv_icmp_ge (tgt := 41) hx hb dX0_tellUse_8 (by decide) (fun c2 => ?_) (fun c2 => ?_)
    · have h := ite_t c2 h
      obtain rfl := ret1 h
      rw [hQ]
      exact g_retv hx hb hr hlk hW dX0_tellUse_41
    · have h := ite_f c2 h
      refine lv_aload_n hx hb dX0_tellUse_11 rfl (lv_at hl 0 rfl) ?_
      refine fg_X0_28 (v := .ref (a_o 5)) hx hb hts hown hK hW 0 rfl rfl dX0_tellUse_12 ?_
      refine lv_iload_n hx hb dX0_tellUse_15 rfl (lv_at hl 1 rfl) ?_
      refine lv_iload_n hx hb dX0_tellUse_16 rfl (lv_at hl 2 rfl) ?_
      obtain ⟨g3, h⟩ := grd_s h
      refine g_iast (ws9 := oc_X0 T a_o (upo x_o 5 p1.toNatClampNeg p2) ++ Z) hx hb hK hW 5 rfl g3 sa_X0_5 dX0_tellUse_17 (fun H locs hW => ?_)
      obtain ⟨x_o4, ex_o4⟩ : ∃ y : Ob, y = upo x_o 5 p1.toNatClampNeg p2 := ⟨_, rfl⟩
      rw [← ex_o4] at hW
      have h := lb_at ex_o4 h
      refine lv_aload_n hx hb dX0_tellUse_18 rfl (lv_at hl 0 rfl) ?_
      refine fg_X0_31 (v := .ref (a_o 6)) hx hb hts hown hK hW 0 rfl rfl dX0_tellUse_19 ?_
      refine lv_iload_n hx hb dX0_tellUse_22 rfl (lv_at hl 1 rfl) ?_
      refine lv_iload_n hx hb dX0_tellUse_23 rfl (lv_at hl 3 rfl) ?_
      obtain ⟨g5, h⟩ := grd_s h
      refine g_iast (ws9 := oc_X0 T a_o (upo x_o4 6 p1.toNatClampNeg p3) ++ Z) hx hb hK hW 6 rfl g5 sa_X0_6 dX0_tellUse_24 (fun H locs hW => ?_)
      obtain ⟨x_o6, ex_o6⟩ : ∃ y : Ob, y = upo x_o4 6 p1.toNatClampNeg p3 := ⟨_, rfl⟩
      rw [← ex_o6] at hW
      have h := lb_at ex_o6 h
      refine lv_aload_n hx hb dX0_tellUse_25 rfl (lv_at hl 0 rfl) ?_
      refine fg_X0_34 (v := .ref (a_o 7)) hx hb hts hown hK hW 0 rfl rfl dX0_tellUse_26 ?_
      refine lv_iload_n hx hb dX0_tellUse_29 rfl (lv_at hl 1 rfl) ?_
      refine lv_iload hx hb dX0_tellUse_30 (lv_at hl 4 rfl) ?_
      obtain ⟨g7, h⟩ := grd_s h
      refine g_iast (ws9 := oc_X0 T a_o (upo x_o6 7 p1.toNatClampNeg p4) ++ Z) hx hb hK hW 7 rfl g7 sa_X0_7 dX0_tellUse_32 (fun H locs hW => ?_)
      obtain ⟨x_o8, ex_o8⟩ : ∃ y : Ob, y = upo x_o6 7 p1.toNatClampNeg p4 := ⟨_, rfl⟩
      rw [← ex_o8] at hW
      have h := lb_at ex_o8 h
      refine lv_aload_n hx hb dX0_tellUse_33 rfl (lv_at hl 0 rfl) ?_
      refine fg_X0_37 (v := .ref (a_o 8)) hx hb hts hown hK hW 0 rfl rfl dX0_tellUse_34 ?_
      refine lv_iload_n hx hb dX0_tellUse_37 rfl (lv_at hl 1 rfl) ?_
      refine lv_iload hx hb dX0_tellUse_38 (lv_at hl 5 rfl) ?_
      obtain ⟨g9, h⟩ := grd_s h
      refine g_iast (ws9 := oc_X0 T a_o (upo x_o8 8 p1.toNatClampNeg p5) ++ Z) hx hb hK hW 8 rfl g9 sa_X0_8 dX0_tellUse_40 (fun H locs hW => ?_)
      obtain ⟨x_o10, ex_o10⟩ : ∃ y : Ob, y = upo x_o8 8 p1.toNatClampNeg p5 := ⟨_, rfl⟩
      rw [← ex_o10] at hW
      have h := lb_at ex_o10 h
      obtain rfl := ret1 h
      rw [hQ]
      exact g_retv hx hb hr hlk hW dX0_tellUse_41
set_option maxHeartbeats 4000000 in
set_option maxRecDepth 100000 in
theorem c_X0_categoryOf (l : Launch) (D : va_G) (T : Nat → ClassId) (A : Nat → Prop) (a_o : Nat → Nat) (Z : va_W)  (x_o : Ob) (p1 : Int32) (r : Int32) (h : f_X0_categoryOf x_o p1 = some r) : Met l yX0_categoryOf (Cond.code yX0_categoryOf cX0_categoryOf 2 (some .int) :: wsL_law) (rmd 0) (Pg D T A (oc_X0 T a_o x_o ++ Z) [.ref (a_o 0), .int p1]) (Qgi D A (oc_X0 T a_o x_o ++ Z) r) 0 0 A := by
  refine Met.ofW (cc := cX0_categoryOf) (maxL := 2) (ret := (some .int)) (by decide +kernel) rfl ?_
  intro p e s m args below meth c s₁ B hml hv
  obtain ⟨ha, hP, hK, hD, hN⟩ := hv
  have hx := B.exec
  have hb := B.bytes
  have hr := B.returns
  have hlk := B.notSynchronized
  have hts : ∀ w ∈ wsL_law, w.before args s = true := fun w hw => atoms_spec B.pre w (List.mem_cons_of_mem _ hw)
  have hown : s.vm.findClass RX0 = some m.cls := findClass_of_methodNamed B.named
  have hW : Wd D A s.heap (oc_X0 T a_o x_o ++ Z) s.heap [] := ⟨hP, hD, va_S.rf⟩
  have hl := lv_entry [.ref (a_o 0), .int p1] (n := 2) (Nat.le_of_ble_eq_true rfl)
  refine W.eq (en_eq ha) ?_
  generalize (lg_sl [.ref (a_o 0), .int p1] ++ List.replicate (2 - (lg_sl [.ref (a_o 0), .int p1]).length) Slot.unset).toArray = ls at hl ⊢
  have hl : lv_has ls 2 [(0, .ref (a_o 0)), (1, .int p1)] := hl
  clear hP hD B ha
  obtain ⟨Q, hQ⟩ : ∃ Q, Q = MQ below (Qgi D A (oc_X0 T a_o x_o ++ Z) r) args s 0 0 A := ⟨_, rfl⟩
  rw [← hQ]
  change W p l e (rmd 0) s m args below meth c s.heap [] 0 0 Q (F0 m 0 ls [])
  rw [f_X0_categoryOf] at h
  suffices hm : ∀ (H : Heap) (locs : List Loc), Wd D A s.heap (oc_X0 T a_o x_o ++ Z) H locs → W p l e (rmd 0) s m args below meth c H locs 0 0 Q (F0 m 0 ls []) from hm _ _ hW
  intro H locs hW
  refine lv_iload_n hx hb dX0_categoryOf_0 rfl (lv_at hl 1 rfl) ?_
  refine lv_if_lt (tgt := 20) hx hb dX0_categoryOf_1 (by decide) (fun c1 => ?_) (fun c1 => ?_)
  · have h := ite_t c1 h
    refine lv_iconst (v := (-1)) hx hb dX0_categoryOf_20 (by decide) ?_
    obtain rfl := ret1 h
    rw [hQ]
    exact g_reti hx hb hr hlk hW dX0_categoryOf_21
  · have h := ite_f c1 h
    refine lv_iload_n hx hb dX0_categoryOf_4 rfl (lv_at hl 1 rfl) ?_
    refine lv_sipush (v := 288) hx hb dX0_categoryOf_5 (by decide) ?_
    refine lv_icmp_ge (tgt := 20) hx hb dX0_categoryOf_8 (by decide) (fun c2 => ?_) (fun c2 => ?_)
    · have h := ite_t c2 h
      refine lv_iconst (v := (-1)) hx hb dX0_categoryOf_20 (by decide) ?_
      obtain rfl := ret1 h
      rw [hQ]
      exact g_reti hx hb hr hlk hW dX0_categoryOf_21
    · have h := ite_f c2 h
      refine lv_aload_n hx hb dX0_categoryOf_11 rfl (lv_at hl 0 rfl) ?_
      refine fg_X0_19 (v := .ref (a_o 2)) hx hb hts hown hK hW 0 rfl rfl dX0_categoryOf_12 ?_
      refine lv_iload_n hx hb dX0_categoryOf_15 rfl (lv_at hl 1 rfl) ?_
      obtain ⟨g3, h⟩ := grd_s h
      refine g_iald hx hb hK hW 2 rfl g3 dX0_categoryOf_16 ?_
      refine lv_goto (tgt := 21) hx hb dX0_categoryOf_17 (by decide) ?_
      obtain rfl := ret1 h
      rw [hQ]
      exact g_reti hx hb hr hlk hW dX0_categoryOf_21
set_option maxHeartbeats 4000000 in
set_option maxRecDepth 100000 in
theorem c_X0_featuresOf (l : Launch) (D : va_G) (T : Nat → ClassId) (A : Nat → Prop) (a_o : Nat → Nat) (Z : va_W)  (x_o : Ob) (p1 : Int32) (r : Int32) (h : f_X0_featuresOf x_o p1 = some r) : Met l yX0_featuresOf (Cond.code yX0_featuresOf cX0_featuresOf 2 (some .int) :: wsL_law) (rmd 0) (Pg D T A (oc_X0 T a_o x_o ++ Z) [.ref (a_o 0), .int p1]) (Qgi D A (oc_X0 T a_o x_o ++ Z) r) 0 0 A := by
  refine Met.ofW (cc := cX0_featuresOf) (maxL := 2) (ret := (some .int)) (by decide +kernel) rfl ?_
  intro p e s m args below meth c s₁ B hml hv
  obtain ⟨ha, hP, hK, hD, hN⟩ := hv
  have hx := B.exec
  have hb := B.bytes
  have hr := B.returns
  have hlk := B.notSynchronized
  have hts : ∀ w ∈ wsL_law, w.before args s = true := fun w hw => atoms_spec B.pre w (List.mem_cons_of_mem _ hw)
  have hown : s.vm.findClass RX0 = some m.cls := findClass_of_methodNamed B.named
  have hW : Wd D A s.heap (oc_X0 T a_o x_o ++ Z) s.heap [] := ⟨hP, hD, va_S.rf⟩
  have hl := lv_entry [.ref (a_o 0), .int p1] (n := 2) (Nat.le_of_ble_eq_true rfl)
  refine W.eq (en_eq ha) ?_
  generalize (lg_sl [.ref (a_o 0), .int p1] ++ List.replicate (2 - (lg_sl [.ref (a_o 0), .int p1]).length) Slot.unset).toArray = ls at hl ⊢
  have hl : lv_has ls 2 [(0, .ref (a_o 0)), (1, .int p1)] := hl
  clear hP hD B ha
  obtain ⟨Q, hQ⟩ : ∃ Q, Q = MQ below (Qgi D A (oc_X0 T a_o x_o ++ Z) r) args s 0 0 A := ⟨_, rfl⟩
  rw [← hQ]
  change W p l e (rmd 0) s m args below meth c s.heap [] 0 0 Q (F0 m 0 ls [])
  rw [f_X0_featuresOf] at h
  suffices hm : ∀ (H : Heap) (locs : List Loc), Wd D A s.heap (oc_X0 T a_o x_o ++ Z) H locs → W p l e (rmd 0) s m args below meth c H locs 0 0 Q (F0 m 0 ls []) from hm _ _ hW
  intro H locs hW
  refine lv_iload_n hx hb dX0_featuresOf_0 rfl (lv_at hl 1 rfl) ?_
  refine lv_if_lt (tgt := 20) hx hb dX0_featuresOf_1 (by decide) (fun c1 => ?_) (fun c1 => ?_)
  · have h := ite_t c1 h
    refine lv_iconst (v := 0) hx hb dX0_featuresOf_20 (by decide) ?_
    obtain rfl := ret1 h
    rw [hQ]
    exact g_reti hx hb hr hlk hW dX0_featuresOf_21
  · have h := ite_f c1 h
    refine lv_iload_n hx hb dX0_featuresOf_4 rfl (lv_at hl 1 rfl) ?_
    refine lv_sipush (v := 288) hx hb dX0_featuresOf_5 (by decide) ?_
    refine lv_icmp_ge (tgt := 20) hx hb dX0_featuresOf_8 (by decide) (fun c2 => ?_) (fun c2 => ?_)
    · have h := ite_t c2 h
      refine lv_iconst (v := 0) hx hb dX0_featuresOf_20 (by decide) ?_
      obtain rfl := ret1 h
      rw [hQ]
      exact g_reti hx hb hr hlk hW dX0_featuresOf_21
    · have h := ite_f c2 h
      refine lv_aload_n hx hb dX0_featuresOf_11 rfl (lv_at hl 0 rfl) ?_
      refine fg_X0_22 (v := .ref (a_o 3)) hx hb hts hown hK hW 0 rfl rfl dX0_featuresOf_12 ?_
      refine lv_iload_n hx hb dX0_featuresOf_15 rfl (lv_at hl 1 rfl) ?_
      obtain ⟨g3, h⟩ := grd_s h
      refine g_iald hx hb hK hW 3 rfl g3 dX0_featuresOf_16 ?_
      refine lv_goto (tgt := 21) hx hb dX0_featuresOf_17 (by decide) ?_
      obtain rfl := ret1 h
      rw [hQ]
      exact g_reti hx hb hr hlk hW dX0_featuresOf_21
set_option maxHeartbeats 4000000 in
set_option maxRecDepth 100000 in
theorem c_X0_priceOf (l : Launch) (D : va_G) (T : Nat → ClassId) (A : Nat → Prop) (a_o : Nat → Nat) (Z : va_W)  (x_o : Ob) (p1 : Int32) (r : Int32) (h : f_X0_priceOf x_o p1 = some r) : Met l yX0_priceOf (Cond.code yX0_priceOf cX0_priceOf 2 (some .int) :: wsL_law) (rmd 0) (Pg D T A (oc_X0 T a_o x_o ++ Z) [.ref (a_o 0), .int p1]) (Qgi D A (oc_X0 T a_o x_o ++ Z) r) 0 0 A := by
  refine Met.ofW (cc := cX0_priceOf) (maxL := 2) (ret := (some .int)) (by decide +kernel) rfl ?_
  intro p e s m args below meth c s₁ B hml hv
  obtain ⟨ha, hP, hK, hD, hN⟩ := hv
  have hx := B.exec
  have hb := B.bytes
  have hr := B.returns
  have hlk := B.notSynchronized
  have hts : ∀ w ∈ wsL_law, w.before args s = true := fun w hw => atoms_spec B.pre w (List.mem_cons_of_mem _ hw)
  have hown : s.vm.findClass RX0 = some m.cls := findClass_of_methodNamed B.named
  have hW : Wd D A s.heap (oc_X0 T a_o x_o ++ Z) s.heap [] := ⟨hP, hD, va_S.rf⟩
  have hl := lv_entry [.ref (a_o 0), .int p1] (n := 2) (Nat.le_of_ble_eq_true rfl)
  refine W.eq (en_eq ha) ?_
  generalize (lg_sl [.ref (a_o 0), .int p1] ++ List.replicate (2 - (lg_sl [.ref (a_o 0), .int p1]).length) Slot.unset).toArray = ls at hl ⊢
  have hl : lv_has ls 2 [(0, .ref (a_o 0)), (1, .int p1)] := hl
  clear hP hD B ha
  obtain ⟨Q, hQ⟩ : ∃ Q, Q = MQ below (Qgi D A (oc_X0 T a_o x_o ++ Z) r) args s 0 0 A := ⟨_, rfl⟩
  rw [← hQ]
  change W p l e (rmd 0) s m args below meth c s.heap [] 0 0 Q (F0 m 0 ls [])
  rw [f_X0_priceOf] at h
  suffices hm : ∀ (H : Heap) (locs : List Loc), Wd D A s.heap (oc_X0 T a_o x_o ++ Z) H locs → W p l e (rmd 0) s m args below meth c H locs 0 0 Q (F0 m 0 ls []) from hm _ _ hW
  intro H locs hW
  refine lv_iload_n hx hb dX0_priceOf_0 rfl (lv_at hl 1 rfl) ?_
  refine lv_if_lt (tgt := 20) hx hb dX0_priceOf_1 (by decide) (fun c1 => ?_) (fun c1 => ?_)
  · have h := ite_t c1 h
    refine lv_iconst (v := 0) hx hb dX0_priceOf_20 (by decide) ?_
    obtain rfl := ret1 h
    rw [hQ]
    exact g_reti hx hb hr hlk hW dX0_priceOf_21
  · have h := ite_f c1 h
    refine lv_iload_n hx hb dX0_priceOf_4 rfl (lv_at hl 1 rfl) ?_
    refine lv_sipush (v := 288) hx hb dX0_priceOf_5 (by decide) ?_
    refine lv_icmp_ge (tgt := 20) hx hb dX0_priceOf_8 (by decide) (fun c2 => ?_) (fun c2 => ?_)
    · have h := ite_t c2 h
      refine lv_iconst (v := 0) hx hb dX0_priceOf_20 (by decide) ?_
      obtain rfl := ret1 h
      rw [hQ]
      exact g_reti hx hb hr hlk hW dX0_priceOf_21
    · have h := ite_f c2 h
      refine lv_aload_n hx hb dX0_priceOf_11 rfl (lv_at hl 0 rfl) ?_
      refine fg_X0_25 (v := .ref (a_o 4)) hx hb hts hown hK hW 0 rfl rfl dX0_priceOf_12 ?_
      refine lv_iload_n hx hb dX0_priceOf_15 rfl (lv_at hl 1 rfl) ?_
      obtain ⟨g3, h⟩ := grd_s h
      refine g_iald hx hb hK hW 4 rfl g3 dX0_priceOf_16 ?_
      refine lv_goto (tgt := 21) hx hb dX0_priceOf_17 (by decide) ?_
      obtain rfl := ret1 h
      rw [hQ]
      exact g_reti hx hb hr hlk hW dX0_priceOf_21
set_option maxHeartbeats 4000000 in
set_option maxRecDepth 100000 in
theorem c_X0_ruleOf (l : Launch) (D : va_G) (T : Nat → ClassId) (A : Nat → Prop) (a_o : Nat → Nat) (Z : va_W)  (x_o : Ob) (p1 : Int32) (r : Int32) (h : f_X0_ruleOf x_o p1 = some r) : Met l yX0_ruleOf (Cond.code yX0_ruleOf cX0_ruleOf 2 (some .int) :: wsL_law) (rmd 0) (Pg D T A (oc_X0 T a_o x_o ++ Z) [.ref (a_o 0), .int p1]) (Qgi D A (oc_X0 T a_o x_o ++ Z) r) 0 0 A := by
  refine Met.ofW (cc := cX0_ruleOf) (maxL := 2) (ret := (some .int)) (by decide +kernel) rfl ?_
  intro p e s m args below meth c s₁ B hml hv
  obtain ⟨ha, hP, hK, hD, hN⟩ := hv
  have hx := B.exec
  have hb := B.bytes
  have hr := B.returns
  have hlk := B.notSynchronized
  have hts : ∀ w ∈ wsL_law, w.before args s = true := fun w hw => atoms_spec B.pre w (List.mem_cons_of_mem _ hw)
  have hown : s.vm.findClass RX0 = some m.cls := findClass_of_methodNamed B.named
  have hW : Wd D A s.heap (oc_X0 T a_o x_o ++ Z) s.heap [] := ⟨hP, hD, va_S.rf⟩
  have hl := lv_entry [.ref (a_o 0), .int p1] (n := 2) (Nat.le_of_ble_eq_true rfl)
  refine W.eq (en_eq ha) ?_
  generalize (lg_sl [.ref (a_o 0), .int p1] ++ List.replicate (2 - (lg_sl [.ref (a_o 0), .int p1]).length) Slot.unset).toArray = ls at hl ⊢
  have hl : lv_has ls 2 [(0, .ref (a_o 0)), (1, .int p1)] := hl
  clear hP hD B ha
  obtain ⟨Q, hQ⟩ : ∃ Q, Q = MQ below (Qgi D A (oc_X0 T a_o x_o ++ Z) r) args s 0 0 A := ⟨_, rfl⟩
  rw [← hQ]
  change W p l e (rmd 0) s m args below meth c s.heap [] 0 0 Q (F0 m 0 ls [])
  rw [f_X0_ruleOf] at h
  suffices hm : ∀ (H : Heap) (locs : List Loc), Wd D A s.heap (oc_X0 T a_o x_o ++ Z) H locs → W p l e (rmd 0) s m args below meth c H locs 0 0 Q (F0 m 0 ls []) from hm _ _ hW
  intro H locs hW
  refine lv_iload_n hx hb dX0_ruleOf_0 rfl (lv_at hl 1 rfl) ?_
  refine lv_if_lt (tgt := 20) hx hb dX0_ruleOf_1 (by decide) (fun c1 => ?_) (fun c1 => ?_)
  · have h := ite_t c1 h
    refine lv_iconst (v := (-1)) hx hb dX0_ruleOf_20 (by decide) ?_
    obtain rfl := ret1 h
    rw [hQ]
    exact g_reti hx hb hr hlk hW dX0_ruleOf_21
  · have h := ite_f c1 h
    refine lv_iload_n hx hb dX0_ruleOf_4 rfl (lv_at hl 1 rfl) ?_
    refine lv_sipush (v := 288) hx hb dX0_ruleOf_5 (by decide) ?_
    refine lv_icmp_ge (tgt := 20) hx hb dX0_ruleOf_8 (by decide) (fun c2 => ?_) (fun c2 => ?_)
    · have h := ite_t c2 h
      refine lv_iconst (v := (-1)) hx hb dX0_ruleOf_20 (by decide) ?_
      obtain rfl := ret1 h
      rw [hQ]
      exact g_reti hx hb hr hlk hW dX0_ruleOf_21
    · have h := ite_f c2 h
      refine lv_aload_n hx hb dX0_ruleOf_11 rfl (lv_at hl 0 rfl) ?_
      refine fg_X0_28 (v := .ref (a_o 5)) hx hb hts hown hK hW 0 rfl rfl dX0_ruleOf_12 ?_
      refine lv_iload_n hx hb dX0_ruleOf_15 rfl (lv_at hl 1 rfl) ?_
      obtain ⟨g3, h⟩ := grd_s h
      refine g_iald hx hb hK hW 5 rfl g3 dX0_ruleOf_16 ?_
      refine lv_goto (tgt := 21) hx hb dX0_ruleOf_17 (by decide) ?_
      obtain rfl := ret1 h
      rw [hQ]
      exact g_reti hx hb hr hlk hW dX0_ruleOf_21
set_option maxHeartbeats 4000000 in
set_option maxRecDepth 100000 in
theorem c_X0_partOf (l : Launch) (D : va_G) (T : Nat → ClassId) (A : Nat → Prop) (a_o : Nat → Nat) (Z : va_W)  (x_o : Ob) (p1 : Int32) (p2 : Int32) (r : Int32) (h : f_X0_partOf x_o p1 p2 = some r) : Met l yX0_partOf (Cond.code yX0_partOf cX0_partOf 3 (some .int) :: wsL_law) (rmd 0) (Pg D T A (oc_X0 T a_o x_o ++ Z) [.ref (a_o 0), .int p1, .int p2]) (Qgi D A (oc_X0 T a_o x_o ++ Z) r) 0 0 A := by
  refine Met.ofW (cc := cX0_partOf) (maxL := 3) (ret := (some .int)) (by decide +kernel) rfl ?_
  intro p e s m args below meth c s₁ B hml hv
  obtain ⟨ha, hP, hK, hD, hN⟩ := hv
  have hx := B.exec
  have hb := B.bytes
  have hr := B.returns
  have hlk := B.notSynchronized
  have hts : ∀ w ∈ wsL_law, w.before args s = true := fun w hw => atoms_spec B.pre w (List.mem_cons_of_mem _ hw)
  have hown : s.vm.findClass RX0 = some m.cls := findClass_of_methodNamed B.named
  have hW : Wd D A s.heap (oc_X0 T a_o x_o ++ Z) s.heap [] := ⟨hP, hD, va_S.rf⟩
  have hl := lv_entry [.ref (a_o 0), .int p1, .int p2] (n := 3) (Nat.le_of_ble_eq_true rfl)
  refine W.eq (en_eq ha) ?_
  generalize (lg_sl [.ref (a_o 0), .int p1, .int p2] ++ List.replicate (3 - (lg_sl [.ref (a_o 0), .int p1, .int p2]).length) Slot.unset).toArray = ls at hl ⊢
  have hl : lv_has ls 3 [(0, .ref (a_o 0)), (1, .int p1), (2, .int p2)] := hl
  clear hP hD B ha
  obtain ⟨Q, hQ⟩ : ∃ Q, Q = MQ below (Qgi D A (oc_X0 T a_o x_o ++ Z) r) args s 0 0 A := ⟨_, rfl⟩
  rw [← hQ]
  change W p l e (rmd 0) s m args below meth c s.heap [] 0 0 Q (F0 m 0 ls [])
  rw [f_X0_partOf] at h
  suffices hm : ∀ (H : Heap) (locs : List Loc), Wd D A s.heap (oc_X0 T a_o x_o ++ Z) H locs → W p l e (rmd 0) s m args below meth c H locs 0 0 Q (F0 m 0 ls []) from hm _ _ hW
  intro H locs hW
  refine lv_iload_n hx hb dX0_partOf_0 rfl (lv_at hl 1 rfl) ?_
  refine lv_if_lt (tgt := 21) hx hb dX0_partOf_1 (by decide) (fun c1 => ?_) (fun c1 => ?_)
  · have h := ite_t c1 h
    refine lv_iconst (v := (-1)) hx hb dX0_partOf_21 (by decide) ?_
    obtain rfl := ret1 h
    rw [hQ]
    exact g_reti hx hb hr hlk hW dX0_partOf_22
  · have h := ite_f c1 h
    refine lv_iload_n hx hb dX0_partOf_4 rfl (lv_at hl 1 rfl) ?_
    refine lv_sipush (v := 288) hx hb dX0_partOf_5 (by decide) ?_
    refine lv_icmp_ge (tgt := 21) hx hb dX0_partOf_8 (by decide) (fun c2 => ?_) (fun c2 => ?_)
    · have h := ite_t c2 h
      refine lv_iconst (v := (-1)) hx hb dX0_partOf_21 (by decide) ?_
      obtain rfl := ret1 h
      rw [hQ]
      exact g_reti hx hb hr hlk hW dX0_partOf_22
    · have h := ite_f c2 h
      refine lv_aload_n hx hb dX0_partOf_11 rfl (lv_at hl 0 rfl) ?_
      refine fg_X0_28 (v := .ref (a_o 5)) hx hb hts hown hK hW 0 rfl rfl dX0_partOf_12 ?_
      refine lv_iload_n hx hb dX0_partOf_15 rfl (lv_at hl 1 rfl) ?_
      obtain ⟨g3, h⟩ := grd_s h
      refine g_iald hx hb hK hW 5 rfl g3 dX0_partOf_16 ?_
      refine lv_iconst (v := (-1)) hx hb dX0_partOf_17 (by decide) ?_
      refine lv_icmp_ne (tgt := 23) hx hb dX0_partOf_18 (by decide) (fun c4 => ?_) (fun c4 => ?_)
      · have h := ite_f c4 h
        refine lv_iload_n hx hb dX0_partOf_23 rfl (lv_at hl 2 rfl) ?_
        refine lv_iconst (v := 2) hx hb dX0_partOf_24 (by decide) ?_
        refine lv_icmp_ne (tgt := 37) hx hb dX0_partOf_25 (by decide) (fun c5 => ?_) (fun c5 => ?_)
        · have h := ite_f c5 h
          refine lv_aload_n hx hb dX0_partOf_37 rfl (lv_at hl 0 rfl) ?_
          refine fg_X0_31 (v := .ref (a_o 6)) hx hb hts hown hK hW 0 rfl rfl dX0_partOf_38 ?_
          refine lv_iload_n hx hb dX0_partOf_41 rfl (lv_at hl 1 rfl) ?_
          obtain ⟨g6, h⟩ := grd_s h
          refine g_iald hx hb hK hW 6 rfl g6 dX0_partOf_42 ?_
          obtain rfl := ret1 h
          rw [hQ]
          exact g_reti hx hb hr hlk hW dX0_partOf_43
        · have h := ite_t c5 h
          refine lv_aload_n hx hb dX0_partOf_28 rfl (lv_at hl 0 rfl) ?_
          refine fg_X0_34 (v := .ref (a_o 7)) hx hb hts hown hK hW 0 rfl rfl dX0_partOf_29 ?_
          refine lv_iload_n hx hb dX0_partOf_32 rfl (lv_at hl 1 rfl) ?_
          obtain ⟨g7, h⟩ := grd_s h
          refine g_iald hx hb hK hW 7 rfl g7 dX0_partOf_33 ?_
          refine lv_goto (tgt := 43) hx hb dX0_partOf_34 (by decide) ?_
          obtain rfl := ret1 h
          rw [hQ]
          exact g_reti hx hb hr hlk hW dX0_partOf_43
      · have h := ite_t c4 h
        refine lv_iconst (v := (-1)) hx hb dX0_partOf_21 (by decide) ?_
        obtain rfl := ret1 h
        rw [hQ]
        exact g_reti hx hb hr hlk hW dX0_partOf_22
set_option maxHeartbeats 4000000 in
set_option maxRecDepth 100000 in
theorem c_X0_readingOf (l : Launch) (D : va_G) (T : Nat → ClassId) (A : Nat → Prop) (a_o : Nat → Nat) (Z : va_W)  (x_o : Ob) (p1 : Int32) (r : Int32) (h : f_X0_readingOf x_o p1 = some r) : Met l yX0_readingOf (Cond.code yX0_readingOf cX0_readingOf 2 (some .int) :: wsL_law) (rmd 0) (Pg D T A (oc_X0 T a_o x_o ++ Z) [.ref (a_o 0), .int p1]) (Qgi D A (oc_X0 T a_o x_o ++ Z) r) 0 0 A := by
  refine Met.ofW (cc := cX0_readingOf) (maxL := 2) (ret := (some .int)) (by decide +kernel) rfl ?_
  intro p e s m args below meth c s₁ B hml hv
  obtain ⟨ha, hP, hK, hD, hN⟩ := hv
  have hx := B.exec
  have hb := B.bytes
  have hr := B.returns
  have hlk := B.notSynchronized
  have hts : ∀ w ∈ wsL_law, w.before args s = true := fun w hw => atoms_spec B.pre w (List.mem_cons_of_mem _ hw)
  have hown : s.vm.findClass RX0 = some m.cls := findClass_of_methodNamed B.named
  have hW : Wd D A s.heap (oc_X0 T a_o x_o ++ Z) s.heap [] := ⟨hP, hD, va_S.rf⟩
  have hl := lv_entry [.ref (a_o 0), .int p1] (n := 2) (Nat.le_of_ble_eq_true rfl)
  refine W.eq (en_eq ha) ?_
  generalize (lg_sl [.ref (a_o 0), .int p1] ++ List.replicate (2 - (lg_sl [.ref (a_o 0), .int p1]).length) Slot.unset).toArray = ls at hl ⊢
  have hl : lv_has ls 2 [(0, .ref (a_o 0)), (1, .int p1)] := hl
  clear hP hD B ha
  obtain ⟨Q, hQ⟩ : ∃ Q, Q = MQ below (Qgi D A (oc_X0 T a_o x_o ++ Z) r) args s 0 0 A := ⟨_, rfl⟩
  rw [← hQ]
  change W p l e (rmd 0) s m args below meth c s.heap [] 0 0 Q (F0 m 0 ls [])
  rw [f_X0_readingOf] at h
  suffices hm : ∀ (H : Heap) (locs : List Loc), Wd D A s.heap (oc_X0 T a_o x_o ++ Z) H locs → W p l e (rmd 0) s m args below meth c H locs 0 0 Q (F0 m 0 ls []) from hm _ _ hW
  intro H locs hW
  refine lv_iload_n hx hb dX0_readingOf_0 rfl (lv_at hl 1 rfl) ?_
  refine lv_if_lt (tgt := 30) hx hb dX0_readingOf_1 (by decide) (fun c1 => ?_) (fun c1 => ?_)
  · have h := ite_t c1 h
    refine lv_iconst (v := (-1)) hx hb dX0_readingOf_30 (by decide) ?_
    obtain rfl := ret1 h
    rw [hQ]
    exact g_reti hx hb hr hlk hW dX0_readingOf_31
  · have h := ite_f c1 h
    refine lv_iload_n hx hb dX0_readingOf_4 rfl (lv_at hl 1 rfl) ?_
    refine lv_sipush (v := 288) hx hb dX0_readingOf_5 (by decide) ?_
    refine lv_icmp_ge (tgt := 30) hx hb dX0_readingOf_8 (by decide) (fun c2 => ?_) (fun c2 => ?_)
    · have h := ite_t c2 h
      refine lv_iconst (v := (-1)) hx hb dX0_readingOf_30 (by decide) ?_
      obtain rfl := ret1 h
      rw [hQ]
      exact g_reti hx hb hr hlk hW dX0_readingOf_31
    · have h := ite_f c2 h
      refine lv_aload_n hx hb dX0_readingOf_11 rfl (lv_at hl 0 rfl) ?_
      refine fg_X0_28 (v := .ref (a_o 5)) hx hb hts hown hK hW 0 rfl rfl dX0_readingOf_12 ?_
      refine lv_iload_n hx hb dX0_readingOf_15 rfl (lv_at hl 1 rfl) ?_
      obtain ⟨g3, h⟩ := grd_s h
      refine g_iald hx hb hK hW 5 rfl g3 dX0_readingOf_16 ?_
      refine lv_iconst (v := (-1)) hx hb dX0_readingOf_17 (by decide) ?_
      refine lv_icmp_ne (tgt := 30) hx hb dX0_readingOf_18 (by decide) (fun c4 => ?_) (fun c4 => ?_)
      · have h := ite_f c4 h
        refine lv_iconst (v := (-1)) hx hb dX0_readingOf_30 (by decide) ?_
        obtain rfl := ret1 h
        rw [hQ]
        exact g_reti hx hb hr hlk hW dX0_readingOf_31
      · have h := ite_t c4 h
        refine lv_aload_n hx hb dX0_readingOf_21 rfl (lv_at hl 0 rfl) ?_
        refine fg_X0_31 (v := .ref (a_o 6)) hx hb hts hown hK hW 0 rfl rfl dX0_readingOf_22 ?_
        refine lv_iload_n hx hb dX0_readingOf_25 rfl (lv_at hl 1 rfl) ?_
        obtain ⟨g5, h⟩ := grd_s h
        refine g_iald hx hb hK hW 6 rfl g5 dX0_readingOf_26 ?_
        refine lv_goto (tgt := 31) hx hb dX0_readingOf_27 (by decide) ?_
        obtain rfl := ret1 h
        rw [hQ]
        exact g_reti hx hb hr hlk hW dX0_readingOf_31
set_option maxHeartbeats 4000000 in
set_option maxRecDepth 100000 in
theorem c_X2_headOf (l : Launch) (D : va_G) (T : Nat → ClassId) (A : Nat → Prop) (a_o : Nat → Nat) (Z : va_W)  (x_o : Ob) (p1 : Int32) (r : Int32) (h : f_X2_headOf x_o p1 = some r) : Met l yX2_headOf (Cond.code yX2_headOf cX2_headOf 2 (some .int) :: wsL_law) (rmd 0) (Pg D T A (oc_X2 T a_o x_o ++ Z) [.ref (a_o 0), .int p1]) (Qgi D A (oc_X2 T a_o x_o ++ Z) r) 0 0 A := by
  refine Met.ofW (cc := cX2_headOf) (maxL := 2) (ret := (some .int)) (by decide +kernel) rfl ?_
  intro p e s m args below meth c s₁ B hml hv
  obtain ⟨ha, hP, hK, hD, hN⟩ := hv
  have hx := B.exec
  have hb := B.bytes
  have hr := B.returns
  have hlk := B.notSynchronized
  have hts : ∀ w ∈ wsL_law, w.before args s = true := fun w hw => atoms_spec B.pre w (List.mem_cons_of_mem _ hw)
  have hown : s.vm.findClass RX2 = some m.cls := findClass_of_methodNamed B.named
  have hW : Wd D A s.heap (oc_X2 T a_o x_o ++ Z) s.heap [] := ⟨hP, hD, va_S.rf⟩
  have hl := lv_entry [.ref (a_o 0), .int p1] (n := 2) (Nat.le_of_ble_eq_true rfl)
  refine W.eq (en_eq ha) ?_
  generalize (lg_sl [.ref (a_o 0), .int p1] ++ List.replicate (2 - (lg_sl [.ref (a_o 0), .int p1]).length) Slot.unset).toArray = ls at hl ⊢
  have hl : lv_has ls 2 [(0, .ref (a_o 0)), (1, .int p1)] := hl
  clear hP hD B ha
  obtain ⟨Q, hQ⟩ : ∃ Q, Q = MQ below (Qgi D A (oc_X2 T a_o x_o ++ Z) r) args s 0 0 A := ⟨_, rfl⟩
  rw [← hQ]
  change W p l e (rmd 0) s m args below meth c s.heap [] 0 0 Q (F0 m 0 ls [])
  rw [f_X2_headOf] at h
  suffices hm : ∀ (H : Heap) (locs : List Loc), Wd D A s.heap (oc_X2 T a_o x_o ++ Z) H locs → W p l e (rmd 0) s m args below meth c H locs 0 0 Q (F0 m 0 ls []) from hm _ _ hW
  intro H locs hW
  refine lv_iload_n hx hb dX2_headOf_0 rfl (lv_at hl 1 rfl) ?_
  refine lv_if_lt (tgt := 21) hx hb dX2_headOf_1 (by decide) (fun c1 => ?_) (fun c1 => ?_)
  · have h := ite_t c1 h
    refine lv_iconst (v := 1) hx hb dX2_headOf_21 (by decide) ?_
    obtain rfl := ret1 h
    rw [hQ]
    exact g_reti hx hb hr hlk hW dX2_headOf_22
  · have h := ite_f c1 h
    refine lv_iload_n hx hb dX2_headOf_4 rfl (lv_at hl 1 rfl) ?_
    refine lv_aload_n hx hb dX2_headOf_5 rfl (lv_at hl 0 rfl) ?_
    refine fg_X2_9 (v := .int (x_o 0 0)) hx hb hts hown hK hW 0 rfl rfl dX2_headOf_6 ?_
    refine lv_icmp_ge (tgt := 21) hx hb dX2_headOf_9 (by decide) (fun c2 => ?_) (fun c2 => ?_)
    · have h := ite_t c2 h
      refine lv_iconst (v := 1) hx hb dX2_headOf_21 (by decide) ?_
      obtain rfl := ret1 h
      rw [hQ]
      exact g_reti hx hb hr hlk hW dX2_headOf_22
    · have h := ite_f c2 h
      refine lv_aload_n hx hb dX2_headOf_12 rfl (lv_at hl 0 rfl) ?_
      refine fg_X2_25 (v := .ref (a_o 4)) hx hb hts hown hK hW 0 rfl rfl dX2_headOf_13 ?_
      refine lv_iload_n hx hb dX2_headOf_16 rfl (lv_at hl 1 rfl) ?_
      obtain ⟨g3, h⟩ := grd_s h
      refine g_iald hx hb hK hW 4 rfl g3 dX2_headOf_17 ?_
      refine lv_goto (tgt := 22) hx hb dX2_headOf_18 (by decide) ?_
      obtain rfl := ret1 h
      rw [hQ]
      exact g_reti hx hb hr hlk hW dX2_headOf_22
set_option maxHeartbeats 4000000 in
set_option maxRecDepth 100000 in
theorem c_X0_headOf (l : Launch) (D : va_G) (T : Nat → ClassId) (A : Nat → Prop) (a_o : Nat → Nat) (a_q2 : Nat → Nat) (Z : va_W)  (x_o : Ob) (x_q2 : Ob) (p1 : Int32) (r : Int32) (h : f_X0_headOf x_o x_q2 p1 = some r) : Met l yX0_headOf (Cond.code yX0_headOf cX0_headOf 5 (some .int) :: wsL_law) (rmd 1) (Pg D T A (oc_X0 T a_o x_o ++ (oc_X2 T a_q2 x_q2 ++ Z)) [.ref (a_o 0), .int p1, .ref (a_q2 0)]) (Qgi D A (oc_X0 T a_o x_o ++ (oc_X2 T a_q2 x_q2 ++ Z)) r) 0 0 A := by
  refine Met.ofW (cc := cX0_headOf) (maxL := 5) (ret := (some .int)) (by decide +kernel) rfl ?_
  intro p e s m args below meth c s₁ B hml hv
  obtain ⟨ha, hP, hK, hD, hN⟩ := hv
  have hx := B.exec
  have hb := B.bytes
  have hr := B.returns
  have hlk := B.notSynchronized
  have hts : ∀ w ∈ wsL_law, w.before args s = true := fun w hw => atoms_spec B.pre w (List.mem_cons_of_mem _ hw)
  have hown : s.vm.findClass RX0 = some m.cls := findClass_of_methodNamed B.named
  have hW : Wd D A s.heap (oc_X0 T a_o x_o ++ (oc_X2 T a_q2 x_q2 ++ Z)) s.heap [] := ⟨hP, hD, va_S.rf⟩
  have hl := lv_entry [.ref (a_o 0), .int p1, .ref (a_q2 0)] (n := 5) (Nat.le_of_ble_eq_true rfl)
  refine W.eq (en_eq ha) ?_
  generalize (lg_sl [.ref (a_o 0), .int p1, .ref (a_q2 0)] ++ List.replicate (5 - (lg_sl [.ref (a_o 0), .int p1, .ref (a_q2 0)]).length) Slot.unset).toArray = ls at hl ⊢
  have hl : lv_has ls 5 [(0, .ref (a_o 0)), (1, .int p1), (2, .ref (a_q2 0))] := hl
  clear hP hD B ha
  obtain ⟨Q, hQ⟩ : ∃ Q, Q = MQ below (Qgi D A (oc_X0 T a_o x_o ++ (oc_X2 T a_q2 x_q2 ++ Z)) r) args s 0 0 A := ⟨_, rfl⟩
  rw [← hQ]
  change W p l e (rmd 1) s m args below meth c s.heap [] 0 0 Q (F0 m 0 ls [])
  have L5 : ∀ (n : Nat) (v3_5 : Int32) (v4_5 : Int32) (H : Heap) (locs : List Loc) (ls : Array Slot) (o3_5r : Int32) (o4_5r : Int32), Wd D A s.heap (oc_X0 T a_o x_o ++ (oc_X2 T a_q2 x_q2 ++ Z)) H locs → lv_has ls 5 [(0, .ref (a_o 0)), (2, .ref (a_q2 0)), (3, .int v3_5), (4, .int v4_5)] → f_X0_headOf_L5 n x_o x_q2 v3_5 v4_5 = some (o3_5r, o4_5r) → (∀ (H : Heap) (locs : List Loc) (ls : Array Slot), Wd D A s.heap (oc_X0 T a_o x_o ++ (oc_X2 T a_q2 x_q2 ++ Z)) H locs → lv_has ls 5 [(3, .int o3_5r)] → W p l e (rmd 1) s m args below meth c H locs 0 0 Q (F0 m 43 ls [])) → W p l e (rmd 1) s m args below meth c H locs 0 0 Q (F0 m 5 ls []) := by
    intro n
    induction n with
    | zero =>
      intro v3_5 v4_5 H locs ls o3_5r o4_5r hW hl h k1
      rw [f_X0_headOf_L5] at h
      cases h
    | succ n ih =>
      intro v3_5 v4_5 H locs ls o3_5r o4_5r hW hl h k1
      rw [f_X0_headOf_L5] at h
      refine lv_iload hx hb dX0_headOf_5 (lv_at hl 3 rfl) ?_
      refine lv_sipush (v := 128) hx hb dX0_headOf_7 (by decide) ?_
      refine lv_icmp_ge (tgt := 43) hx hb dX0_headOf_10 (by decide) (fun c1 => ?_) (fun c1 => ?_)
      · have h := ite_t c1 h
        obtain ⟨rfl, rfl⟩ := ret2 h
        exact k1 H locs ls hW (lv_sub hl [2] rfl)
      · have h := ite_f c1 h
        refine lv_aload_n hx hb dX0_headOf_13 rfl (lv_at hl 0 rfl) ?_
        refine lv_iload_n hx hb dX0_headOf_14 rfl (lv_at hl 2 rfl) ?_
        obtain ⟨r2, q3, h⟩ := bnd1_s h
        refine cl_X0_40 hx hb hml hown hts hK hN hW (c_X0_ruleOf l D T A a_o (oc_X2 T a_q2 x_q2 ++ Z) x_o v3_5 r2 q3) ⟨Nat.le_of_ble_eq_true rfl, Nat.le_of_ble_eq_true rfl⟩ hl.1 rfl (Nat.le_of_ble_eq_true rfl) dX0_headOf_15 ⟨Nat.zero_le _, Nat.zero_le _⟩ rfl (fun H locs hW => ?_)
        refine lv_iconst (v := (-1)) hx hb dX0_headOf_18 (by decide) ?_
        refine lv_icmp_eq (tgt := 43) hx hb dX0_headOf_19 (by decide) (fun c4 => ?_) (fun c4 => ?_)
        · have h := ite_t c4 h
          obtain ⟨rfl, rfl⟩ := ret2 h
          exact k1 H locs ls hW (lv_sub hl [2] rfl)
        · have h := ite_f c4 h
          refine lv_aload_n hx hb dX0_headOf_22 rfl (lv_at hl 0 rfl) ?_
          refine lv_iload_n hx hb dX0_headOf_23 rfl (lv_at hl 2 rfl) ?_
          refine lv_aload_n hx hb dX0_headOf_24 rfl (lv_at hl 1 rfl) ?_
          refine lv_aload_n hx hb dX0_headOf_25 rfl (lv_at hl 0 rfl) ?_
          refine lv_iload_n hx hb dX0_headOf_26 rfl (lv_at hl 2 rfl) ?_
          obtain ⟨r5, q6, h⟩ := bnd1_s h
          refine cl_X0_40 hx hb hml hown hts hK hN hW (c_X0_ruleOf l D T A a_o (oc_X2 T a_q2 x_q2 ++ Z) x_o v3_5 r5 q6) ⟨Nat.le_of_ble_eq_true rfl, Nat.le_of_ble_eq_true rfl⟩ hl.1 rfl (Nat.le_of_ble_eq_true rfl) dX0_headOf_27 ⟨Nat.zero_le _, Nat.zero_le _⟩ rfl (fun H locs hW => ?_)
          have hW := hW.perm pf1
          obtain ⟨r7, q8, h⟩ := bnd1_s h
          refine cl_X0_44 hx hb hml hown hts hK hN hW (c_X2_headOf l D T A a_q2 (oc_X0 T a_o x_o ++ Z) x_q2 r5 r7 q8) ⟨Nat.le_of_ble_eq_true rfl, Nat.le_of_ble_eq_true rfl⟩ hl.1 rfl (Nat.le_of_ble_eq_true rfl) dX0_headOf_30 ⟨Nat.zero_le _, Nat.zero_le _⟩ rfl (fun H locs hW => ?_)
          have hW := hW.perm pf1
          obtain ⟨r9, q10, h⟩ := bnd1_s h
          refine cl_X0_49 hx hb hml hown hts hK hN hW (c_X0_partOf l D T A a_o (oc_X2 T a_q2 x_q2 ++ Z) x_o v3_5 r7 r9 q10) ⟨Nat.le_of_ble_eq_true rfl, Nat.le_of_ble_eq_true rfl⟩ hl.1 rfl (Nat.le_of_ble_eq_true rfl) dX0_headOf_33 ⟨Nat.zero_le _, Nat.zero_le _⟩ rfl (fun H locs hW => ?_)
          refine lv_istore_n (lv' := [(3, .int r9), (0, .ref (a_o 0)), (2, .ref (a_q2 0)), (4, .int v4_5)]) hx hb dX0_headOf_36 rfl hl (by decide) rfl (fun ls hl => ?_)
          obtain ⟨w4_11, ew4_11⟩ : ∃ y : Int32, y = v4_5 + 1 := ⟨_, rfl⟩
          have h := lb_at ew4_11 h
          refine lv_iinc (v := w4_11) (lv' := [(4, .int w4_11), (3, .int r9), (0, .ref (a_o 0)), (2, .ref (a_q2 0))]) hx hb dX0_headOf_37 hl (k := 3) rfl (by rw [ew4_11]; rfl) (by decide) rfl (fun ls hl => ?_)
          refine lv_goto (tgt := 5) hx hb dX0_headOf_40 (by decide) ?_
          exact ih _ _ H locs ls _ _ hW (lv_sub hl [2, 3, 1, 0] rfl) h k1
  rw [f_X0_headOf] at h
  suffices hm : ∀ (H : Heap) (locs : List Loc), Wd D A s.heap (oc_X0 T a_o x_o ++ (oc_X2 T a_q2 x_q2 ++ Z)) H locs → W p l e (rmd 1) s m args below meth c H locs 0 0 Q (F0 m 0 ls []) from hm _ _ hW
  intro H locs hW
  refine lv_iload_n hx hb dX0_headOf_0 rfl (lv_at hl 1 rfl) ?_
  refine lv_istore_n (lv' := [(3, .int p1), (0, .ref (a_o 0)), (1, .int p1), (2, .ref (a_q2 0))]) hx hb dX0_headOf_1 rfl hl (by decide) rfl (fun ls hl => ?_)
  refine lv_iconst (v := 0) hx hb dX0_headOf_2 (by decide) ?_
  refine lv_istore (lv' := [(4, .int 0), (3, .int p1), (0, .ref (a_o 0)), (1, .int p1), (2, .ref (a_q2 0))]) hx hb dX0_headOf_3 hl (by decide) rfl (fun ls hl => ?_)
  obtain ⟨o3_u12, o4_u12, q13, h⟩ := bnd2_s h
  refine L5 200 _ _ H locs ls o3_u12 o4_u12 hW (lv_sub hl [2, 4, 1, 0] rfl) q13 (fun H locs ls hW hl => ?_)
  refine lv_iload_n hx hb dX0_headOf_43 rfl (lv_at hl 0 rfl) ?_
  obtain rfl := ret1 h
  rw [hQ]
  exact g_reti hx hb hr hlk hW dX0_headOf_44
set_option maxHeartbeats 4000000 in
set_option maxRecDepth 100000 in
theorem c_X10_isBelow (l : Launch) (D : va_G) (T : Nat → ClassId) (A : Nat → Prop)  (Z : va_W)  (p1 : Int32) (p2 : Int32) (r : Int32) (h : f_X10_isBelow p1 p2 = some r) : Met l yX10_isBelow (Cond.code yX10_isBelow cX10_isBelow 2 (some .boolean) :: wsL_law) (rmd 0) (Pg D T A (Z) [.int p1, .int p2]) (Qgi D A (Z) r) 0 0 A := by
  refine Met.ofW (cc := cX10_isBelow) (maxL := 2) (ret := (some .boolean)) (by decide +kernel) rfl ?_
  intro p e s m args below meth c s₁ B hml hv
  obtain ⟨ha, hP, hK, hD, hN⟩ := hv
  have hx := B.exec
  have hb := B.bytes
  have hr := B.returns
  have hlk := B.notSynchronized
  have hts : ∀ w ∈ wsL_law, w.before args s = true := fun w hw => atoms_spec B.pre w (List.mem_cons_of_mem _ hw)
  have hown : s.vm.findClass RX10 = some m.cls := findClass_of_methodNamed B.named
  have hW : Wd D A s.heap (Z) s.heap [] := ⟨hP, hD, va_S.rf⟩
  have hl := lv_entry [.int p1, .int p2] (n := 2) (Nat.le_of_ble_eq_true rfl)
  refine W.eq (en_eq ha) ?_
  generalize (lg_sl [.int p1, .int p2] ++ List.replicate (2 - (lg_sl [.int p1, .int p2]).length) Slot.unset).toArray = ls at hl ⊢
  have hl : lv_has ls 2 [(0, .int p1), (1, .int p2)] := hl
  clear hP hD B ha
  obtain ⟨Q, hQ⟩ : ∃ Q, Q = MQ below (Qgi D A (Z) r) args s 0 0 A := ⟨_, rfl⟩
  rw [← hQ]
  change W p l e (rmd 0) s m args below meth c s.heap [] 0 0 Q (F0 m 0 ls [])
  rw [f_X10_isBelow] at h
  suffices hm : ∀ (H : Heap) (locs : List Loc), Wd D A s.heap (Z) H locs → W p l e (rmd 0) s m args below meth c H locs 0 0 Q (F0 m 0 ls []) from hm _ _ hW
  intro H locs hW
  refine lv_iload_n hx hb dX10_isBelow_0 rfl (lv_at hl 0 rfl) ?_
  refine lv_if_lt (tgt := 13) hx hb dX10_isBelow_1 (by decide) (fun c1 => ?_) (fun c1 => ?_)
  · have h := ite_t c1 h
    refine lv_iconst (v := 0) hx hb dX10_isBelow_13 (by decide) ?_
    obtain rfl := ret1 h
    rw [hQ]
    exact g_retz hx hb hr hlk hW (by decide) dX10_isBelow_14
  · have h := ite_f c1 h
    refine lv_iload_n hx hb dX10_isBelow_4 rfl (lv_at hl 0 rfl) ?_
    refine lv_iload_n hx hb dX10_isBelow_5 rfl (lv_at hl 1 rfl) ?_
    refine lv_icmp_ge (tgt := 13) hx hb dX10_isBelow_6 (by decide) (fun c2 => ?_) (fun c2 => ?_)
    · have h := ite_t c2 h
      refine lv_iconst (v := 0) hx hb dX10_isBelow_13 (by decide) ?_
      obtain rfl := ret1 h
      rw [hQ]
      exact g_retz hx hb hr hlk hW (by decide) dX10_isBelow_14
    · have h := ite_f c2 h
      refine lv_iconst (v := 1) hx hb dX10_isBelow_9 (by decide) ?_
      refine lv_goto (tgt := 14) hx hb dX10_isBelow_10 (by decide) ?_
      obtain rfl := ret1 h
      rw [hQ]
      exact g_retz hx hb hr hlk hW (by decide) dX10_isBelow_14
set_option maxHeartbeats 4000000 in
set_option maxRecDepth 100000 in
theorem c_X0_relaxedBits (l : Launch) (D : va_G) (T : Nat → ClassId) (A : Nat → Prop) (a_o : Nat → Nat) (Z : va_W)  (x_o : Ob) (p1 : Int32) (p2 : Int32) (r : Int32) (h : f_X0_relaxedBits x_o p1 p2 = some r) : Met l yX0_relaxedBits (Cond.code yX0_relaxedBits cX0_relaxedBits 3 (some .int) :: wsL_law) (rmd 1) (Pg D T A (oc_X0 T a_o x_o ++ Z) [.ref (a_o 0), .int p1, .int p2]) (Qgi D A (oc_X0 T a_o x_o ++ Z) r) 0 0 A := by
  refine Met.ofW (cc := cX0_relaxedBits) (maxL := 3) (ret := (some .int)) (by decide +kernel) rfl ?_
  intro p e s m args below meth c s₁ B hml hv
  obtain ⟨ha, hP, hK, hD, hN⟩ := hv
  have hx := B.exec
  have hb := B.bytes
  have hr := B.returns
  have hlk := B.notSynchronized
  have hts : ∀ w ∈ wsL_law, w.before args s = true := fun w hw => atoms_spec B.pre w (List.mem_cons_of_mem _ hw)
  have hown : s.vm.findClass RX0 = some m.cls := findClass_of_methodNamed B.named
  have hW : Wd D A s.heap (oc_X0 T a_o x_o ++ Z) s.heap [] := ⟨hP, hD, va_S.rf⟩
  have hl := lv_entry [.ref (a_o 0), .int p1, .int p2] (n := 3) (Nat.le_of_ble_eq_true rfl)
  refine W.eq (en_eq ha) ?_
  generalize (lg_sl [.ref (a_o 0), .int p1, .int p2] ++ List.replicate (3 - (lg_sl [.ref (a_o 0), .int p1, .int p2]).length) Slot.unset).toArray = ls at hl ⊢
  have hl : lv_has ls 3 [(0, .ref (a_o 0)), (1, .int p1), (2, .int p2)] := hl
  clear hP hD B ha
  obtain ⟨Q, hQ⟩ : ∃ Q, Q = MQ below (Qgi D A (oc_X0 T a_o x_o ++ Z) r) args s 0 0 A := ⟨_, rfl⟩
  rw [← hQ]
  change W p l e (rmd 1) s m args below meth c s.heap [] 0 0 Q (F0 m 0 ls [])
  rw [f_X0_relaxedBits] at h
  suffices hm : ∀ (H : Heap) (locs : List Loc), Wd D A s.heap (oc_X0 T a_o x_o ++ Z) H locs → W p l e (rmd 1) s m args below meth c H locs 0 0 Q (F0 m 0 ls []) from hm _ _ hW
  intro H locs hW
  refine lv_iload_n hx hb dX0_relaxedBits_0 rfl (lv_at hl 1 rfl) ?_
  refine lv_sipush (v := 288) hx hb dX0_relaxedBits_1 (by decide) ?_
  obtain ⟨r1, q2, h⟩ := bnd1_s h
  refine cl_X0_53 hx hb hml hown hts hK hN hW (c_X10_isBelow l D T A (oc_X0 T a_o x_o ++ Z) p1 288 r1 q2) ⟨Nat.le_of_ble_eq_true rfl, Nat.le_of_ble_eq_true rfl⟩ hl.1 rfl (Nat.le_of_ble_eq_true rfl) dX0_relaxedBits_4 ⟨Nat.zero_le _, Nat.zero_le _⟩ rfl (fun H locs hW => ?_)
  refine lv_if_eq (tgt := 26) hx hb dX0_relaxedBits_7 (by decide) (fun c3 => ?_) (fun c3 => ?_)
  · have h := ite_t c3 h
    refine lv_iconst (v := 0) hx hb dX0_relaxedBits_26 (by decide) ?_
    obtain rfl := ret1 h
    rw [hQ]
    exact g_reti hx hb hr hlk hW dX0_relaxedBits_27
  · have h := ite_f c3 h
    refine lv_aload_n hx hb dX0_relaxedBits_10 rfl (lv_at hl 0 rfl) ?_
    refine fg_X0_37 (v := .ref (a_o 8)) hx hb hts hown hK hW 0 rfl rfl dX0_relaxedBits_11 ?_
    refine lv_iload_n hx hb dX0_relaxedBits_14 rfl (lv_at hl 1 rfl) ?_
    obtain ⟨g4, h⟩ := grd_s h
    refine g_iald hx hb hK hW 8 rfl g4 dX0_relaxedBits_15 ?_
    refine lv_iconst (v := 5) hx hb dX0_relaxedBits_16 (by decide) ?_
    refine lv_iload_n hx hb dX0_relaxedBits_17 rfl (lv_at hl 2 rfl) ?_
    refine lv_imul hx hb dX0_relaxedBits_18 ?_
    refine lv_ishr hx hb dX0_relaxedBits_19 ?_
    refine lv_bipush (v := 31) hx hb dX0_relaxedBits_20 (by decide) ?_
    refine lv_iand hx hb dX0_relaxedBits_22 ?_
    refine lv_goto (tgt := 27) hx hb dX0_relaxedBits_23 (by decide) ?_
    obtain rfl := ret1 h
    rw [hQ]
    exact g_reti hx hb hr hlk hW dX0_relaxedBits_27
set_option maxHeartbeats 4000000 in
set_option maxRecDepth 100000 in
theorem c_X0_isRelaxed (l : Launch) (D : va_G) (T : Nat → ClassId) (A : Nat → Prop) (a_o : Nat → Nat) (Z : va_W)  (x_o : Ob) (p1 : Int32) (p2 : Int32) (r : Int32) (h : f_X0_isRelaxed x_o p1 p2 = some r) : Met l yX0_isRelaxed (Cond.code yX0_isRelaxed cX0_isRelaxed 3 (some .boolean) :: wsL_law) (rmd 2) (Pg D T A (oc_X0 T a_o x_o ++ Z) [.ref (a_o 0), .int p1, .int p2]) (Qgi D A (oc_X0 T a_o x_o ++ Z) r) 0 0 A := by
  refine Met.ofW (cc := cX0_isRelaxed) (maxL := 3) (ret := (some .boolean)) (by decide +kernel) rfl ?_
  intro p e s m args below meth c s₁ B hml hv
  obtain ⟨ha, hP, hK, hD, hN⟩ := hv
  have hx := B.exec
  have hb := B.bytes
  have hr := B.returns
  have hlk := B.notSynchronized
  have hts : ∀ w ∈ wsL_law, w.before args s = true := fun w hw => atoms_spec B.pre w (List.mem_cons_of_mem _ hw)
  have hown : s.vm.findClass RX0 = some m.cls := findClass_of_methodNamed B.named
  have hW : Wd D A s.heap (oc_X0 T a_o x_o ++ Z) s.heap [] := ⟨hP, hD, va_S.rf⟩
  have hl := lv_entry [.ref (a_o 0), .int p1, .int p2] (n := 3) (Nat.le_of_ble_eq_true rfl)
  refine W.eq (en_eq ha) ?_
  generalize (lg_sl [.ref (a_o 0), .int p1, .int p2] ++ List.replicate (3 - (lg_sl [.ref (a_o 0), .int p1, .int p2]).length) Slot.unset).toArray = ls at hl ⊢
  have hl : lv_has ls 3 [(0, .ref (a_o 0)), (1, .int p1), (2, .int p2)] := hl
  clear hP hD B ha
  obtain ⟨Q, hQ⟩ : ∃ Q, Q = MQ below (Qgi D A (oc_X0 T a_o x_o ++ Z) r) args s 0 0 A := ⟨_, rfl⟩
  rw [← hQ]
  change W p l e (rmd 2) s m args below meth c s.heap [] 0 0 Q (F0 m 0 ls [])
  rw [f_X0_isRelaxed] at h
  suffices hm : ∀ (H : Heap) (locs : List Loc), Wd D A s.heap (oc_X0 T a_o x_o ++ Z) H locs → W p l e (rmd 2) s m args below meth c H locs 0 0 Q (F0 m 0 ls []) from hm _ _ hW
  intro H locs hW
  refine lv_aload_n hx hb dX0_isRelaxed_0 rfl (lv_at hl 0 rfl) ?_
  refine lv_iload_n hx hb dX0_isRelaxed_1 rfl (lv_at hl 1 rfl) ?_
  refine lv_iload_n hx hb dX0_isRelaxed_2 rfl (lv_at hl 2 rfl) ?_
  obtain ⟨r1, q2, h⟩ := bnd1_s h
  refine cl_X0_57 hx hb hml hown hts hK hN hW (c_X0_relaxedBits l D T A a_o (Z) x_o p1 p2 r1 q2) ⟨Nat.le_of_ble_eq_true rfl, Nat.le_of_ble_eq_true rfl⟩ hl.1 rfl (Nat.le_of_ble_eq_true rfl) dX0_isRelaxed_3 ⟨Nat.zero_le _, Nat.zero_le _⟩ rfl (fun H locs hW => ?_)
  refine lv_if_eq (tgt := 13) hx hb dX0_isRelaxed_6 (by decide) (fun c3 => ?_) (fun c3 => ?_)
  · have h := ite_t c3 h
    refine lv_iconst (v := 0) hx hb dX0_isRelaxed_13 (by decide) ?_
    obtain rfl := ret1 h
    rw [hQ]
    exact g_retz hx hb hr hlk hW (by decide) dX0_isRelaxed_14
  · have h := ite_f c3 h
    refine lv_iconst (v := 1) hx hb dX0_isRelaxed_9 (by decide) ?_
    refine lv_goto (tgt := 14) hx hb dX0_isRelaxed_10 (by decide) ?_
    obtain rfl := ret1 h
    rw [hQ]
    exact g_retz hx hb hr hlk hW (by decide) dX0_isRelaxed_14
set_option maxHeartbeats 4000000 in
set_option maxRecDepth 100000 in
theorem c_X0_oneThen (l : Launch) (D : va_G) (T : Nat → ClassId) (A : Nat → Prop) (a_o : Nat → Nat) (Z : va_W)  (x_o : Ob) (p1 : Int32) (p2 : Int32) (r : Int32) (h : f_X0_oneThen x_o p1 p2 = some r) : Met l yX0_oneThen (Cond.code yX0_oneThen cX0_oneThen 3 (some .int) :: wsL_law) (rmd 2) (Pg D T A (oc_X0 T a_o x_o ++ Z) [.ref (a_o 0), .int p1, .int p2]) (Qgi D A (oc_X0 T a_o x_o ++ Z) r) 0 0 A := by
  refine Met.ofW (cc := cX0_oneThen) (maxL := 3) (ret := (some .int)) (by decide +kernel) rfl ?_
  intro p e s m args below meth c s₁ B hml hv
  obtain ⟨ha, hP, hK, hD, hN⟩ := hv
  have hx := B.exec
  have hb := B.bytes
  have hr := B.returns
  have hlk := B.notSynchronized
  have hts : ∀ w ∈ wsL_law, w.before args s = true := fun w hw => atoms_spec B.pre w (List.mem_cons_of_mem _ hw)
  have hown : s.vm.findClass RX0 = some m.cls := findClass_of_methodNamed B.named
  have hW : Wd D A s.heap (oc_X0 T a_o x_o ++ Z) s.heap [] := ⟨hP, hD, va_S.rf⟩
  have hl := lv_entry [.ref (a_o 0), .int p1, .int p2] (n := 3) (Nat.le_of_ble_eq_true rfl)
  refine W.eq (en_eq ha) ?_
  generalize (lg_sl [.ref (a_o 0), .int p1, .int p2] ++ List.replicate (3 - (lg_sl [.ref (a_o 0), .int p1, .int p2]).length) Slot.unset).toArray = ls at hl ⊢
  have hl : lv_has ls 3 [(0, .ref (a_o 0)), (1, .int p1), (2, .int p2)] := hl
  clear hP hD B ha
  obtain ⟨Q, hQ⟩ : ∃ Q, Q = MQ below (Qgi D A (oc_X0 T a_o x_o ++ Z) r) args s 0 0 A := ⟨_, rfl⟩
  rw [← hQ]
  change W p l e (rmd 2) s m args below meth c s.heap [] 0 0 Q (F0 m 0 ls [])
  rw [f_X0_oneThen] at h
  suffices hm : ∀ (H : Heap) (locs : List Loc), Wd D A s.heap (oc_X0 T a_o x_o ++ Z) H locs → W p l e (rmd 2) s m args below meth c H locs 0 0 Q (F0 m 0 ls []) from hm _ _ hW
  intro H locs hW
  refine lv_aload_n hx hb dX0_oneThen_0 rfl (lv_at hl 0 rfl) ?_
  refine lv_iload_n hx hb dX0_oneThen_1 rfl (lv_at hl 1 rfl) ?_
  refine lv_iload_n hx hb dX0_oneThen_2 rfl (lv_at hl 2 rfl) ?_
  obtain ⟨r1, q2, h⟩ := bnd1_s h
  refine cl_X0_57 hx hb hml hown hts hK hN hW (c_X0_relaxedBits l D T A a_o (Z) x_o p1 p2 r1 q2) ⟨Nat.le_of_ble_eq_true rfl, Nat.le_of_ble_eq_true rfl⟩ hl.1 rfl (Nat.le_of_ble_eq_true rfl) dX0_oneThen_3 ⟨Nat.zero_le _, Nat.zero_le _⟩ rfl (fun H locs hW => ?_)
  refine lv_iconst (v := 2) hx hb dX0_oneThen_6 (by decide) ?_
  refine lv_ishr hx hb dX0_oneThen_7 ?_
  refine lv_iconst (v := 3) hx hb dX0_oneThen_8 (by decide) ?_
  refine lv_iand hx hb dX0_oneThen_9 ?_
  obtain rfl := ret1 h
  rw [hQ]
  exact g_reti hx hb hr hlk hW dX0_oneThen_10
set_option maxHeartbeats 4000000 in
set_option maxRecDepth 100000 in
theorem c_X0_otherThen (l : Launch) (D : va_G) (T : Nat → ClassId) (A : Nat → Prop) (a_o : Nat → Nat) (Z : va_W)  (x_o : Ob) (p1 : Int32) (p2 : Int32) (r : Int32) (h : f_X0_otherThen x_o p1 p2 = some r) : Met l yX0_otherThen (Cond.code yX0_otherThen cX0_otherThen 3 (some .int) :: wsL_law) (rmd 2) (Pg D T A (oc_X0 T a_o x_o ++ Z) [.ref (a_o 0), .int p1, .int p2]) (Qgi D A (oc_X0 T a_o x_o ++ Z) r) 0 0 A := by
  refine Met.ofW (cc := cX0_otherThen) (maxL := 3) (ret := (some .int)) (by decide +kernel) rfl ?_
  intro p e s m args below meth c s₁ B hml hv
  obtain ⟨ha, hP, hK, hD, hN⟩ := hv
  have hx := B.exec
  have hb := B.bytes
  have hr := B.returns
  have hlk := B.notSynchronized
  have hts : ∀ w ∈ wsL_law, w.before args s = true := fun w hw => atoms_spec B.pre w (List.mem_cons_of_mem _ hw)
  have hown : s.vm.findClass RX0 = some m.cls := findClass_of_methodNamed B.named
  have hW : Wd D A s.heap (oc_X0 T a_o x_o ++ Z) s.heap [] := ⟨hP, hD, va_S.rf⟩
  have hl := lv_entry [.ref (a_o 0), .int p1, .int p2] (n := 3) (Nat.le_of_ble_eq_true rfl)
  refine W.eq (en_eq ha) ?_
  generalize (lg_sl [.ref (a_o 0), .int p1, .int p2] ++ List.replicate (3 - (lg_sl [.ref (a_o 0), .int p1, .int p2]).length) Slot.unset).toArray = ls at hl ⊢
  have hl : lv_has ls 3 [(0, .ref (a_o 0)), (1, .int p1), (2, .int p2)] := hl
  clear hP hD B ha
  obtain ⟨Q, hQ⟩ : ∃ Q, Q = MQ below (Qgi D A (oc_X0 T a_o x_o ++ Z) r) args s 0 0 A := ⟨_, rfl⟩
  rw [← hQ]
  change W p l e (rmd 2) s m args below meth c s.heap [] 0 0 Q (F0 m 0 ls [])
  rw [f_X0_otherThen] at h
  suffices hm : ∀ (H : Heap) (locs : List Loc), Wd D A s.heap (oc_X0 T a_o x_o ++ Z) H locs → W p l e (rmd 2) s m args below meth c H locs 0 0 Q (F0 m 0 ls []) from hm _ _ hW
  intro H locs hW
  refine lv_aload_n hx hb dX0_otherThen_0 rfl (lv_at hl 0 rfl) ?_
  refine lv_iload_n hx hb dX0_otherThen_1 rfl (lv_at hl 1 rfl) ?_
  refine lv_iload_n hx hb dX0_otherThen_2 rfl (lv_at hl 2 rfl) ?_
  obtain ⟨r1, q2, h⟩ := bnd1_s h
  refine cl_X0_57 hx hb hml hown hts hK hN hW (c_X0_relaxedBits l D T A a_o (Z) x_o p1 p2 r1 q2) ⟨Nat.le_of_ble_eq_true rfl, Nat.le_of_ble_eq_true rfl⟩ hl.1 rfl (Nat.le_of_ble_eq_true rfl) dX0_otherThen_3 ⟨Nat.zero_le _, Nat.zero_le _⟩ rfl (fun H locs hW => ?_)
  refine lv_iconst (v := 3) hx hb dX0_otherThen_6 (by decide) ?_
  refine lv_iand hx hb dX0_otherThen_7 ?_
  obtain rfl := ret1 h
  rw [hQ]
  exact g_reti hx hb hr hlk hW dX0_otherThen_8
set_option maxHeartbeats 4000000 in
set_option maxRecDepth 100000 in
theorem c_X0_cheapest (l : Launch) (D : va_G) (T : Nat → ClassId) (A : Nat → Prop) (a_o : Nat → Nat) (Z : va_W)  (x_o : Ob) (p1 : Int32) (p2 : Int32) (r : Int32) (h : f_X0_cheapest x_o p1 p2 = some r) : Met l yX0_cheapest (Cond.code yX0_cheapest cX0_cheapest 7 (some .int) :: wsL_law) (rmd 0) (Pg D T A (oc_X0 T a_o x_o ++ Z) [.ref (a_o 0), .int p1, .int p2]) (Qgi D A (oc_X0 T a_o x_o ++ Z) r) 0 0 A := by
  refine Met.ofW (cc := cX0_cheapest) (maxL := 7) (ret := (some .int)) (by decide +kernel) rfl ?_
  intro p e s m args below meth c s₁ B hml hv
  obtain ⟨ha, hP, hK, hD, hN⟩ := hv
  have hx := B.exec
  have hb := B.bytes
  have hr := B.returns
  have hlk := B.notSynchronized
  have hts : ∀ w ∈ wsL_law, w.before args s = true := fun w hw => atoms_spec B.pre w (List.mem_cons_of_mem _ hw)
  have hown : s.vm.findClass RX0 = some m.cls := findClass_of_methodNamed B.named
  have hW : Wd D A s.heap (oc_X0 T a_o x_o ++ Z) s.heap [] := ⟨hP, hD, va_S.rf⟩
  have hl := lv_entry [.ref (a_o 0), .int p1, .int p2] (n := 7) (Nat.le_of_ble_eq_true rfl)
  refine W.eq (en_eq ha) ?_
  generalize (lg_sl [.ref (a_o 0), .int p1, .int p2] ++ List.replicate (7 - (lg_sl [.ref (a_o 0), .int p1, .int p2]).length) Slot.unset).toArray = ls at hl ⊢
  have hl : lv_has ls 7 [(0, .ref (a_o 0)), (1, .int p1), (2, .int p2)] := hl
  clear hP hD B ha
  obtain ⟨Q, hQ⟩ : ∃ Q, Q = MQ below (Qgi D A (oc_X0 T a_o x_o ++ Z) r) args s 0 0 A := ⟨_, rfl⟩
  rw [← hQ]
  change W p l e (rmd 0) s m args below meth c s.heap [] 0 0 Q (F0 m 0 ls [])
  have J65 : ∀ (v1_65 : Int32) (v2_65 : Int32) (v3_65 : Int32) (v4_65 : Int32) (v5_65 : Int32) (s0_65 : Int32) (H : Heap) (locs : List Loc) (ls : Array Slot) (code : Nat) (o4j : Int32) (o5j : Int32), Wd D A s.heap (oc_X0 T a_o x_o ++ Z) H locs → lv_has ls 7 [(0, .ref (a_o 0)), (1, .int v1_65), (2, .int v2_65), (3, .int v3_65), (4, .int v4_65), (5, .int v5_65)] → f_X0_cheapest_J65 x_o v1_65 v2_65 v3_65 v4_65 v5_65 s0_65 = some (code, o4j, o5j) → (code = 0 → ∀ (H : Heap) (locs : List Loc) (ls : Array Slot), Wd D A s.heap (oc_X0 T a_o x_o ++ Z) H locs → lv_has ls 7 [(0, .ref (a_o 0)), (1, .int v1_65), (2, .int v2_65), (3, .int v3_65), (4, .int o4j), (5, .int o5j)] → W p l e (rmd 0) s m args below meth c H locs 0 0 Q (F0 m 23 ls [])) → (code = 1 → ∀ (H : Heap) (locs : List Loc) (ls : Array Slot), Wd D A s.heap (oc_X0 T a_o x_o ++ Z) H locs → lv_has ls 7 [(4, .int o4j)] → W p l e (rmd 0) s m args below meth c H locs 0 0 Q (F0 m 105 ls [])) → W p l e (rmd 0) s m args below meth c H locs 0 0 Q (F0 m 65 ls [.int s0_65]) := by
    intro v1_65 v2_65 v3_65 v4_65 v5_65 s0_65 H locs ls code o4j o5j hW hl h k0 k1
    rw [f_X0_cheapest_J65] at h
    refine lv_istore (lv' := [(6, .int s0_65), (0, .ref (a_o 0)), (1, .int v1_65), (2, .int v2_65), (3, .int v3_65), (4, .int v4_65), (5, .int v5_65)]) hx hb dX0_cheapest_65 hl (by decide) rfl (fun ls hl => ?_)
    refine lv_iload hx hb dX0_cheapest_67 (lv_at hl 0 rfl) ?_
    refine lv_if_eq (tgt := 99) hx hb dX0_cheapest_69 (by decide) (fun c8 => ?_) (fun c8 => ?_)
    · have h := ite_t c8 h
      obtain ⟨w5_9, ew5_9⟩ : ∃ y : Int32, y = v5_65 + 1 := ⟨_, rfl⟩
      have h := lb_at ew5_9 h
      refine lv_iinc (v := w5_9) (lv' := [(5, .int w5_9), (6, .int s0_65), (0, .ref (a_o 0)), (1, .int v1_65), (2, .int v2_65), (3, .int v3_65), (4, .int v4_65)]) hx hb dX0_cheapest_99 hl (k := 6) rfl (by rw [ew5_9]; rfl) (by decide) rfl (fun ls hl => ?_)
      refine lv_goto (tgt := 23) hx hb dX0_cheapest_102 (by decide) ?_
      obtain ⟨rfl, rfl, rfl⟩ := ret3 h
      exact k0 rfl H locs ls hW (lv_sub hl [2, 3, 4, 5, 6, 0] rfl)
    · have h := ite_f c8 h
      refine lv_iload hx hb dX0_cheapest_72 (lv_at hl 5 rfl) ?_
      refine lv_iconst (v := (-1)) hx hb dX0_cheapest_74 (by decide) ?_
      refine lv_icmp_eq (tgt := 95) hx hb dX0_cheapest_75 (by decide) (fun c10 => ?_) (fun c10 => ?_)
      · have h := ite_t c10 h
        refine lv_iload hx hb dX0_cheapest_95 (lv_at hl 6 rfl) ?_
        refine lv_istore (lv' := [(4, .int v5_65), (6, .int s0_65), (0, .ref (a_o 0)), (1, .int v1_65), (2, .int v2_65), (3, .int v3_65), (5, .int v5_65)]) hx hb dX0_cheapest_97 hl (by decide) rfl (fun ls hl => ?_)
        obtain ⟨w5_11, ew5_11⟩ : ∃ y : Int32, y = v5_65 + 1 := ⟨_, rfl⟩
        have h := lb_at ew5_11 h
        refine lv_iinc (v := w5_11) (lv' := [(5, .int w5_11), (4, .int v5_65), (6, .int s0_65), (0, .ref (a_o 0)), (1, .int v1_65), (2, .int v2_65), (3, .int v3_65)]) hx hb dX0_cheapest_99 hl (k := 6) rfl (by rw [ew5_11]; rfl) (by decide) rfl (fun ls hl => ?_)
        refine lv_goto (tgt := 23) hx hb dX0_cheapest_102 (by decide) ?_
        obtain ⟨rfl, rfl, rfl⟩ := ret3 h
        exact k0 rfl H locs ls hW (lv_sub hl [3, 4, 5, 6, 1, 0] rfl)
      · have h := ite_f c10 h
        refine lv_aload_n hx hb dX0_cheapest_78 rfl (lv_at hl 1 rfl) ?_
        refine fg_X0_25 (v := .ref (a_o 4)) hx hb hts hown hK hW 0 rfl rfl dX0_cheapest_79 ?_
        refine lv_iload hx hb dX0_cheapest_82 (lv_at hl 6 rfl) ?_
        obtain ⟨g12, h⟩ := grd_s h
        refine g_iald hx hb hK hW 4 rfl g12 dX0_cheapest_84 ?_
        refine lv_aload_n hx hb dX0_cheapest_85 rfl (lv_at hl 1 rfl) ?_
        refine fg_X0_25 (v := .ref (a_o 4)) hx hb hts hown hK hW 0 rfl rfl dX0_cheapest_86 ?_
        refine lv_iload hx hb dX0_cheapest_89 (lv_at hl 5 rfl) ?_
        obtain ⟨g13, h⟩ := grd_s h
        refine g_iald hx hb hK hW 4 rfl g13 dX0_cheapest_91 ?_
        refine lv_icmp_ge (tgt := 99) hx hb dX0_cheapest_92 (by decide) (fun c14 => ?_) (fun c14 => ?_)
        · have h := ite_t c14 h
          obtain ⟨w5_15, ew5_15⟩ : ∃ y : Int32, y = v5_65 + 1 := ⟨_, rfl⟩
          have h := lb_at ew5_15 h
          refine lv_iinc (v := w5_15) (lv' := [(5, .int w5_15), (6, .int s0_65), (0, .ref (a_o 0)), (1, .int v1_65), (2, .int v2_65), (3, .int v3_65), (4, .int v4_65)]) hx hb dX0_cheapest_99 hl (k := 6) rfl (by rw [ew5_15]; rfl) (by decide) rfl (fun ls hl => ?_)
          refine lv_goto (tgt := 23) hx hb dX0_cheapest_102 (by decide) ?_
          obtain ⟨rfl, rfl, rfl⟩ := ret3 h
          exact k0 rfl H locs ls hW (lv_sub hl [2, 3, 4, 5, 6, 0] rfl)
        · have h := ite_f c14 h
          refine lv_iload hx hb dX0_cheapest_95 (lv_at hl 6 rfl) ?_
          refine lv_istore (lv' := [(4, .int v5_65), (6, .int s0_65), (0, .ref (a_o 0)), (1, .int v1_65), (2, .int v2_65), (3, .int v3_65), (5, .int v5_65)]) hx hb dX0_cheapest_97 hl (by decide) rfl (fun ls hl => ?_)
          obtain ⟨w5_16, ew5_16⟩ : ∃ y : Int32, y = v5_65 + 1 := ⟨_, rfl⟩
          have h := lb_at ew5_16 h
          refine lv_iinc (v := w5_16) (lv' := [(5, .int w5_16), (4, .int v5_65), (6, .int s0_65), (0, .ref (a_o 0)), (1, .int v1_65), (2, .int v2_65), (3, .int v3_65)]) hx hb dX0_cheapest_99 hl (k := 6) rfl (by rw [ew5_16]; rfl) (by decide) rfl (fun ls hl => ?_)
          refine lv_goto (tgt := 23) hx hb dX0_cheapest_102 (by decide) ?_
          obtain ⟨rfl, rfl, rfl⟩ := ret3 h
          exact k0 rfl H locs ls hW (lv_sub hl [3, 4, 5, 6, 1, 0] rfl)
  have J60 : ∀ (v1_60 : Int32) (v2_60 : Int32) (v3_60 : Int32) (v4_60 : Int32) (v5_60 : Int32) (H : Heap) (locs : List Loc) (ls : Array Slot) (code : Nat) (o4j : Int32) (o5j : Int32), Wd D A s.heap (oc_X0 T a_o x_o ++ Z) H locs → lv_has ls 7 [(0, .ref (a_o 0)), (1, .int v1_60), (2, .int v2_60), (3, .int v3_60), (4, .int v4_60), (5, .int v5_60)] → f_X0_cheapest_J60 x_o v1_60 v2_60 v3_60 v4_60 v5_60 = some (code, o4j, o5j) → (code = 0 → ∀ (H : Heap) (locs : List Loc) (ls : Array Slot), Wd D A s.heap (oc_X0 T a_o x_o ++ Z) H locs → lv_has ls 7 [(0, .ref (a_o 0)), (1, .int v1_60), (2, .int v2_60), (3, .int v3_60), (4, .int o4j), (5, .int o5j)] → W p l e (rmd 0) s m args below meth c H locs 0 0 Q (F0 m 23 ls [])) → (code = 1 → ∀ (H : Heap) (locs : List Loc) (ls : Array Slot), Wd D A s.heap (oc_X0 T a_o x_o ++ Z) H locs → lv_has ls 7 [(4, .int o4j)] → W p l e (rmd 0) s m args below meth c H locs 0 0 Q (F0 m 105 ls [])) → W p l e (rmd 0) s m args below meth c H locs 0 0 Q (F0 m 60 ls []) := by
    intro v1_60 v2_60 v3_60 v4_60 v5_60 H locs ls code o4j o5j hW hl h k0 k1
    rw [f_X0_cheapest_J60] at h
    refine lv_iconst (v := 1) hx hb dX0_cheapest_60 (by decide) ?_
    refine lv_goto (tgt := 65) hx hb dX0_cheapest_61 (by decide) ?_
    exact J65 _ _ _ _ _ _ H locs ls _ _ _ hW (lv_sub hl [0, 1, 2, 3, 4, 5] rfl) h k0 k1
  have L23 : ∀ (n : Nat) (v1_23 : Int32) (v2_23 : Int32) (v3_23 : Int32) (v4_23 : Int32) (v5_23 : Int32) (H : Heap) (locs : List Loc) (ls : Array Slot) (o4_23r : Int32) (o5_23r : Int32), Wd D A s.heap (oc_X0 T a_o x_o ++ Z) H locs → lv_has ls 7 [(0, .ref (a_o 0)), (1, .int v1_23), (2, .int v2_23), (3, .int v3_23), (4, .int v4_23), (5, .int v5_23)] → f_X0_cheapest_L23 n x_o v1_23 v2_23 v3_23 v4_23 v5_23 = some (o4_23r, o5_23r) → (∀ (H : Heap) (locs : List Loc) (ls : Array Slot), Wd D A s.heap (oc_X0 T a_o x_o ++ Z) H locs → lv_has ls 7 [(4, .int o4_23r)] → W p l e (rmd 0) s m args below meth c H locs 0 0 Q (F0 m 105 ls [])) → W p l e (rmd 0) s m args below meth c H locs 0 0 Q (F0 m 23 ls []) := by
    intro n
    induction n with
    | zero =>
      intro v1_23 v2_23 v3_23 v4_23 v5_23 H locs ls o4_23r o5_23r hW hl h k1
      rw [f_X0_cheapest_L23] at h
      cases h
    | succ n ih =>
      intro v1_23 v2_23 v3_23 v4_23 v5_23 H locs ls o4_23r o5_23r hW hl h k1
      rw [f_X0_cheapest_L23] at h
      refine lv_iload hx hb dX0_cheapest_23 (lv_at hl 5 rfl) ?_
      refine lv_iload_n hx hb dX0_cheapest_25 rfl (lv_at hl 3 rfl) ?_
      refine lv_aload_n hx hb dX0_cheapest_26 rfl (lv_at hl 0 rfl) ?_
      refine fg_X0_15 (v := .ref (a_o 1)) hx hb hts hown hK hW 0 rfl rfl dX0_cheapest_27 ?_
      refine lv_iload_n hx hb dX0_cheapest_30 rfl (lv_at hl 1 rfl) ?_
      obtain ⟨g4, h⟩ := grd_s h
      refine g_iald hx hb hK hW 1 rfl g4 dX0_cheapest_31 ?_
      refine lv_iadd hx hb dX0_cheapest_32 ?_
      refine lv_icmp_ge (tgt := 105) hx hb dX0_cheapest_33 (by decide) (fun c5 => ?_) (fun c5 => ?_)
      · have h := ite_t c5 h
        obtain ⟨rfl, rfl⟩ := ret2 h
        exact k1 H locs ls hW (lv_sub hl [4] rfl)
      · have h := ite_f c5 h
        refine lv_iload hx hb dX0_cheapest_36 (lv_at hl 5 rfl) ?_
        refine lv_sipush (v := 288) hx hb dX0_cheapest_38 (by decide) ?_
        refine lv_icmp_ge (tgt := 105) hx hb dX0_cheapest_41 (by decide) (fun c6 => ?_) (fun c6 => ?_)
        · have h := ite_t c6 h
          obtain ⟨rfl, rfl⟩ := ret2 h
          exact k1 H locs ls hW (lv_sub hl [4] rfl)
        · have h := ite_f c6 h
          refine lv_iload_n hx hb dX0_cheapest_44 rfl (lv_at hl 2 rfl) ?_
          refine lv_iconst (v := (-1)) hx hb dX0_cheapest_45 (by decide) ?_
          refine lv_icmp_eq (tgt := 60) hx hb dX0_cheapest_46 (by decide) (fun c7 => ?_) (fun c7 => ?_)
          · have h := ite_t c7 h
            obtain ⟨code18, o4_t17, o5_t17, q19, h⟩ := bnd3_s h
            refine J60 _ _ _ _ _ H locs ls code18 o4_t17 o5_t17 hW (lv_sub hl [0, 1, 2, 3, 4, 5] rfl) q19 (fun hc H locs ls hW hl => ?_) (fun hc H locs ls hW hl => ?_)
            · have h := ite_t hc h
              exact ih _ _ _ _ _ H locs ls _ _ hW (lv_sub hl [0, 1, 2, 3, 4, 5] rfl) h k1
            · have h := ite_f (by rw [hc]; decide) h
              obtain ⟨rfl, rfl⟩ := ret2 h
              exact k1 H locs ls hW hl
          · have h := ite_f c7 h
            refine lv_aload_n hx hb dX0_cheapest_49 rfl (lv_at hl 0 rfl) ?_
            refine fg_X0_19 (v := .ref (a_o 2)) hx hb hts hown hK hW 0 rfl rfl dX0_cheapest_50 ?_
            refine lv_iload hx hb dX0_cheapest_53 (lv_at hl 5 rfl) ?_
            obtain ⟨g20, h⟩ := grd_s h
            refine g_iald hx hb hK hW 2 rfl g20 dX0_cheapest_55 ?_
            refine lv_iload_n hx hb dX0_cheapest_56 rfl (lv_at hl 2 rfl) ?_
            refine lv_icmp_ne (tgt := 64) hx hb dX0_cheapest_57 (by decide) (fun c21 => ?_) (fun c21 => ?_)
            · have h := ite_f c21 h
              refine lv_iconst (v := 0) hx hb dX0_cheapest_64 (by decide) ?_
              obtain ⟨code23, o4_t22, o5_t22, q24, h⟩ := bnd3_s h
              refine J65 _ _ _ _ _ _ H locs ls code23 o4_t22 o5_t22 hW (lv_sub hl [0, 1, 2, 3, 4, 5] rfl) q24 (fun hc H locs ls hW hl => ?_) (fun hc H locs ls hW hl => ?_)
              · have h := ite_t hc h
                exact ih _ _ _ _ _ H locs ls _ _ hW (lv_sub hl [0, 1, 2, 3, 4, 5] rfl) h k1
              · have h := ite_f (by rw [hc]; decide) h
                obtain ⟨rfl, rfl⟩ := ret2 h
                exact k1 H locs ls hW hl
            · have h := ite_t c21 h
              obtain ⟨code26, o4_t25, o5_t25, q27, h⟩ := bnd3_s h
              refine J60 _ _ _ _ _ H locs ls code26 o4_t25 o5_t25 hW (lv_sub hl [0, 1, 2, 3, 4, 5] rfl) q27 (fun hc H locs ls hW hl => ?_) (fun hc H locs ls hW hl => ?_)
              · have h := ite_t hc h
                exact ih _ _ _ _ _ H locs ls _ _ hW (lv_sub hl [0, 1, 2, 3, 4, 5] rfl) h k1
              · have h := ite_f (by rw [hc]; decide) h
                obtain ⟨rfl, rfl⟩ := ret2 h
                exact k1 H locs ls hW hl
  rw [f_X0_cheapest] at h
  suffices hm : ∀ (H : Heap) (locs : List Loc), Wd D A s.heap (oc_X0 T a_o x_o ++ Z) H locs → W p l e (rmd 0) s m args below meth c H locs 0 0 Q (F0 m 0 ls []) from hm _ _ hW
  intro H locs hW
  refine lv_iload_n hx hb dX0_cheapest_0 rfl (lv_at hl 1 rfl) ?_
  refine lv_if_lt (tgt := 10) hx hb dX0_cheapest_1 (by decide) (fun c1 => ?_) (fun c1 => ?_)
  · have h := ite_t c1 h
    refine lv_iconst (v := (-1)) hx hb dX0_cheapest_10 (by decide) ?_
    obtain rfl := ret1 h
    rw [hQ]
    exact g_reti hx hb hr hlk hW dX0_cheapest_11
  · have h := ite_f c1 h
    refine lv_iload_n hx hb dX0_cheapest_4 rfl (lv_at hl 1 rfl) ?_
    refine lv_bipush (v := 36) hx hb dX0_cheapest_5 (by decide) ?_
    refine lv_icmp_lt (tgt := 12) hx hb dX0_cheapest_7 (by decide) (fun c2 => ?_) (fun c2 => ?_)
    · have h := ite_t c2 h
      refine lv_iload_n hx hb dX0_cheapest_12 rfl (lv_at hl 1 rfl) ?_
      refine lv_bipush (v := 8) hx hb dX0_cheapest_13 (by decide) ?_
      refine lv_imul hx hb dX0_cheapest_15 ?_
      refine lv_topi (fun w3_3 ew3_3 => ?_)
      have h := lb_at ew3_3 h
      refine lv_istore_n (lv' := [(3, .int w3_3), (0, .ref (a_o 0)), (1, .int p1), (2, .int p2)]) hx hb dX0_cheapest_16 rfl hl (by decide) rfl (fun ls hl => ?_)
      refine lv_iconst (v := (-1)) hx hb dX0_cheapest_17 (by decide) ?_
      refine lv_istore (lv' := [(4, .int (-1)), (3, .int w3_3), (0, .ref (a_o 0)), (1, .int p1), (2, .int p2)]) hx hb dX0_cheapest_18 hl (by decide) rfl (fun ls hl => ?_)
      refine lv_iload_n hx hb dX0_cheapest_20 rfl (lv_at hl 1 rfl) ?_
      refine lv_istore (lv' := [(5, .int w3_3), (4, .int (-1)), (3, .int w3_3), (0, .ref (a_o 0)), (1, .int p1), (2, .int p2)]) hx hb dX0_cheapest_21 hl (by decide) rfl (fun ls hl => ?_)
      obtain ⟨o4_u28, o5_u28, q29, h⟩ := bnd2_s h
      refine L23 200 _ _ _ _ _ H locs ls o4_u28 o5_u28 hW (lv_sub hl [3, 4, 5, 2, 1, 0] rfl) q29 (fun H locs ls hW hl => ?_)
      refine lv_iload hx hb dX0_cheapest_105 (lv_at hl 0 rfl) ?_
      obtain rfl := ret1 h
      rw [hQ]
      exact g_reti hx hb hr hlk hW dX0_cheapest_107
    · have h := ite_f c2 h
      refine lv_iconst (v := (-1)) hx hb dX0_cheapest_10 (by decide) ?_
      obtain rfl := ret1 h
      rw [hQ]
      exact g_reti hx hb hr hlk hW dX0_cheapest_11
set_option maxHeartbeats 4000000 in
set_option maxRecDepth 100000 in
theorem c_X10_spanOf (l : Launch) (D : va_G) (T : Nat → ClassId) (A : Nat → Prop)  (Z : va_W)  (p1 : Int32) (p2 : Int32) (r : Int32) (h : f_X10_spanOf p1 p2 = some r) : Met l yX10_spanOf (Cond.code yX10_spanOf cX10_spanOf 2 (some .int) :: wsL_law) (rmd 0) (Pg D T A (Z) [.int p1, .int p2]) (Qgi D A (Z) r) 0 0 A := by
  refine Met.ofW (cc := cX10_spanOf) (maxL := 2) (ret := (some .int)) (by decide +kernel) rfl ?_
  intro p e s m args below meth c s₁ B hml hv
  obtain ⟨ha, hP, hK, hD, hN⟩ := hv
  have hx := B.exec
  have hb := B.bytes
  have hr := B.returns
  have hlk := B.notSynchronized
  have hts : ∀ w ∈ wsL_law, w.before args s = true := fun w hw => atoms_spec B.pre w (List.mem_cons_of_mem _ hw)
  have hown : s.vm.findClass RX10 = some m.cls := findClass_of_methodNamed B.named
  have hW : Wd D A s.heap (Z) s.heap [] := ⟨hP, hD, va_S.rf⟩
  have hl := lv_entry [.int p1, .int p2] (n := 2) (Nat.le_of_ble_eq_true rfl)
  refine W.eq (en_eq ha) ?_
  generalize (lg_sl [.int p1, .int p2] ++ List.replicate (2 - (lg_sl [.int p1, .int p2]).length) Slot.unset).toArray = ls at hl ⊢
  have hl : lv_has ls 2 [(0, .int p1), (1, .int p2)] := hl
  clear hP hD B ha
  obtain ⟨Q, hQ⟩ : ∃ Q, Q = MQ below (Qgi D A (Z) r) args s 0 0 A := ⟨_, rfl⟩
  rw [← hQ]
  change W p l e (rmd 0) s m args below meth c s.heap [] 0 0 Q (F0 m 0 ls [])
  rw [f_X10_spanOf] at h
  suffices hm : ∀ (H : Heap) (locs : List Loc), Wd D A s.heap (Z) H locs → W p l e (rmd 0) s m args below meth c H locs 0 0 Q (F0 m 0 ls []) from hm _ _ hW
  intro H locs hW
  refine lv_iload_n hx hb dX10_spanOf_0 rfl (lv_at hl 0 rfl) ?_
  refine lv_bipush (v := 6) hx hb dX10_spanOf_1 (by decide) ?_
  refine lv_imul hx hb dX10_spanOf_3 ?_
  refine lv_iload_n hx hb dX10_spanOf_4 rfl (lv_at hl 1 rfl) ?_
  refine lv_iadd hx hb dX10_spanOf_5 ?_
  refine lv_iconst (v := 1) hx hb dX10_spanOf_6 (by decide) ?_
  refine lv_isub hx hb dX10_spanOf_7 ?_
  obtain rfl := ret1 h
  rw [hQ]
  exact g_reti hx hb hr hlk hW dX10_spanOf_8
set_option maxHeartbeats 4000000 in
set_option maxRecDepth 100000 in
theorem c_X0_wholeEdge (l : Launch) (D : va_G) (T : Nat → ClassId) (A : Nat → Prop) (a_o : Nat → Nat) (Z : va_W)  (x_o : Ob) (r : Int32) (h : f_X0_wholeEdge x_o = some r) : Met l yX0_wholeEdge (Cond.code yX0_wholeEdge cX0_wholeEdge 1 (some .int) :: wsL_law) (rmd 1) (Pg D T A (oc_X0 T a_o x_o ++ Z) [.ref (a_o 0)]) (Qgi D A (oc_X0 T a_o x_o ++ Z) r) 0 0 A := by
  refine Met.ofW (cc := cX0_wholeEdge) (maxL := 1) (ret := (some .int)) (by decide +kernel) rfl ?_
  intro p e s m args below meth c s₁ B hml hv
  obtain ⟨ha, hP, hK, hD, hN⟩ := hv
  have hx := B.exec
  have hb := B.bytes
  have hr := B.returns
  have hlk := B.notSynchronized
  have hts : ∀ w ∈ wsL_law, w.before args s = true := fun w hw => atoms_spec B.pre w (List.mem_cons_of_mem _ hw)
  have hown : s.vm.findClass RX0 = some m.cls := findClass_of_methodNamed B.named
  have hW : Wd D A s.heap (oc_X0 T a_o x_o ++ Z) s.heap [] := ⟨hP, hD, va_S.rf⟩
  have hl := lv_entry [.ref (a_o 0)] (n := 1) (Nat.le_of_ble_eq_true rfl)
  refine W.eq (en_eq ha) ?_
  generalize (lg_sl [.ref (a_o 0)] ++ List.replicate (1 - (lg_sl [.ref (a_o 0)]).length) Slot.unset).toArray = ls at hl ⊢
  have hl : lv_has ls 1 [(0, .ref (a_o 0))] := hl
  clear hP hD B ha
  obtain ⟨Q, hQ⟩ : ∃ Q, Q = MQ below (Qgi D A (oc_X0 T a_o x_o ++ Z) r) args s 0 0 A := ⟨_, rfl⟩
  rw [← hQ]
  change W p l e (rmd 1) s m args below meth c s.heap [] 0 0 Q (F0 m 0 ls [])
  rw [f_X0_wholeEdge] at h
  suffices hm : ∀ (H : Heap) (locs : List Loc), Wd D A s.heap (oc_X0 T a_o x_o ++ Z) H locs → W p l e (rmd 1) s m args below meth c H locs 0 0 Q (F0 m 0 ls []) from hm _ _ hW
  intro H locs hW
  refine lv_aload_n hx hb dX0_wholeEdge_0 rfl (lv_at hl 0 rfl) ?_
  refine fg_X0_9 (v := .int (x_o 0 0)) hx hb hts hown hK hW 0 rfl rfl dX0_wholeEdge_1 ?_
  refine lv_if_ne (tgt := 11) hx hb dX0_wholeEdge_4 (by decide) (fun c1 => ?_) (fun c1 => ?_)
  · have h := ite_f c1 h
    refine lv_aload_n hx hb dX0_wholeEdge_11 rfl (lv_at hl 0 rfl) ?_
    refine lv_iconst (v := 0) hx hb dX0_wholeEdge_12 (by decide) ?_
    refine lv_aload_n hx hb dX0_wholeEdge_13 rfl (lv_at hl 0 rfl) ?_
    refine fg_X0_9 (v := .int (x_o 0 0)) hx hb hts hown hK hW 0 rfl rfl dX0_wholeEdge_14 ?_
    obtain ⟨r2, q3, h⟩ := bnd1_s h
    refine cl_X0_60 hx hb hml hown hts hK hN hW (c_X10_spanOf l D T A (oc_X0 T a_o x_o ++ Z) 0 (x_o 0 0) r2 q3) ⟨Nat.le_of_ble_eq_true rfl, Nat.le_of_ble_eq_true rfl⟩ hl.1 rfl (Nat.le_of_ble_eq_true rfl) dX0_wholeEdge_17 ⟨Nat.zero_le _, Nat.zero_le _⟩ rfl (fun H locs hW => ?_)
    refine lv_bipush (v := 9) hx hb dX0_wholeEdge_20 (by decide) ?_
    obtain ⟨r4, q5, h⟩ := bnd1_s h
    refine cl_X0_63 hx hb hml hown hts hK hN hW (c_X0_cheapest l D T A a_o (Z) x_o r2 9 r4 q5) ⟨Nat.le_of_ble_eq_true rfl, Nat.le_of_ble_eq_true rfl⟩ hl.1 rfl (Nat.le_of_ble_eq_true rfl) dX0_wholeEdge_22 ⟨Nat.zero_le _, Nat.zero_le _⟩ rfl (fun H locs hW => ?_)
    obtain rfl := ret1 h
    rw [hQ]
    exact g_reti hx hb hr hlk hW dX0_wholeEdge_25
  · have h := ite_t c1 h
    refine lv_iconst (v := (-1)) hx hb dX0_wholeEdge_7 (by decide) ?_
    refine lv_goto (tgt := 25) hx hb dX0_wholeEdge_8 (by decide) ?_
    obtain rfl := ret1 h
    rw [hQ]
    exact g_reti hx hb hr hlk hW dX0_wholeEdge_25
set_option maxHeartbeats 4000000 in
set_option maxRecDepth 100000 in
theorem c_X0_wholePrice (l : Launch) (D : va_G) (T : Nat → ClassId) (A : Nat → Prop) (a_o : Nat → Nat) (Z : va_W)  (x_o : Ob) (r : Int32) (h : f_X0_wholePrice x_o = some r) : Met l yX0_wholePrice (Cond.code yX0_wholePrice cX0_wholePrice 2 (some .int) :: wsL_law) (rmd 2) (Pg D T A (oc_X0 T a_o x_o ++ Z) [.ref (a_o 0)]) (Qgi D A (oc_X0 T a_o x_o ++ Z) r) 0 0 A := by
  refine Met.ofW (cc := cX0_wholePrice) (maxL := 2) (ret := (some .int)) (by decide +kernel) rfl ?_
  intro p e s m args below meth c s₁ B hml hv
  obtain ⟨ha, hP, hK, hD, hN⟩ := hv
  have hx := B.exec
  have hb := B.bytes
  have hr := B.returns
  have hlk := B.notSynchronized
  have hts : ∀ w ∈ wsL_law, w.before args s = true := fun w hw => atoms_spec B.pre w (List.mem_cons_of_mem _ hw)
  have hown : s.vm.findClass RX0 = some m.cls := findClass_of_methodNamed B.named
  have hW : Wd D A s.heap (oc_X0 T a_o x_o ++ Z) s.heap [] := ⟨hP, hD, va_S.rf⟩
  have hl := lv_entry [.ref (a_o 0)] (n := 2) (Nat.le_of_ble_eq_true rfl)
  refine W.eq (en_eq ha) ?_
  generalize (lg_sl [.ref (a_o 0)] ++ List.replicate (2 - (lg_sl [.ref (a_o 0)]).length) Slot.unset).toArray = ls at hl ⊢
  have hl : lv_has ls 2 [(0, .ref (a_o 0))] := hl
  clear hP hD B ha
  obtain ⟨Q, hQ⟩ : ∃ Q, Q = MQ below (Qgi D A (oc_X0 T a_o x_o ++ Z) r) args s 0 0 A := ⟨_, rfl⟩
  rw [← hQ]
  change W p l e (rmd 2) s m args below meth c s.heap [] 0 0 Q (F0 m 0 ls [])
  rw [f_X0_wholePrice] at h
  suffices hm : ∀ (H : Heap) (locs : List Loc), Wd D A s.heap (oc_X0 T a_o x_o ++ Z) H locs → W p l e (rmd 2) s m args below meth c H locs 0 0 Q (F0 m 0 ls []) from hm _ _ hW
  intro H locs hW
  refine lv_aload_n hx hb dX0_wholePrice_0 rfl (lv_at hl 0 rfl) ?_
  obtain ⟨r1, q2, h⟩ := bnd1_s h
  refine cl_X0_66 hx hb hml hown hts hK hN hW (c_X0_wholeEdge l D T A a_o (Z) x_o r1 q2) ⟨Nat.le_of_ble_eq_true rfl, Nat.le_of_ble_eq_true rfl⟩ hl.1 rfl (Nat.le_of_ble_eq_true rfl) dX0_wholePrice_1 ⟨Nat.zero_le _, Nat.zero_le _⟩ rfl (fun H locs hW => ?_)
  refine lv_istore_n (lv' := [(1, .int r1), (0, .ref (a_o 0))]) hx hb dX0_wholePrice_4 rfl hl (by decide) rfl (fun ls hl => ?_)
  refine lv_iload_n hx hb dX0_wholePrice_5 rfl (lv_at hl 0 rfl) ?_
  refine lv_iconst (v := (-1)) hx hb dX0_wholePrice_6 (by decide) ?_
  refine lv_icmp_ne (tgt := 16) hx hb dX0_wholePrice_7 (by decide) (fun c3 => ?_) (fun c3 => ?_)
  · have h := ite_f c3 h
    refine lv_aload_n hx hb dX0_wholePrice_16 rfl (lv_at hl 1 rfl) ?_
    refine lv_iload_n hx hb dX0_wholePrice_17 rfl (lv_at hl 0 rfl) ?_
    obtain ⟨r4, q5, h⟩ := bnd1_s h
    refine cl_X0_70 hx hb hml hown hts hK hN hW (c_X0_priceOf l D T A a_o (Z) x_o r1 r4 q5) ⟨Nat.le_of_ble_eq_true rfl, Nat.le_of_ble_eq_true rfl⟩ hl.1 rfl (Nat.le_of_ble_eq_true rfl) dX0_wholePrice_18 ⟨Nat.zero_le _, Nat.zero_le _⟩ rfl (fun H locs hW => ?_)
    obtain rfl := ret1 h
    rw [hQ]
    exact g_reti hx hb hr hlk hW dX0_wholePrice_21
  · have h := ite_t c3 h
    refine lv_sipush (v := 1000) hx hb dX0_wholePrice_10 (by decide) ?_
    refine lv_goto (tgt := 21) hx hb dX0_wholePrice_13 (by decide) ?_
    obtain rfl := ret1 h
    rw [hQ]
    exact g_reti hx hb hr hlk hW dX0_wholePrice_21
set_option maxHeartbeats 4000000 in
set_option maxRecDepth 100000 in
theorem c_X1_weigh (l : Launch) (D : va_G) (T : Nat → ClassId) (A : Nat → Prop) (a_o : Nat → Nat) (a_q1 : Nat → Nat) (Z : va_W)  (x_o : Ob) (x_q1 : Ob) (p2 : Int32) (p3 : Int32) (x_o9 : Ob) (h : f_X1_weigh x_o x_q1 p2 p3 = some x_o9) : Met l yX1_weigh (Cond.code yX1_weigh cX1_weigh 8 none :: wsL_law) (rmd 1) (Pg D T A (oc_X1 T a_o x_o ++ (oc_X0 T a_q1 x_q1 ++ Z)) [.ref (a_o 0), .ref (a_q1 0), .int p2, .int p3]) (Qgv D A (oc_X1 T a_o x_o9 ++ (oc_X0 T a_q1 x_q1 ++ Z))) 0 0 A := by
  refine Met.ofW (cc := cX1_weigh) (maxL := 8) (ret := none) (by decide +kernel) rfl ?_
  intro p e s m args below meth c s₁ B hml hv
  obtain ⟨ha, hP, hK, hD, hN⟩ := hv
  have hx := B.exec
  have hb := B.bytes
  have hr := B.returns
  have hlk := B.notSynchronized
  have hts : ∀ w ∈ wsL_law, w.before args s = true := fun w hw => atoms_spec B.pre w (List.mem_cons_of_mem _ hw)
  have hown : s.vm.findClass RX1 = some m.cls := findClass_of_methodNamed B.named
  have hW : Wd D A s.heap (oc_X1 T a_o x_o ++ (oc_X0 T a_q1 x_q1 ++ Z)) s.heap [] := ⟨hP, hD, va_S.rf⟩
  have hl := lv_entry [.ref (a_o 0), .ref (a_q1 0), .int p2, .int p3] (n := 8) (Nat.le_of_ble_eq_true rfl)
  refine W.eq (en_eq ha) ?_
  generalize (lg_sl [.ref (a_o 0), .ref (a_q1 0), .int p2, .int p3] ++ List.replicate (8 - (lg_sl [.ref (a_o 0), .ref (a_q1 0), .int p2, .int p3]).length) Slot.unset).toArray = ls at hl ⊢
  have hl : lv_has ls 8 [(0, .ref (a_o 0)), (1, .ref (a_q1 0)), (2, .int p2), (3, .int p3)] := hl
  clear hP hD B ha
  obtain ⟨Q, hQ⟩ : ∃ Q, Q = MQ below (Qgv D A (oc_X1 T a_o x_o9 ++ (oc_X0 T a_q1 x_q1 ++ Z))) args s 0 0 A := ⟨_, rfl⟩
  rw [← hQ]
  change W p l e (rmd 1) s m args below meth c s.heap [] 0 0 Q (F0 m 0 ls [])
  have J107 : ∀ (x_o_107 : Ob) (v2_107 : Int32) (v3_107 : Int32) (v5_107 : Int32) (v6_107 : Int32) (H : Heap) (locs : List Loc) (ls : Array Slot), Wd D A s.heap (oc_X1 T a_o x_o_107 ++ (oc_X0 T a_q1 x_q1 ++ Z)) H locs → lv_has ls 8 [(0, .ref (a_o 0)), (2, .int v2_107), (3, .int v3_107), (5, .int v5_107), (6, .int v6_107)] → f_X1_weigh_J107 x_o_107 x_q1 v2_107 v3_107 v5_107 v6_107 = some x_o9 → W p l e (rmd 1) s m args below meth c H locs 0 0 Q (F0 m 107 ls []) := by
    intro x_o_107 v2_107 v3_107 v5_107 v6_107 H locs ls hW hl h
    rw [f_X1_weigh_J107] at h
    refine lv_aload_n hx hb dX1_weigh_107 rfl (lv_at hl 0 rfl) ?_
    refine fg_X1_15 (v := .ref (a_o 1)) hx hb hts hown hK hW 0 rfl rfl dX1_weigh_108 ?_
    refine lv_iload_n hx hb dX1_weigh_111 rfl (lv_at hl 1 rfl) ?_
    refine lv_iload hx hb dX1_weigh_112 (lv_at hl 3 rfl) ?_
    obtain ⟨g16, h⟩ := grd_s h
    refine g_iast (ws9 := oc_X1 T a_o (upo x_o_107 1 v2_107.toNatClampNeg v5_107) ++ (oc_X0 T a_q1 x_q1 ++ Z)) hx hb hK hW 1 rfl g16 sa_X1_1 dX1_weigh_114 (fun H locs hW => ?_)
    obtain ⟨x_o17, ex_o17⟩ : ∃ y : Ob, y = upo x_o_107 1 v2_107.toNatClampNeg v5_107 := ⟨_, rfl⟩
    rw [← ex_o17] at hW
    have h := lb_at ex_o17 h
    refine lv_aload_n hx hb dX1_weigh_115 rfl (lv_at hl 0 rfl) ?_
    refine fg_X1_19 (v := .ref (a_o 2)) hx hb hts hown hK hW 0 rfl rfl dX1_weigh_116 ?_
    refine lv_iload_n hx hb dX1_weigh_119 rfl (lv_at hl 1 rfl) ?_
    refine lv_iload hx hb dX1_weigh_120 (lv_at hl 4 rfl) ?_
    obtain ⟨g18, h⟩ := grd_s h
    refine g_iast (ws9 := oc_X1 T a_o (upo x_o17 2 v2_107.toNatClampNeg v6_107) ++ (oc_X0 T a_q1 x_q1 ++ Z)) hx hb hK hW 2 rfl g18 sa_X1_2 dX1_weigh_122 (fun H locs hW => ?_)
    obtain ⟨x_o19, ex_o19⟩ : ∃ y : Ob, y = upo x_o17 2 v2_107.toNatClampNeg v6_107 := ⟨_, rfl⟩
    rw [← ex_o19] at hW
    have h := lb_at ex_o19 h
    refine lv_aload_n hx hb dX1_weigh_123 rfl (lv_at hl 0 rfl) ?_
    refine fg_X1_22 (v := .ref (a_o 3)) hx hb hts hown hK hW 0 rfl rfl dX1_weigh_124 ?_
    refine lv_iload_n hx hb dX1_weigh_127 rfl (lv_at hl 1 rfl) ?_
    refine lv_iload_n hx hb dX1_weigh_128 rfl (lv_at hl 2 rfl) ?_
    obtain ⟨g20, h⟩ := grd_s h
    refine g_iast (ws9 := oc_X1 T a_o (upo x_o19 3 v2_107.toNatClampNeg v3_107) ++ (oc_X0 T a_q1 x_q1 ++ Z)) hx hb hK hW 3 rfl g20 sa_X1_3 dX1_weigh_129 (fun H locs hW => ?_)
    obtain ⟨x_o21, ex_o21⟩ : ∃ y : Ob, y = upo x_o19 3 v2_107.toNatClampNeg v3_107 := ⟨_, rfl⟩
    rw [← ex_o21] at hW
    have h := lb_at ex_o21 h
    obtain rfl := ret1 h
    rw [hQ]
    exact g_retv hx hb hr hlk hW dX1_weigh_130
  have J91 : ∀ (x_o_91 : Ob) (v2_91 : Int32) (v3_91 : Int32) (v5_91 : Int32) (v6_91 : Int32) (s0_91 : Int32) (H : Heap) (locs : List Loc) (ls : Array Slot), Wd D A s.heap (oc_X1 T a_o x_o_91 ++ (oc_X0 T a_q1 x_q1 ++ Z)) H locs → lv_has ls 8 [(0, .ref (a_o 0)), (2, .int v2_91), (3, .int v3_91), (5, .int v5_91), (6, .int v6_91)] → f_X1_weigh_J91 x_o_91 x_q1 v2_91 v3_91 v5_91 v6_91 s0_91 = some x_o9 → W p l e (rmd 1) s m args below meth c H locs 0 0 Q (F0 m 91 ls [.int s0_91]) := by
    intro x_o_91 v2_91 v3_91 v5_91 v6_91 s0_91 H locs ls hW hl h
    rw [f_X1_weigh_J91] at h
    refine lv_istore (lv' := [(7, .int s0_91), (0, .ref (a_o 0)), (2, .int v2_91), (3, .int v3_91), (5, .int v5_91), (6, .int v6_91)]) hx hb dX1_weigh_91 hl (by decide) rfl (fun ls hl => ?_)
    refine lv_aload_n hx hb dX1_weigh_93 rfl (lv_at hl 1 rfl) ?_
    refine fg_X1_22 (v := .ref (a_o 3)) hx hb hts hown hK hW 0 rfl rfl dX1_weigh_94 ?_
    refine lv_iload_n hx hb dX1_weigh_97 rfl (lv_at hl 2 rfl) ?_
    obtain ⟨g14, h⟩ := grd_s h
    refine g_iald hx hb hK hW 3 rfl g14 dX1_weigh_98 ?_
    refine lv_if_eq (tgt := 107) hx hb dX1_weigh_99 (by decide) (fun c15 => ?_) (fun c15 => ?_)
    · have h := ite_t c15 h
      exact J107 _ _ _ _ _ H locs ls hW (lv_sub hl [1, 2, 3, 4, 5] rfl) h
    · have h := ite_f c15 h
      refine lv_iload hx hb dX1_weigh_102 (lv_at hl 0 rfl) ?_
      refine lv_if_eq (tgt := 130) hx hb dX1_weigh_104 (by decide) (fun c22 => ?_) (fun c22 => ?_)
      · have h := ite_t c22 h
        obtain rfl := ret1 h
        rw [hQ]
        exact g_retv hx hb hr hlk hW dX1_weigh_130
      · have h := ite_f c22 h
        exact J107 _ _ _ _ _ H locs ls hW (lv_sub hl [1, 2, 3, 4, 5] rfl) h
  have J86 : ∀ (x_o_86 : Ob) (v2_86 : Int32) (v3_86 : Int32) (v5_86 : Int32) (v6_86 : Int32) (H : Heap) (locs : List Loc) (ls : Array Slot), Wd D A s.heap (oc_X1 T a_o x_o_86 ++ (oc_X0 T a_q1 x_q1 ++ Z)) H locs → lv_has ls 8 [(0, .ref (a_o 0)), (2, .int v2_86), (3, .int v3_86), (5, .int v5_86), (6, .int v6_86)] → f_X1_weigh_J86 x_o_86 x_q1 v2_86 v3_86 v5_86 v6_86 = some x_o9 → W p l e (rmd 1) s m args below meth c H locs 0 0 Q (F0 m 86 ls []) := by
    intro x_o_86 v2_86 v3_86 v5_86 v6_86 H locs ls hW hl h
    rw [f_X1_weigh_J86] at h
    refine lv_iconst (v := 1) hx hb dX1_weigh_86 (by decide) ?_
    refine lv_goto (tgt := 91) hx hb dX1_weigh_87 (by decide) ?_
    exact J91 _ _ _ _ _ _ H locs ls hW (lv_sub hl [0, 1, 2, 3, 4] rfl) h
  have J90 : ∀ (x_o_90 : Ob) (v2_90 : Int32) (v3_90 : Int32) (v5_90 : Int32) (v6_90 : Int32) (H : Heap) (locs : List Loc) (ls : Array Slot), Wd D A s.heap (oc_X1 T a_o x_o_90 ++ (oc_X0 T a_q1 x_q1 ++ Z)) H locs → lv_has ls 8 [(0, .ref (a_o 0)), (2, .int v2_90), (3, .int v3_90), (5, .int v5_90), (6, .int v6_90)] → f_X1_weigh_J90 x_o_90 x_q1 v2_90 v3_90 v5_90 v6_90 = some x_o9 → W p l e (rmd 1) s m args below meth c H locs 0 0 Q (F0 m 90 ls []) := by
    intro x_o_90 v2_90 v3_90 v5_90 v6_90 H locs ls hW hl h
    rw [f_X1_weigh_J90] at h
    refine lv_iconst (v := 0) hx hb dX1_weigh_90 (by decide) ?_
    exact J91 _ _ _ _ _ _ H locs ls hW (lv_sub hl [0, 1, 2, 3, 4] rfl) h
  have J24 : ∀ (x_o_24 : Ob) (v2_24 : Int32) (v3_24 : Int32) (v4_24 : Int32) (H : Heap) (locs : List Loc) (ls : Array Slot), Wd D A s.heap (oc_X1 T a_o x_o_24 ++ (oc_X0 T a_q1 x_q1 ++ Z)) H locs → lv_has ls 8 [(0, .ref (a_o 0)), (1, .ref (a_q1 0)), (2, .int v2_24), (3, .int v3_24), (4, .int v4_24)] → f_X1_weigh_J24 x_o_24 x_q1 v2_24 v3_24 v4_24 = some x_o9 → W p l e (rmd 1) s m args below meth c H locs 0 0 Q (F0 m 24 ls []) := by
    intro x_o_24 v2_24 v3_24 v4_24 H locs ls hW hl h
    rw [f_X1_weigh_J24] at h
    refine lv_aload_n hx hb dX1_weigh_24 rfl (lv_at hl 0 rfl) ?_
    refine fg_X1_15 (v := .ref (a_o 1)) hx hb hts hown hK hW 0 rfl rfl dX1_weigh_25 ?_
    refine lv_iload_n hx hb dX1_weigh_28 rfl (lv_at hl 2 rfl) ?_
    refine lv_iload_n hx hb dX1_weigh_29 rfl (lv_at hl 3 rfl) ?_
    refine lv_iadd hx hb dX1_weigh_30 ?_
    obtain ⟨g6, h⟩ := grd_s h
    refine g_iald hx hb hK hW 1 rfl g6 dX1_weigh_31 ?_
    refine lv_iconst (v := 1) hx hb dX1_weigh_32 (by decide) ?_
    refine lv_iadd hx hb dX1_weigh_33 ?_
    refine lv_topi (fun w5_7 ew5_7 => ?_)
    have h := lb_at ew5_7 h
    refine lv_istore (lv' := [(5, .int w5_7), (0, .ref (a_o 0)), (1, .ref (a_q1 0)), (2, .int v2_24), (3, .int v3_24), (4, .int v4_24)]) hx hb dX1_weigh_34 hl (by decide) rfl (fun ls hl => ?_)
    refine lv_aload_n hx hb dX1_weigh_36 rfl (lv_at hl 1 rfl) ?_
    refine fg_X1_19 (v := .ref (a_o 2)) hx hb hts hown hK hW 0 rfl rfl dX1_weigh_37 ?_
    refine lv_iload_n hx hb dX1_weigh_40 rfl (lv_at hl 3 rfl) ?_
    refine lv_iload_n hx hb dX1_weigh_41 rfl (lv_at hl 4 rfl) ?_
    refine lv_iadd hx hb dX1_weigh_42 ?_
    obtain ⟨g8, h⟩ := grd_s h
    refine g_iald hx hb hK hW 2 rfl g8 dX1_weigh_43 ?_
    refine lv_aload_n hx hb dX1_weigh_44 rfl (lv_at hl 2 rfl) ?_
    refine lv_iload hx hb dX1_weigh_45 (lv_at hl 5 rfl) ?_
    have hW := hW.perm pf1
    obtain ⟨r9, q10, h⟩ := bnd1_s h
    refine cl_X1_47 hx hb hml hown hts hK hN hW (c_X0_priceOf l D T A a_q1 (oc_X1 T a_o x_o_24 ++ Z) x_q1 v4_24 r9 q10) ⟨Nat.le_of_ble_eq_true rfl, Nat.le_of_ble_eq_true rfl⟩ hl.1 rfl (Nat.le_of_ble_eq_true rfl) dX1_weigh_47 ⟨Nat.zero_le _, Nat.zero_le _⟩ rfl (fun H locs hW => ?_)
    have hW := hW.perm pf1
    refine lv_iadd hx hb dX1_weigh_50 ?_
    refine lv_topi (fun w6_11 ew6_11 => ?_)
    have h := lb_at ew6_11 h
    refine lv_istore (lv' := [(6, .int w6_11), (5, .int w5_7), (0, .ref (a_o 0)), (1, .ref (a_q1 0)), (2, .int v2_24), (3, .int v3_24), (4, .int v4_24)]) hx hb dX1_weigh_51 hl (by decide) rfl (fun ls hl => ?_)
    refine lv_iload hx hb dX1_weigh_53 (lv_at hl 1 rfl) ?_
    refine lv_aload_n hx hb dX1_weigh_55 rfl (lv_at hl 2 rfl) ?_
    refine fg_X1_15 (v := .ref (a_o 1)) hx hb hts hown hK hW 0 rfl rfl dX1_weigh_56 ?_
    refine lv_iload_n hx hb dX1_weigh_59 rfl (lv_at hl 4 rfl) ?_
    obtain ⟨g12, h⟩ := grd_s h
    refine g_iald hx hb hK hW 1 rfl g12 dX1_weigh_60 ?_
    refine lv_icmp_lt (tgt := 86) hx hb dX1_weigh_61 (by decide) (fun c13 => ?_) (fun c13 => ?_)
    · have h := ite_t c13 h
      exact J86 _ _ _ _ _ H locs ls hW (lv_sub hl [2, 4, 5, 1, 0] rfl) h
    · have h := ite_f c13 h
      refine lv_iload hx hb dX1_weigh_64 (lv_at hl 1 rfl) ?_
      refine lv_aload_n hx hb dX1_weigh_66 rfl (lv_at hl 2 rfl) ?_
      refine fg_X1_15 (v := .ref (a_o 1)) hx hb hts hown hK hW 0 rfl rfl dX1_weigh_67 ?_
      refine lv_iload_n hx hb dX1_weigh_70 rfl (lv_at hl 4 rfl) ?_
      obtain ⟨g23, h⟩ := grd_s h
      refine g_iald hx hb hK hW 1 rfl g23 dX1_weigh_71 ?_
      refine lv_icmp_ne (tgt := 90) hx hb dX1_weigh_72 (by decide) (fun c24 => ?_) (fun c24 => ?_)
      · have h := ite_f c24 h
        exact J90 _ _ _ _ _ H locs ls hW (lv_sub hl [2, 4, 5, 1, 0] rfl) h
      · have h := ite_t c24 h
        refine lv_iload hx hb dX1_weigh_75 (lv_at hl 0 rfl) ?_
        refine lv_aload_n hx hb dX1_weigh_77 rfl (lv_at hl 2 rfl) ?_
        refine fg_X1_19 (v := .ref (a_o 2)) hx hb hts hown hK hW 0 rfl rfl dX1_weigh_78 ?_
        refine lv_iload_n hx hb dX1_weigh_81 rfl (lv_at hl 4 rfl) ?_
        obtain ⟨g25, h⟩ := grd_s h
        refine g_iald hx hb hK hW 2 rfl g25 dX1_weigh_82 ?_
        refine lv_icmp_gt (tgt := 90) hx hb dX1_weigh_83 (by decide) (fun c26 => ?_) (fun c26 => ?_)
        · have h := ite_t c26 h
          exact J90 _ _ _ _ _ H locs ls hW (lv_sub hl [2, 4, 5, 1, 0] rfl) h
        · have h := ite_f c26 h
          exact J86 _ _ _ _ _ H locs ls hW (lv_sub hl [2, 4, 5, 1, 0] rfl) h
  rw [f_X1_weigh] at h
  suffices hm : ∀ (H : Heap) (locs : List Loc), Wd D A s.heap (oc_X1 T a_o x_o ++ (oc_X0 T a_q1 x_q1 ++ Z)) H locs → W p l e (rmd 1) s m args below meth c H locs 0 0 Q (F0 m 0 ls []) from hm _ _ hW
  intro H locs hW
  refine lv_aload_n hx hb dX1_weigh_0 rfl (lv_at hl 1 rfl) ?_
  refine lv_iload_n hx hb dX1_weigh_1 rfl (lv_at hl 2 rfl) ?_
  refine lv_iload_n hx hb dX1_weigh_2 rfl (lv_at hl 3 rfl) ?_
  obtain ⟨r1, q2, h⟩ := bnd1_s h
  refine cl_X1_41 hx hb hml hown hts hK hN hW (c_X10_spanOf l D T A (oc_X1 T a_o x_o ++ (oc_X0 T a_q1 x_q1 ++ Z)) p2 p3 r1 q2) ⟨Nat.le_of_ble_eq_true rfl, Nat.le_of_ble_eq_true rfl⟩ hl.1 rfl (Nat.le_of_ble_eq_true rfl) dX1_weigh_3 ⟨Nat.zero_le _, Nat.zero_le _⟩ rfl (fun H locs hW => ?_)
  refine lv_iconst (v := (-1)) hx hb dX1_weigh_6 (by decide) ?_
  have hW := hW.perm pf1
  obtain ⟨r3, q4, h⟩ := bnd1_s h
  refine cl_X1_44 hx hb hml hown hts hK hN hW (c_X0_cheapest l D T A a_q1 (oc_X1 T a_o x_o ++ Z) x_q1 r1 (-1) r3 q4) ⟨Nat.le_of_ble_eq_true rfl, Nat.le_of_ble_eq_true rfl⟩ hl.1 rfl (Nat.le_of_ble_eq_true rfl) dX1_weigh_7 ⟨Nat.zero_le _, Nat.zero_le _⟩ rfl (fun H locs hW => ?_)
  have hW := hW.perm pf1
  refine lv_istore (lv' := [(4, .int r3), (0, .ref (a_o 0)), (1, .ref (a_q1 0)), (2, .int p2), (3, .int p3)]) hx hb dX1_weigh_10 hl (by decide) rfl (fun ls hl => ?_)
  refine lv_iload hx hb dX1_weigh_12 (lv_at hl 0 rfl) ?_
  refine lv_iconst (v := (-1)) hx hb dX1_weigh_14 (by decide) ?_
  refine lv_icmp_ne (tgt := 24) hx hb dX1_weigh_15 (by decide) (fun c5 => ?_) (fun c5 => ?_)
  · have h := ite_f c5 h
    exact J24 _ _ _ _ H locs ls hW (lv_sub hl [1, 2, 3, 4, 0] rfl) h
  · have h := ite_t c5 h
    refine lv_iload_n hx hb dX1_weigh_18 rfl (lv_at hl 4 rfl) ?_
    refine lv_iconst (v := 1) hx hb dX1_weigh_19 (by decide) ?_
    refine lv_icmp_le (tgt := 24) hx hb dX1_weigh_20 (by decide) (fun c27 => ?_) (fun c27 => ?_)
    · have h := ite_t c27 h
      exact J24 _ _ _ _ H locs ls hW (lv_sub hl [1, 2, 3, 4, 0] rfl) h
    · have h := ite_f c27 h
      obtain rfl := ret1 h
      rw [hQ]
      exact g_retv hx hb hr hlk hW dX1_weigh_23
set_option maxHeartbeats 4000000 in
set_option maxRecDepth 100000 in
theorem c_X1_cut (l : Launch) (D : va_G) (T : Nat → ClassId) (A : Nat → Prop) (a_o : Nat → Nat) (a_q1 : Nat → Nat) (Z : va_W)  (x_o : Ob) (x_q1 : Ob) (x_o9 : Ob) (h : f_X1_cut x_o x_q1 = some x_o9) : Met l yX1_cut (Cond.code yX1_cut cX1_cut 4 none :: wsL_law) (rmd 2) (Pg D T A (oc_X1 T a_o x_o ++ (oc_X0 T a_q1 x_q1 ++ Z)) [.ref (a_o 0), .ref (a_q1 0)]) (Qgv D A (oc_X1 T a_o x_o9 ++ (oc_X0 T a_q1 x_q1 ++ Z))) 0 0 A := by
  refine Met.ofW (cc := cX1_cut) (maxL := 4) (ret := none) (by decide +kernel) rfl ?_
  intro p e s m args below meth c s₁ B hml hv
  obtain ⟨ha, hP, hK, hD, hN⟩ := hv
  have hx := B.exec
  have hb := B.bytes
  have hr := B.returns
  have hlk := B.notSynchronized
  have hts : ∀ w ∈ wsL_law, w.before args s = true := fun w hw => atoms_spec B.pre w (List.mem_cons_of_mem _ hw)
  have hown : s.vm.findClass RX1 = some m.cls := findClass_of_methodNamed B.named
  have hW : Wd D A s.heap (oc_X1 T a_o x_o ++ (oc_X0 T a_q1 x_q1 ++ Z)) s.heap [] := ⟨hP, hD, va_S.rf⟩
  have hl := lv_entry [.ref (a_o 0), .ref (a_q1 0)] (n := 4) (Nat.le_of_ble_eq_true rfl)
  refine W.eq (en_eq ha) ?_
  generalize (lg_sl [.ref (a_o 0), .ref (a_q1 0)] ++ List.replicate (4 - (lg_sl [.ref (a_o 0), .ref (a_q1 0)]).length) Slot.unset).toArray = ls at hl ⊢
  have hl : lv_has ls 4 [(0, .ref (a_o 0)), (1, .ref (a_q1 0))] := hl
  clear hP hD B ha
  obtain ⟨Q, hQ⟩ : ∃ Q, Q = MQ below (Qgv D A (oc_X1 T a_o x_o9 ++ (oc_X0 T a_q1 x_q1 ++ Z))) args s 0 0 A := ⟨_, rfl⟩
  rw [← hQ]
  change W p l e (rmd 2) s m args below meth c s.heap [] 0 0 Q (F0 m 0 ls [])
  have L67 : ∀ (n : Nat) (x_o_67 : Ob) (v2_67 : Int32) (v3_67 : Int32) (H : Heap) (locs : List Loc) (ls : Array Slot) (o3_67r : Int32) (y_o_67r : Ob), Wd D A s.heap (oc_X1 T a_o x_o_67 ++ (oc_X0 T a_q1 x_q1 ++ Z)) H locs → lv_has ls 4 [(0, .ref (a_o 0)), (1, .ref (a_q1 0)), (2, .int v2_67), (3, .int v3_67)] → f_X1_cut_L67 n x_o_67 x_q1 v2_67 v3_67 = some (o3_67r, y_o_67r) → (∀ (H : Heap) (locs : List Loc) (ls : Array Slot), Wd D A s.heap (oc_X1 T a_o y_o_67r ++ (oc_X0 T a_q1 x_q1 ++ Z)) H locs → lv_has ls 4 [(0, .ref (a_o 0)), (1, .ref (a_q1 0)), (2, .int v2_67)] → W p l e (rmd 2) s m args below meth c H locs 0 0 Q (F0 m 90 ls [])) → W p l e (rmd 2) s m args below meth c H locs 0 0 Q (F0 m 67 ls []) := by
    intro n
    induction n with
    | zero =>
      intro x_o_67 v2_67 v3_67 H locs ls o3_67r y_o_67r hW hl h k1
      rw [f_X1_cut_L67] at h
      cases h
    | succ n ih =>
      intro x_o_67 v2_67 v3_67 H locs ls o3_67r y_o_67r hW hl h k1
      rw [f_X1_cut_L67] at h
      refine lv_iload_n hx hb dX1_cut_67 rfl (lv_at hl 2 rfl) ?_
      refine lv_iload_n hx hb dX1_cut_68 rfl (lv_at hl 3 rfl) ?_
      refine lv_iadd hx hb dX1_cut_69 ?_
      refine lv_aload_n hx hb dX1_cut_70 rfl (lv_at hl 0 rfl) ?_
      refine fg_X1_9 (v := .int (x_o_67 0 0)) hx hb hts hown hK hW 0 rfl rfl dX1_cut_71 ?_
      refine lv_icmp_gt (tgt := 90) hx hb dX1_cut_74 (by decide) (fun c12 => ?_) (fun c12 => ?_)
      · have h := ite_t c12 h
        obtain ⟨rfl, rfl⟩ := ret2 h
        exact k1 H locs ls hW (lv_sub hl [0, 1, 2] rfl)
      · have h := ite_f c12 h
        refine lv_aload_n hx hb dX1_cut_77 rfl (lv_at hl 0 rfl) ?_
        refine lv_aload_n hx hb dX1_cut_78 rfl (lv_at hl 1 rfl) ?_
        refine lv_iload_n hx hb dX1_cut_79 rfl (lv_at hl 2 rfl) ?_
        refine lv_iload_n hx hb dX1_cut_80 rfl (lv_at hl 3 rfl) ?_
        obtain ⟨x_o13, q14, h⟩ := bnd1_s h
        refine cl_X1_37 hx hb hml hown hts hK hN hW (c_X1_weigh l D T A a_o a_q1 (Z) x_o_67 x_q1 v2_67 v3_67 x_o13 q14) ⟨Nat.le_of_ble_eq_true rfl, Nat.le_of_ble_eq_true rfl⟩ hl.1 rfl (Nat.le_of_ble_eq_true rfl) dX1_cut_81 ⟨Nat.zero_le _, Nat.zero_le _⟩ rfl (fun H locs hW => ?_)
        obtain ⟨w3_15, ew3_15⟩ : ∃ y : Int32, y = v3_67 + 1 := ⟨_, rfl⟩
        have h := lb_at ew3_15 h
        refine lv_iinc (v := w3_15) (lv' := [(3, .int w3_15), (0, .ref (a_o 0)), (1, .ref (a_q1 0)), (2, .int v2_67)]) hx hb dX1_cut_84 hl (k := 3) rfl (by rw [ew3_15]; rfl) (by decide) rfl (fun ls hl => ?_)
        refine lv_goto (tgt := 67) hx hb dX1_cut_87 (by decide) ?_
        exact ih _ _ _ H locs ls _ _ hW (lv_sub hl [1, 2, 3, 0] rfl) h k1
  have L54 : ∀ (n : Nat) (x_o_54 : Ob) (v2_54 : Int32) (H : Heap) (locs : List Loc) (ls : Array Slot) (o2_54r : Int32) (y_o_54r : Ob), Wd D A s.heap (oc_X1 T a_o x_o_54 ++ (oc_X0 T a_q1 x_q1 ++ Z)) H locs → lv_has ls 4 [(0, .ref (a_o 0)), (1, .ref (a_q1 0)), (2, .int v2_54)] → f_X1_cut_L54 n x_o_54 x_q1 v2_54 = some (o2_54r, y_o_54r) → (∀ (H : Heap) (locs : List Loc) (ls : Array Slot), Wd D A s.heap (oc_X1 T a_o y_o_54r ++ (oc_X0 T a_q1 x_q1 ++ Z)) H locs → lv_has ls 4 [] → W p l e (rmd 2) s m args below meth c H locs 0 0 Q (F0 m 96 ls [])) → W p l e (rmd 2) s m args below meth c H locs 0 0 Q (F0 m 54 ls []) := by
    intro n
    induction n with
    | zero =>
      intro x_o_54 v2_54 H locs ls o2_54r y_o_54r hW hl h k1
      rw [f_X1_cut_L54] at h
      cases h
    | succ n ih =>
      intro x_o_54 v2_54 H locs ls o2_54r y_o_54r hW hl h k1
      rw [f_X1_cut_L54] at h
      refine lv_iload_n hx hb dX1_cut_54 rfl (lv_at hl 2 rfl) ?_
      refine lv_if_lt (tgt := 96) hx hb dX1_cut_55 (by decide) (fun c9 => ?_) (fun c9 => ?_)
      · have h := ite_t c9 h
        obtain ⟨rfl, rfl⟩ := ret2 h
        exact k1 H locs ls hW (lv_sub hl [] rfl)
      · have h := ite_f c9 h
        refine lv_aload_n hx hb dX1_cut_58 rfl (lv_at hl 0 rfl) ?_
        refine fg_X1_22 (v := .ref (a_o 3)) hx hb hts hown hK hW 0 rfl rfl dX1_cut_59 ?_
        refine lv_iload_n hx hb dX1_cut_62 rfl (lv_at hl 2 rfl) ?_
        refine lv_iconst (v := 0) hx hb dX1_cut_63 (by decide) ?_
        obtain ⟨g10, h⟩ := grd_s h
        refine g_iast (ws9 := oc_X1 T a_o (upo x_o_54 3 v2_54.toNatClampNeg 0) ++ (oc_X0 T a_q1 x_q1 ++ Z)) hx hb hK hW 3 rfl g10 sa_X1_3 dX1_cut_64 (fun H locs hW => ?_)
        obtain ⟨x_o11, ex_o11⟩ : ∃ y : Ob, y = upo x_o_54 3 v2_54.toNatClampNeg 0 := ⟨_, rfl⟩
        rw [← ex_o11] at hW
        have h := lb_at ex_o11 h
        refine lv_iconst (v := 1) hx hb dX1_cut_65 (by decide) ?_
        refine lv_istore_n (lv' := [(3, .int 1), (0, .ref (a_o 0)), (1, .ref (a_q1 0)), (2, .int v2_54)]) hx hb dX1_cut_66 rfl hl (by decide) rfl (fun ls hl => ?_)
        obtain ⟨o3_u16, y_o_u16, q17, h⟩ := bnd2_s h
        refine L67 200 _ _ _ H locs ls o3_u16 y_o_u16 hW (lv_sub hl [1, 2, 3, 0] rfl) q17 (fun H locs ls hW hl => ?_)
        obtain ⟨w2_18, ew2_18⟩ : ∃ y : Int32, y = v2_54 + (-1) := ⟨_, rfl⟩
        have h := lb_at ew2_18 h
        refine lv_iinc (v := w2_18) (lv' := [(2, .int w2_18), (0, .ref (a_o 0)), (1, .ref (a_q1 0))]) hx hb dX1_cut_90 hl (k := 2) rfl (by rw [ew2_18]; rfl) (by decide) rfl (fun ls hl => ?_)
        refine lv_goto (tgt := 54) hx hb dX1_cut_93 (by decide) ?_
        exact ih _ _ H locs ls _ _ hW (lv_sub hl [1, 2, 0] rfl) h k1
  rw [f_X1_cut] at h
  suffices hm : ∀ (H : Heap) (locs : List Loc), Wd D A s.heap (oc_X1 T a_o x_o ++ (oc_X0 T a_q1 x_q1 ++ Z)) H locs → W p l e (rmd 2) s m args below meth c H locs 0 0 Q (F0 m 0 ls []) from hm _ _ hW
  intro H locs hW
  refine lv_aload_n hx hb dX1_cut_0 rfl (lv_at hl 0 rfl) ?_
  refine lv_iconst (v := 0) hx hb dX1_cut_1 (by decide) ?_
  refine lv_aload_n hx hb dX1_cut_2 rfl (lv_at hl 1 rfl) ?_
  refine fg_X1_25 (v := .int (x_q1 0 0)) hx hb hts hN hown hK hW 4 rfl rfl dX1_cut_3 ?_
  refine lv_bipush (v := 6) hx hb dX1_cut_6 (by decide) ?_
  refine va_mmin hx hb (hml.trans hl.1.symm) hown (hts _ wm26_1) (hts _ wm12_16) (hts _ wm12_17) (hts _ wm12_18) (Nat.le_of_ble_eq_true rfl) (Nat.le_of_ble_eq_true rfl) (Nat.zero_le _) (Nat.zero_le _) dX1_cut_8 ?_
  refine va_mmax hx hb (hml.trans hl.1.symm) hown (hts _ wm26_2) (hts _ wm19_0) (hts _ wm12_17) (hts _ wm19_1) (Nat.le_of_ble_eq_true rfl) (Nat.le_of_ble_eq_true rfl) (Nat.zero_le _) (Nat.zero_le _) dX1_cut_11 ?_
  refine fp_X1_9 (ws9 := oc_X1 T a_o (upo x_o 0 0 (if 0 < (if 6 < (x_q1 0 0) then 6 else (x_q1 0 0)) then (if 6 < (x_q1 0 0) then 6 else (x_q1 0 0)) else 0)) ++ (oc_X0 T a_q1 x_q1 ++ Z)) hx hb hts hown hK hW 0 rfl (Nat.le_of_ble_eq_true rfl) sf_X1_0 dX1_cut_14 (fun H locs hW => ?_)
  obtain ⟨x_o1, ex_o1⟩ : ∃ y : Ob, y = upo x_o 0 0 (if 0 < (if 6 < (x_q1 0 0) then 6 else (x_q1 0 0)) then (if 6 < (x_q1 0 0) then 6 else (x_q1 0 0)) else 0) := ⟨_, rfl⟩
  rw [← ex_o1] at hW
  have h := lb_at ex_o1 h
  refine lv_aload_n hx hb dX1_cut_17 rfl (lv_at hl 0 rfl) ?_
  refine fg_X1_15 (v := .ref (a_o 1)) hx hb hts hown hK hW 0 rfl rfl dX1_cut_18 ?_
  refine lv_aload_n hx hb dX1_cut_21 rfl (lv_at hl 0 rfl) ?_
  refine fg_X1_9 (v := .int (x_o1 0 0)) hx hb hts hown hK hW 0 rfl rfl dX1_cut_22 ?_
  refine lv_iconst (v := 0) hx hb dX1_cut_25 (by decide) ?_
  obtain ⟨g2, h⟩ := grd_s h
  refine g_iast (ws9 := oc_X1 T a_o (upo x_o1 1 (x_o1 0 0).toNatClampNeg 0) ++ (oc_X0 T a_q1 x_q1 ++ Z)) hx hb hK hW 1 rfl g2 sa_X1_1 dX1_cut_26 (fun H locs hW => ?_)
  obtain ⟨x_o3, ex_o3⟩ : ∃ y : Ob, y = upo x_o1 1 (x_o1 0 0).toNatClampNeg 0 := ⟨_, rfl⟩
  rw [← ex_o3] at hW
  have h := lb_at ex_o3 h
  refine lv_aload_n hx hb dX1_cut_27 rfl (lv_at hl 0 rfl) ?_
  refine fg_X1_19 (v := .ref (a_o 2)) hx hb hts hown hK hW 0 rfl rfl dX1_cut_28 ?_
  refine lv_aload_n hx hb dX1_cut_31 rfl (lv_at hl 0 rfl) ?_
  refine fg_X1_9 (v := .int (x_o3 0 0)) hx hb hts hown hK hW 0 rfl rfl dX1_cut_32 ?_
  refine lv_iconst (v := 0) hx hb dX1_cut_35 (by decide) ?_
  obtain ⟨g4, h⟩ := grd_s h
  refine g_iast (ws9 := oc_X1 T a_o (upo x_o3 2 (x_o3 0 0).toNatClampNeg 0) ++ (oc_X0 T a_q1 x_q1 ++ Z)) hx hb hK hW 2 rfl g4 sa_X1_2 dX1_cut_36 (fun H locs hW => ?_)
  obtain ⟨x_o5, ex_o5⟩ : ∃ y : Ob, y = upo x_o3 2 (x_o3 0 0).toNatClampNeg 0 := ⟨_, rfl⟩
  rw [← ex_o5] at hW
  have h := lb_at ex_o5 h
  refine lv_aload_n hx hb dX1_cut_37 rfl (lv_at hl 0 rfl) ?_
  refine fg_X1_22 (v := .ref (a_o 3)) hx hb hts hown hK hW 0 rfl rfl dX1_cut_38 ?_
  refine lv_aload_n hx hb dX1_cut_41 rfl (lv_at hl 0 rfl) ?_
  refine fg_X1_9 (v := .int (x_o5 0 0)) hx hb hts hown hK hW 0 rfl rfl dX1_cut_42 ?_
  refine lv_iconst (v := 0) hx hb dX1_cut_45 (by decide) ?_
  obtain ⟨g6, h⟩ := grd_s h
  refine g_iast (ws9 := oc_X1 T a_o (upo x_o5 3 (x_o5 0 0).toNatClampNeg 0) ++ (oc_X0 T a_q1 x_q1 ++ Z)) hx hb hK hW 3 rfl g6 sa_X1_3 dX1_cut_46 (fun H locs hW => ?_)
  obtain ⟨x_o7, ex_o7⟩ : ∃ y : Ob, y = upo x_o5 3 (x_o5 0 0).toNatClampNeg 0 := ⟨_, rfl⟩
  rw [← ex_o7] at hW
  have h := lb_at ex_o7 h
  refine lv_aload_n hx hb dX1_cut_47 rfl (lv_at hl 0 rfl) ?_
  refine fg_X1_9 (v := .int (x_o7 0 0)) hx hb hts hown hK hW 0 rfl rfl dX1_cut_48 ?_
  refine lv_iconst (v := 1) hx hb dX1_cut_51 (by decide) ?_
  refine lv_isub hx hb dX1_cut_52 ?_
  refine lv_topi (fun w2_8 ew2_8 => ?_)
  have h := lb_at ew2_8 h
  refine lv_istore_n (lv' := [(2, .int w2_8), (0, .ref (a_o 0)), (1, .ref (a_q1 0))]) hx hb dX1_cut_53 rfl hl (by decide) rfl (fun ls hl => ?_)
  obtain ⟨o2_u19, y_o_u19, q20, h⟩ := bnd2_s h
  refine L54 200 _ _ H locs ls o2_u19 y_o_u19 hW (lv_sub hl [1, 2, 0] rfl) q20 (fun H locs ls hW hl => ?_)
  obtain rfl := ret1 h
  rw [hQ]
  exact g_retv hx hb hr hlk hW dX1_cut_96
set_option maxHeartbeats 4000000 in
set_option maxRecDepth 100000 in
theorem c_X1_pieces (l : Launch) (D : va_G) (T : Nat → ClassId) (A : Nat → Prop) (a_o : Nat → Nat) (Z : va_W)  (x_o : Ob) (r : Int32) (h : f_X1_pieces x_o = some r) : Met l yX1_pieces (Cond.code yX1_pieces cX1_pieces 1 (some .int) :: wsL_law) (rmd 0) (Pg D T A (oc_X1 T a_o x_o ++ Z) [.ref (a_o 0)]) (Qgi D A (oc_X1 T a_o x_o ++ Z) r) 0 0 A := by
  refine Met.ofW (cc := cX1_pieces) (maxL := 1) (ret := (some .int)) (by decide +kernel) rfl ?_
  intro p e s m args below meth c s₁ B hml hv
  obtain ⟨ha, hP, hK, hD, hN⟩ := hv
  have hx := B.exec
  have hb := B.bytes
  have hr := B.returns
  have hlk := B.notSynchronized
  have hts : ∀ w ∈ wsL_law, w.before args s = true := fun w hw => atoms_spec B.pre w (List.mem_cons_of_mem _ hw)
  have hown : s.vm.findClass RX1 = some m.cls := findClass_of_methodNamed B.named
  have hW : Wd D A s.heap (oc_X1 T a_o x_o ++ Z) s.heap [] := ⟨hP, hD, va_S.rf⟩
  have hl := lv_entry [.ref (a_o 0)] (n := 1) (Nat.le_of_ble_eq_true rfl)
  refine W.eq (en_eq ha) ?_
  generalize (lg_sl [.ref (a_o 0)] ++ List.replicate (1 - (lg_sl [.ref (a_o 0)]).length) Slot.unset).toArray = ls at hl ⊢
  have hl : lv_has ls 1 [(0, .ref (a_o 0))] := hl
  clear hP hD B ha
  obtain ⟨Q, hQ⟩ : ∃ Q, Q = MQ below (Qgi D A (oc_X1 T a_o x_o ++ Z) r) args s 0 0 A := ⟨_, rfl⟩
  rw [← hQ]
  change W p l e (rmd 0) s m args below meth c s.heap [] 0 0 Q (F0 m 0 ls [])
  rw [f_X1_pieces] at h
  suffices hm : ∀ (H : Heap) (locs : List Loc), Wd D A s.heap (oc_X1 T a_o x_o ++ Z) H locs → W p l e (rmd 0) s m args below meth c H locs 0 0 Q (F0 m 0 ls []) from hm _ _ hW
  intro H locs hW
  refine lv_aload_n hx hb dX1_pieces_0 rfl (lv_at hl 0 rfl) ?_
  refine fg_X1_15 (v := .ref (a_o 1)) hx hb hts hown hK hW 0 rfl rfl dX1_pieces_1 ?_
  refine lv_iconst (v := 0) hx hb dX1_pieces_4 (by decide) ?_
  refine g_iald hx hb hK hW 1 rfl (by decide) dX1_pieces_5 ?_
  obtain rfl := ret1 h
  rw [hQ]
  exact g_reti hx hb hr hlk hW dX1_pieces_6
set_option maxHeartbeats 4000000 in
set_option maxRecDepth 100000 in
theorem c_X1_wordsFrom (l : Launch) (D : va_G) (T : Nat → ClassId) (A : Nat → Prop) (a_o : Nat → Nat) (Z : va_W)  (x_o : Ob) (p1 : Int32) (r : Int32) (h : f_X1_wordsFrom x_o p1 = some r) : Met l yX1_wordsFrom (Cond.code yX1_wordsFrom cX1_wordsFrom 2 (some .int) :: wsL_law) (rmd 1) (Pg D T A (oc_X1 T a_o x_o ++ Z) [.ref (a_o 0), .int p1]) (Qgi D A (oc_X1 T a_o x_o ++ Z) r) 0 0 A := by
  refine Met.ofW (cc := cX1_wordsFrom) (maxL := 2) (ret := (some .int)) (by decide +kernel) rfl ?_
  intro p e s m args below meth c s₁ B hml hv
  obtain ⟨ha, hP, hK, hD, hN⟩ := hv
  have hx := B.exec
  have hb := B.bytes
  have hr := B.returns
  have hlk := B.notSynchronized
  have hts : ∀ w ∈ wsL_law, w.before args s = true := fun w hw => atoms_spec B.pre w (List.mem_cons_of_mem _ hw)
  have hown : s.vm.findClass RX1 = some m.cls := findClass_of_methodNamed B.named
  have hW : Wd D A s.heap (oc_X1 T a_o x_o ++ Z) s.heap [] := ⟨hP, hD, va_S.rf⟩
  have hl := lv_entry [.ref (a_o 0), .int p1] (n := 2) (Nat.le_of_ble_eq_true rfl)
  refine W.eq (en_eq ha) ?_
  generalize (lg_sl [.ref (a_o 0), .int p1] ++ List.replicate (2 - (lg_sl [.ref (a_o 0), .int p1]).length) Slot.unset).toArray = ls at hl ⊢
  have hl : lv_has ls 2 [(0, .ref (a_o 0)), (1, .int p1)] := hl
  clear hP hD B ha
  obtain ⟨Q, hQ⟩ : ∃ Q, Q = MQ below (Qgi D A (oc_X1 T a_o x_o ++ Z) r) args s 0 0 A := ⟨_, rfl⟩
  rw [← hQ]
  change W p l e (rmd 1) s m args below meth c s.heap [] 0 0 Q (F0 m 0 ls [])
  rw [f_X1_wordsFrom] at h
  suffices hm : ∀ (H : Heap) (locs : List Loc), Wd D A s.heap (oc_X1 T a_o x_o ++ Z) H locs → W p l e (rmd 1) s m args below meth c H locs 0 0 Q (F0 m 0 ls []) from hm _ _ hW
  intro H locs hW
  refine lv_iload_n hx hb dX1_wordsFrom_0 rfl (lv_at hl 1 rfl) ?_
  refine lv_aload_n hx hb dX1_wordsFrom_1 rfl (lv_at hl 0 rfl) ?_
  refine fg_X1_9 (v := .int (x_o 0 0)) hx hb hts hown hK hW 0 rfl rfl dX1_wordsFrom_2 ?_
  obtain ⟨r1, q2, h⟩ := bnd1_s h
  refine cl_X1_54 hx hb hml hown hts hK hN hW (c_X10_isBelow l D T A (oc_X1 T a_o x_o ++ Z) p1 (x_o 0 0) r1 q2) ⟨Nat.le_of_ble_eq_true rfl, Nat.le_of_ble_eq_true rfl⟩ hl.1 rfl (Nat.le_of_ble_eq_true rfl) dX1_wordsFrom_5 ⟨Nat.zero_le _, Nat.zero_le _⟩ rfl (fun H locs hW => ?_)
  refine lv_if_eq (tgt := 20) hx hb dX1_wordsFrom_8 (by decide) (fun c3 => ?_) (fun c3 => ?_)
  · have h := ite_t c3 h
    refine lv_iconst (v := 0) hx hb dX1_wordsFrom_20 (by decide) ?_
    obtain rfl := ret1 h
    rw [hQ]
    exact g_reti hx hb hr hlk hW dX1_wordsFrom_21
  · have h := ite_f c3 h
    refine lv_aload_n hx hb dX1_wordsFrom_11 rfl (lv_at hl 0 rfl) ?_
    refine fg_X1_22 (v := .ref (a_o 3)) hx hb hts hown hK hW 0 rfl rfl dX1_wordsFrom_12 ?_
    refine lv_iload_n hx hb dX1_wordsFrom_15 rfl (lv_at hl 1 rfl) ?_
    obtain ⟨g4, h⟩ := grd_s h
    refine g_iald hx hb hK hW 3 rfl g4 dX1_wordsFrom_16 ?_
    refine lv_goto (tgt := 21) hx hb dX1_wordsFrom_17 (by decide) ?_
    obtain rfl := ret1 h
    rw [hQ]
    exact g_reti hx hb hr hlk hW dX1_wordsFrom_21
set_option maxHeartbeats 4000000 in
set_option maxRecDepth 100000 in
theorem c_X1_placeOf (l : Launch) (D : va_G) (T : Nat → ClassId) (A : Nat → Prop) (a_o : Nat → Nat) (Z : va_W)  (x_o : Ob) (p1 : Int32) (r : Int32) (h : f_X1_placeOf x_o p1 = some r) : Met l yX1_placeOf (Cond.code yX1_placeOf cX1_placeOf 4 (some .int) :: wsL_law) (rmd 2) (Pg D T A (oc_X1 T a_o x_o ++ Z) [.ref (a_o 0), .int p1]) (Qgi D A (oc_X1 T a_o x_o ++ Z) r) 0 0 A := by
  refine Met.ofW (cc := cX1_placeOf) (maxL := 4) (ret := (some .int)) (by decide +kernel) rfl ?_
  intro p e s m args below meth c s₁ B hml hv
  obtain ⟨ha, hP, hK, hD, hN⟩ := hv
  have hx := B.exec
  have hb := B.bytes
  have hr := B.returns
  have hlk := B.notSynchronized
  have hts : ∀ w ∈ wsL_law, w.before args s = true := fun w hw => atoms_spec B.pre w (List.mem_cons_of_mem _ hw)
  have hown : s.vm.findClass RX1 = some m.cls := findClass_of_methodNamed B.named
  have hW : Wd D A s.heap (oc_X1 T a_o x_o ++ Z) s.heap [] := ⟨hP, hD, va_S.rf⟩
  have hl := lv_entry [.ref (a_o 0), .int p1] (n := 4) (Nat.le_of_ble_eq_true rfl)
  refine W.eq (en_eq ha) ?_
  generalize (lg_sl [.ref (a_o 0), .int p1] ++ List.replicate (4 - (lg_sl [.ref (a_o 0), .int p1]).length) Slot.unset).toArray = ls at hl ⊢
  have hl : lv_has ls 4 [(0, .ref (a_o 0)), (1, .int p1)] := hl
  clear hP hD B ha
  obtain ⟨Q, hQ⟩ : ∃ Q, Q = MQ below (Qgi D A (oc_X1 T a_o x_o ++ Z) r) args s 0 0 A := ⟨_, rfl⟩
  rw [← hQ]
  change W p l e (rmd 2) s m args below meth c s.heap [] 0 0 Q (F0 m 0 ls [])
  have L4 : ∀ (n : Nat) (v1_4 : Int32) (v2_4 : Int32) (v3_4 : Int32) (H : Heap) (locs : List Loc) (ls : Array Slot) (o2_4r : Int32) (o3_4r : Int32), Wd D A s.heap (oc_X1 T a_o x_o ++ Z) H locs → lv_has ls 4 [(0, .ref (a_o 0)), (1, .int v1_4), (2, .int v2_4), (3, .int v3_4)] → f_X1_placeOf_L4 n x_o v1_4 v2_4 v3_4 = some (o2_4r, o3_4r) → (∀ (H : Heap) (locs : List Loc) (ls : Array Slot), Wd D A s.heap (oc_X1 T a_o x_o ++ Z) H locs → lv_has ls 4 [(2, .int o2_4r)] → W p l e (rmd 2) s m args below meth c H locs 0 0 Q (F0 m 31 ls [])) → W p l e (rmd 2) s m args below meth c H locs 0 0 Q (F0 m 4 ls []) := by
    intro n
    induction n with
    | zero =>
      intro v1_4 v2_4 v3_4 H locs ls o2_4r o3_4r hW hl h k1
      rw [f_X1_placeOf_L4] at h
      cases h
    | succ n ih =>
      intro v1_4 v2_4 v3_4 H locs ls o2_4r o3_4r hW hl h k1
      rw [f_X1_placeOf_L4] at h
      refine lv_iload_n hx hb dX1_placeOf_4 rfl (lv_at hl 3 rfl) ?_
      refine lv_iload_n hx hb dX1_placeOf_5 rfl (lv_at hl 1 rfl) ?_
      refine lv_icmp_ge (tgt := 31) hx hb dX1_placeOf_6 (by decide) (fun c1 => ?_) (fun c1 => ?_)
      · have h := ite_t c1 h
        obtain ⟨rfl, rfl⟩ := ret2 h
        exact k1 H locs ls hW (lv_sub hl [2] rfl)
      · have h := ite_f c1 h
        refine lv_iload_n hx hb dX1_placeOf_9 rfl (lv_at hl 2 rfl) ?_
        refine lv_aload_n hx hb dX1_placeOf_10 rfl (lv_at hl 0 rfl) ?_
        refine fg_X1_9 (v := .int (x_o 0 0)) hx hb hts hown hK hW 0 rfl rfl dX1_placeOf_11 ?_
        refine lv_icmp_ge (tgt := 31) hx hb dX1_placeOf_14 (by decide) (fun c2 => ?_) (fun c2 => ?_)
        · have h := ite_t c2 h
          obtain ⟨rfl, rfl⟩ := ret2 h
          exact k1 H locs ls hW (lv_sub hl [2] rfl)
        · have h := ite_f c2 h
          refine lv_iload_n hx hb dX1_placeOf_17 rfl (lv_at hl 2 rfl) ?_
          refine lv_aload_n hx hb dX1_placeOf_18 rfl (lv_at hl 0 rfl) ?_
          refine lv_iload_n hx hb dX1_placeOf_19 rfl (lv_at hl 2 rfl) ?_
          obtain ⟨r3, q4, h⟩ := bnd1_s h
          refine cl_X1_51 hx hb hml hown hts hK hN hW (c_X1_wordsFrom l D T A a_o (Z) x_o v2_4 r3 q4) ⟨Nat.le_of_ble_eq_true rfl, Nat.le_of_ble_eq_true rfl⟩ hl.1 rfl (Nat.le_of_ble_eq_true rfl) dX1_placeOf_20 ⟨Nat.zero_le _, Nat.zero_le _⟩ rfl (fun H locs hW => ?_)
          refine lv_iadd hx hb dX1_placeOf_23 ?_
          refine lv_topi (fun w2_5 ew2_5 => ?_)
          have h := lb_at ew2_5 h
          refine lv_istore_n (lv' := [(2, .int w2_5), (0, .ref (a_o 0)), (1, .int v1_4), (3, .int v3_4)]) hx hb dX1_placeOf_24 rfl hl (by decide) rfl (fun ls hl => ?_)
          obtain ⟨w3_6, ew3_6⟩ : ∃ y : Int32, y = v3_4 + 1 := ⟨_, rfl⟩
          have h := lb_at ew3_6 h
          refine lv_iinc (v := w3_6) (lv' := [(3, .int w3_6), (2, .int w2_5), (0, .ref (a_o 0)), (1, .int v1_4)]) hx hb dX1_placeOf_25 hl (k := 3) rfl (by rw [ew3_6]; rfl) (by decide) rfl (fun ls hl => ?_)
          refine lv_goto (tgt := 4) hx hb dX1_placeOf_28 (by decide) ?_
          exact ih _ _ _ H locs ls _ _ hW (lv_sub hl [2, 3, 1, 0] rfl) h k1
  rw [f_X1_placeOf] at h
  suffices hm : ∀ (H : Heap) (locs : List Loc), Wd D A s.heap (oc_X1 T a_o x_o ++ Z) H locs → W p l e (rmd 2) s m args below meth c H locs 0 0 Q (F0 m 0 ls []) from hm _ _ hW
  intro H locs hW
  refine lv_iconst (v := 0) hx hb dX1_placeOf_0 (by decide) ?_
  refine lv_istore_n (lv' := [(2, .int 0), (0, .ref (a_o 0)), (1, .int p1)]) hx hb dX1_placeOf_1 rfl hl (by decide) rfl (fun ls hl => ?_)
  refine lv_iconst (v := 0) hx hb dX1_placeOf_2 (by decide) ?_
  refine lv_istore_n (lv' := [(3, .int 0), (2, .int 0), (0, .ref (a_o 0)), (1, .int p1)]) hx hb dX1_placeOf_3 rfl hl (by decide) rfl (fun ls hl => ?_)
  obtain ⟨o2_u7, o3_u7, q8, h⟩ := bnd2_s h
  refine L4 200 _ _ _ H locs ls o2_u7 o3_u7 hW (lv_sub hl [2, 3, 1, 0] rfl) q8 (fun H locs ls hW hl => ?_)
  refine lv_iload_n hx hb dX1_placeOf_31 rfl (lv_at hl 0 rfl) ?_
  obtain rfl := ret1 h
  rw [hQ]
  exact g_reti hx hb hr hlk hW dX1_placeOf_32
set_option maxHeartbeats 4000000 in
set_option maxRecDepth 100000 in
theorem c_X2_isFull (l : Launch) (D : va_G) (T : Nat → ClassId) (A : Nat → Prop) (a_o : Nat → Nat) (Z : va_W)  (x_o : Ob) (r : Int32) (h : f_X2_isFull x_o = some r) : Met l yX2_isFull (Cond.code yX2_isFull cX2_isFull 1 (some .boolean) :: wsL_law) (rmd 0) (Pg D T A (oc_X2 T a_o x_o ++ Z) [.ref (a_o 0)]) (Qgi D A (oc_X2 T a_o x_o ++ Z) r) 0 0 A := by
  refine Met.ofW (cc := cX2_isFull) (maxL := 1) (ret := (some .boolean)) (by decide +kernel) rfl ?_
  intro p e s m args below meth c s₁ B hml hv
  obtain ⟨ha, hP, hK, hD, hN⟩ := hv
  have hx := B.exec
  have hb := B.bytes
  have hr := B.returns
  have hlk := B.notSynchronized
  have hts : ∀ w ∈ wsL_law, w.before args s = true := fun w hw => atoms_spec B.pre w (List.mem_cons_of_mem _ hw)
  have hown : s.vm.findClass RX2 = some m.cls := findClass_of_methodNamed B.named
  have hW : Wd D A s.heap (oc_X2 T a_o x_o ++ Z) s.heap [] := ⟨hP, hD, va_S.rf⟩
  have hl := lv_entry [.ref (a_o 0)] (n := 1) (Nat.le_of_ble_eq_true rfl)
  refine W.eq (en_eq ha) ?_
  generalize (lg_sl [.ref (a_o 0)] ++ List.replicate (1 - (lg_sl [.ref (a_o 0)]).length) Slot.unset).toArray = ls at hl ⊢
  have hl : lv_has ls 1 [(0, .ref (a_o 0))] := hl
  clear hP hD B ha
  obtain ⟨Q, hQ⟩ : ∃ Q, Q = MQ below (Qgi D A (oc_X2 T a_o x_o ++ Z) r) args s 0 0 A := ⟨_, rfl⟩
  rw [← hQ]
  change W p l e (rmd 0) s m args below meth c s.heap [] 0 0 Q (F0 m 0 ls [])
  rw [f_X2_isFull] at h
  suffices hm : ∀ (H : Heap) (locs : List Loc), Wd D A s.heap (oc_X2 T a_o x_o ++ Z) H locs → W p l e (rmd 0) s m args below meth c H locs 0 0 Q (F0 m 0 ls []) from hm _ _ hW
  intro H locs hW
  refine lv_aload_n hx hb dX2_isFull_0 rfl (lv_at hl 0 rfl) ?_
  refine fg_X2_9 (v := .int (x_o 0 0)) hx hb hts hown hK hW 0 rfl rfl dX2_isFull_1 ?_
  refine lv_bipush (v := 16) hx hb dX2_isFull_4 (by decide) ?_
  refine lv_icmp_lt (tgt := 13) hx hb dX2_isFull_6 (by decide) (fun c1 => ?_) (fun c1 => ?_)
  · have h := ite_t c1 h
    refine lv_iconst (v := 0) hx hb dX2_isFull_13 (by decide) ?_
    obtain rfl := ret1 h
    rw [hQ]
    exact g_retz hx hb hr hlk hW (by decide) dX2_isFull_14
  · have h := ite_f c1 h
    refine lv_iconst (v := 1) hx hb dX2_isFull_9 (by decide) ?_
    refine lv_goto (tgt := 14) hx hb dX2_isFull_10 (by decide) ?_
    obtain rfl := ret1 h
    rw [hQ]
    exact g_retz hx hb hr hlk hW (by decide) dX2_isFull_14
set_option maxHeartbeats 4000000 in
set_option maxRecDepth 100000 in
theorem c_X2_hasRule (l : Launch) (D : va_G) (T : Nat → ClassId) (A : Nat → Prop) (a_o : Nat → Nat) (Z : va_W)  (x_o : Ob) (p1 : Int32) (r : Int32) (h : f_X2_hasRule x_o p1 = some r) : Met l yX2_hasRule (Cond.code yX2_hasRule cX2_hasRule 2 (some .boolean) :: wsL_law) (rmd 0) (Pg D T A (oc_X2 T a_o x_o ++ Z) [.ref (a_o 0), .int p1]) (Qgi D A (oc_X2 T a_o x_o ++ Z) r) 0 0 A := by
  refine Met.ofW (cc := cX2_hasRule) (maxL := 2) (ret := (some .boolean)) (by decide +kernel) rfl ?_
  intro p e s m args below meth c s₁ B hml hv
  obtain ⟨ha, hP, hK, hD, hN⟩ := hv
  have hx := B.exec
  have hb := B.bytes
  have hr := B.returns
  have hlk := B.notSynchronized
  have hts : ∀ w ∈ wsL_law, w.before args s = true := fun w hw => atoms_spec B.pre w (List.mem_cons_of_mem _ hw)
  have hown : s.vm.findClass RX2 = some m.cls := findClass_of_methodNamed B.named
  have hW : Wd D A s.heap (oc_X2 T a_o x_o ++ Z) s.heap [] := ⟨hP, hD, va_S.rf⟩
  have hl := lv_entry [.ref (a_o 0), .int p1] (n := 2) (Nat.le_of_ble_eq_true rfl)
  refine W.eq (en_eq ha) ?_
  generalize (lg_sl [.ref (a_o 0), .int p1] ++ List.replicate (2 - (lg_sl [.ref (a_o 0), .int p1]).length) Slot.unset).toArray = ls at hl ⊢
  have hl : lv_has ls 2 [(0, .ref (a_o 0)), (1, .int p1)] := hl
  clear hP hD B ha
  obtain ⟨Q, hQ⟩ : ∃ Q, Q = MQ below (Qgi D A (oc_X2 T a_o x_o ++ Z) r) args s 0 0 A := ⟨_, rfl⟩
  rw [← hQ]
  change W p l e (rmd 0) s m args below meth c s.heap [] 0 0 Q (F0 m 0 ls [])
  rw [f_X2_hasRule] at h
  suffices hm : ∀ (H : Heap) (locs : List Loc), Wd D A s.heap (oc_X2 T a_o x_o ++ Z) H locs → W p l e (rmd 0) s m args below meth c H locs 0 0 Q (F0 m 0 ls []) from hm _ _ hW
  intro H locs hW
  refine lv_iload_n hx hb dX2_hasRule_0 rfl (lv_at hl 1 rfl) ?_
  refine lv_if_lt (tgt := 16) hx hb dX2_hasRule_1 (by decide) (fun c1 => ?_) (fun c1 => ?_)
  · have h := ite_t c1 h
    refine lv_iconst (v := 0) hx hb dX2_hasRule_16 (by decide) ?_
    obtain rfl := ret1 h
    rw [hQ]
    exact g_retz hx hb hr hlk hW (by decide) dX2_hasRule_17
  · have h := ite_f c1 h
    refine lv_iload_n hx hb dX2_hasRule_4 rfl (lv_at hl 1 rfl) ?_
    refine lv_aload_n hx hb dX2_hasRule_5 rfl (lv_at hl 0 rfl) ?_
    refine fg_X2_9 (v := .int (x_o 0 0)) hx hb hts hown hK hW 0 rfl rfl dX2_hasRule_6 ?_
    refine lv_icmp_ge (tgt := 16) hx hb dX2_hasRule_9 (by decide) (fun c2 => ?_) (fun c2 => ?_)
    · have h := ite_t c2 h
      refine lv_iconst (v := 0) hx hb dX2_hasRule_16 (by decide) ?_
      obtain rfl := ret1 h
      rw [hQ]
      exact g_retz hx hb hr hlk hW (by decide) dX2_hasRule_17
    · have h := ite_f c2 h
      refine lv_iconst (v := 1) hx hb dX2_hasRule_12 (by decide) ?_
      refine lv_goto (tgt := 17) hx hb dX2_hasRule_13 (by decide) ?_
      obtain rfl := ret1 h
      rw [hQ]
      exact g_retz hx hb hr hlk hW (by decide) dX2_hasRule_17
set_option maxHeartbeats 4000000 in
set_option maxRecDepth 100000 in
theorem c_X2_isRuleFull (l : Launch) (D : va_G) (T : Nat → ClassId) (A : Nat → Prop) (a_o : Nat → Nat) (Z : va_W)  (x_o : Ob) (p1 : Int32) (r : Int32) (h : f_X2_isRuleFull x_o p1 = some r) : Met l yX2_isRuleFull (Cond.code yX2_isRuleFull cX2_isRuleFull 2 (some .boolean) :: wsL_law) (rmd 1) (Pg D T A (oc_X2 T a_o x_o ++ Z) [.ref (a_o 0), .int p1]) (Qgi D A (oc_X2 T a_o x_o ++ Z) r) 0 0 A := by
  refine Met.ofW (cc := cX2_isRuleFull) (maxL := 2) (ret := (some .boolean)) (by decide +kernel) rfl ?_
  intro p e s m args below meth c s₁ B hml hv
  obtain ⟨ha, hP, hK, hD, hN⟩ := hv
  have hx := B.exec
  have hb := B.bytes
  have hr := B.returns
  have hlk := B.notSynchronized
  have hts : ∀ w ∈ wsL_law, w.before args s = true := fun w hw => atoms_spec B.pre w (List.mem_cons_of_mem _ hw)
  have hown : s.vm.findClass RX2 = some m.cls := findClass_of_methodNamed B.named
  have hW : Wd D A s.heap (oc_X2 T a_o x_o ++ Z) s.heap [] := ⟨hP, hD, va_S.rf⟩
  have hl := lv_entry [.ref (a_o 0), .int p1] (n := 2) (Nat.le_of_ble_eq_true rfl)
  refine W.eq (en_eq ha) ?_
  generalize (lg_sl [.ref (a_o 0), .int p1] ++ List.replicate (2 - (lg_sl [.ref (a_o 0), .int p1]).length) Slot.unset).toArray = ls at hl ⊢
  have hl : lv_has ls 2 [(0, .ref (a_o 0)), (1, .int p1)] := hl
  clear hP hD B ha
  obtain ⟨Q, hQ⟩ : ∃ Q, Q = MQ below (Qgi D A (oc_X2 T a_o x_o ++ Z) r) args s 0 0 A := ⟨_, rfl⟩
  rw [← hQ]
  change W p l e (rmd 1) s m args below meth c s.heap [] 0 0 Q (F0 m 0 ls [])
  rw [f_X2_isRuleFull] at h
  suffices hm : ∀ (H : Heap) (locs : List Loc), Wd D A s.heap (oc_X2 T a_o x_o ++ Z) H locs → W p l e (rmd 1) s m args below meth c H locs 0 0 Q (F0 m 0 ls []) from hm _ _ hW
  intro H locs hW
  refine lv_aload_n hx hb dX2_isRuleFull_0 rfl (lv_at hl 0 rfl) ?_
  refine lv_iload_n hx hb dX2_isRuleFull_1 rfl (lv_at hl 1 rfl) ?_
  obtain ⟨r1, q2, h⟩ := bnd1_s h
  refine cl_X2_58 hx hb hml hown hts hK hN hW (c_X2_hasRule l D T A a_o (Z) x_o p1 r1 q2) ⟨Nat.le_of_ble_eq_true rfl, Nat.le_of_ble_eq_true rfl⟩ hl.1 rfl (Nat.le_of_ble_eq_true rfl) dX2_isRuleFull_2 ⟨Nat.zero_le _, Nat.zero_le _⟩ rfl (fun H locs hW => ?_)
  refine lv_if_eq (tgt := 18) hx hb dX2_isRuleFull_5 (by decide) (fun c3 => ?_) (fun c3 => ?_)
  · have h := ite_t c3 h
    refine lv_iconst (v := 1) hx hb dX2_isRuleFull_18 (by decide) ?_
    refine lv_goto (tgt := 23) hx hb dX2_isRuleFull_19 (by decide) ?_
    obtain rfl := ret1 h
    rw [hQ]
    exact g_retz hx hb hr hlk hW (by decide) dX2_isRuleFull_23
  · have h := ite_f c3 h
    refine lv_aload_n hx hb dX2_isRuleFull_8 rfl (lv_at hl 0 rfl) ?_
    refine fg_X2_34 (v := .ref (a_o 6)) hx hb hts hown hK hW 0 rfl rfl dX2_isRuleFull_9 ?_
    refine lv_iload_n hx hb dX2_isRuleFull_12 rfl (lv_at hl 1 rfl) ?_
    obtain ⟨g4, h⟩ := grd_s h
    refine g_iald hx hb hK hW 6 rfl g4 dX2_isRuleFull_13 ?_
    refine lv_iconst (v := 3) hx hb dX2_isRuleFull_14 (by decide) ?_
    refine lv_icmp_lt (tgt := 22) hx hb dX2_isRuleFull_15 (by decide) (fun c5 => ?_) (fun c5 => ?_)
    · have h := ite_t c5 h
      refine lv_iconst (v := 0) hx hb dX2_isRuleFull_22 (by decide) ?_
      obtain rfl := ret1 h
      rw [hQ]
      exact g_retz hx hb hr hlk hW (by decide) dX2_isRuleFull_23
    · have h := ite_f c5 h
      refine lv_iconst (v := 1) hx hb dX2_isRuleFull_18 (by decide) ?_
      refine lv_goto (tgt := 23) hx hb dX2_isRuleFull_19 (by decide) ?_
      obtain rfl := ret1 h
      rw [hQ]
      exact g_retz hx hb hr hlk hW (by decide) dX2_isRuleFull_23
set_option maxHeartbeats 4000000 in
set_option maxRecDepth 100000 in
theorem c_X2_parentOf (l : Launch) (D : va_G) (T : Nat → ClassId) (A : Nat → Prop) (a_o : Nat → Nat) (Z : va_W)  (x_o : Ob) (p1 : Int32) (r : Int32) (h : f_X2_parentOf x_o p1 = some r) : Met l yX2_parentOf (Cond.code yX2_parentOf cX2_parentOf 2 (some .int) :: wsL_law) (rmd 0) (Pg D T A (oc_X2 T a_o x_o ++ Z) [.ref (a_o 0), .int p1]) (Qgi D A (oc_X2 T a_o x_o ++ Z) r) 0 0 A := by
  refine Met.ofW (cc := cX2_parentOf) (maxL := 2) (ret := (some .int)) (by decide +kernel) rfl ?_
  intro p e s m args below meth c s₁ B hml hv
  obtain ⟨ha, hP, hK, hD, hN⟩ := hv
  have hx := B.exec
  have hb := B.bytes
  have hr := B.returns
  have hlk := B.notSynchronized
  have hts : ∀ w ∈ wsL_law, w.before args s = true := fun w hw => atoms_spec B.pre w (List.mem_cons_of_mem _ hw)
  have hown : s.vm.findClass RX2 = some m.cls := findClass_of_methodNamed B.named
  have hW : Wd D A s.heap (oc_X2 T a_o x_o ++ Z) s.heap [] := ⟨hP, hD, va_S.rf⟩
  have hl := lv_entry [.ref (a_o 0), .int p1] (n := 2) (Nat.le_of_ble_eq_true rfl)
  refine W.eq (en_eq ha) ?_
  generalize (lg_sl [.ref (a_o 0), .int p1] ++ List.replicate (2 - (lg_sl [.ref (a_o 0), .int p1]).length) Slot.unset).toArray = ls at hl ⊢
  have hl : lv_has ls 2 [(0, .ref (a_o 0)), (1, .int p1)] := hl
  clear hP hD B ha
  obtain ⟨Q, hQ⟩ : ∃ Q, Q = MQ below (Qgi D A (oc_X2 T a_o x_o ++ Z) r) args s 0 0 A := ⟨_, rfl⟩
  rw [← hQ]
  change W p l e (rmd 0) s m args below meth c s.heap [] 0 0 Q (F0 m 0 ls [])
  rw [f_X2_parentOf] at h
  suffices hm : ∀ (H : Heap) (locs : List Loc), Wd D A s.heap (oc_X2 T a_o x_o ++ Z) H locs → W p l e (rmd 0) s m args below meth c H locs 0 0 Q (F0 m 0 ls []) from hm _ _ hW
  intro H locs hW
  refine lv_iload_n hx hb dX2_parentOf_0 rfl (lv_at hl 1 rfl) ?_
  refine lv_if_lt (tgt := 21) hx hb dX2_parentOf_1 (by decide) (fun c1 => ?_) (fun c1 => ?_)
  · have h := ite_t c1 h
    refine lv_iconst (v := (-1)) hx hb dX2_parentOf_21 (by decide) ?_
    obtain rfl := ret1 h
    rw [hQ]
    exact g_reti hx hb hr hlk hW dX2_parentOf_22
  · have h := ite_f c1 h
    refine lv_iload_n hx hb dX2_parentOf_4 rfl (lv_at hl 1 rfl) ?_
    refine lv_aload_n hx hb dX2_parentOf_5 rfl (lv_at hl 0 rfl) ?_
    refine fg_X2_9 (v := .int (x_o 0 0)) hx hb hts hown hK hW 0 rfl rfl dX2_parentOf_6 ?_
    refine lv_icmp_ge (tgt := 21) hx hb dX2_parentOf_9 (by decide) (fun c2 => ?_) (fun c2 => ?_)
    · have h := ite_t c2 h
      refine lv_iconst (v := (-1)) hx hb dX2_parentOf_21 (by decide) ?_
      obtain rfl := ret1 h
      rw [hQ]
      exact g_reti hx hb hr hlk hW dX2_parentOf_22
    · have h := ite_f c2 h
      refine lv_aload_n hx hb dX2_parentOf_12 rfl (lv_at hl 0 rfl) ?_
      refine fg_X2_15 (v := .ref (a_o 1)) hx hb hts hown hK hW 0 rfl rfl dX2_parentOf_13 ?_
      refine lv_iload_n hx hb dX2_parentOf_16 rfl (lv_at hl 1 rfl) ?_
      obtain ⟨g3, h⟩ := grd_s h
      refine g_iald hx hb hK hW 1 rfl g3 dX2_parentOf_17 ?_
      refine lv_goto (tgt := 22) hx hb dX2_parentOf_18 (by decide) ?_
      obtain rfl := ret1 h
      rw [hQ]
      exact g_reti hx hb hr hlk hW dX2_parentOf_22
set_option maxHeartbeats 4000000 in
set_option maxRecDepth 100000 in
theorem c_X2_addSingle (l : Launch) (D : va_G) (T : Nat → ClassId) (A : Nat → Prop) (a_o : Nat → Nat) (Z : va_W)  (x_o : Ob) (p1 : Int32) (p2 : Int32) (x_o9 : Ob) (h : f_X2_addSingle x_o p1 p2 = some x_o9) : Met l yX2_addSingle (Cond.code yX2_addSingle cX2_addSingle 4 none :: wsL_law) (rmd 1) (Pg D T A (oc_X2 T a_o x_o ++ Z) [.ref (a_o 0), .int p1, .int p2]) (Qgv D A (oc_X2 T a_o x_o9 ++ Z)) 0 0 A := by
  refine Met.ofW (cc := cX2_addSingle) (maxL := 4) (ret := none) (by decide +kernel) rfl ?_
  intro p e s m args below meth c s₁ B hml hv
  obtain ⟨ha, hP, hK, hD, hN⟩ := hv
  have hx := B.exec
  have hb := B.bytes
  have hr := B.returns
  have hlk := B.notSynchronized
  have hts : ∀ w ∈ wsL_law, w.before args s = true := fun w hw => atoms_spec B.pre w (List.mem_cons_of_mem _ hw)
  have hown : s.vm.findClass RX2 = some m.cls := findClass_of_methodNamed B.named
  have hW : Wd D A s.heap (oc_X2 T a_o x_o ++ Z) s.heap [] := ⟨hP, hD, va_S.rf⟩
  have hl := lv_entry [.ref (a_o 0), .int p1, .int p2] (n := 4) (Nat.le_of_ble_eq_true rfl)
  refine W.eq (en_eq ha) ?_
  generalize (lg_sl [.ref (a_o 0), .int p1, .int p2] ++ List.replicate (4 - (lg_sl [.ref (a_o 0), .int p1, .int p2]).length) Slot.unset).toArray = ls at hl ⊢
  have hl : lv_has ls 4 [(0, .ref (a_o 0)), (1, .int p1), (2, .int p2)] := hl
  clear hP hD B ha
  obtain ⟨Q, hQ⟩ : ∃ Q, Q = MQ below (Qgv D A (oc_X2 T a_o x_o9 ++ Z)) args s 0 0 A := ⟨_, rfl⟩
  rw [← hQ]
  change W p l e (rmd 1) s m args below meth c s.heap [] 0 0 Q (F0 m 0 ls [])
  have L10 : ∀ (n : Nat) (x_o_10 : Ob) (v1_10 : Int32) (v2_10 : Int32) (v3_10 : Int32) (H : Heap) (locs : List Loc) (ls : Array Slot) (o3_10r : Int32) (y_o_10r : Ob), Wd D A s.heap (oc_X2 T a_o x_o_10 ++ Z) H locs → lv_has ls 4 [(0, .ref (a_o 0)), (1, .int v1_10), (2, .int v2_10), (3, .int v3_10)] → f_X2_addSingle_L10 n x_o_10 v1_10 v2_10 v3_10 = some (o3_10r, y_o_10r) → (∀ (H : Heap) (locs : List Loc) (ls : Array Slot), Wd D A s.heap (oc_X2 T a_o y_o_10r ++ Z) H locs → lv_has ls 4 [(0, .ref (a_o 0)), (1, .int v1_10), (3, .int o3_10r)] → W p l e (rmd 1) s m args below meth c H locs 0 0 Q (F0 m 50 ls [])) → W p l e (rmd 1) s m args below meth c H locs 0 0 Q (F0 m 10 ls []) := by
    intro n
    induction n with
    | zero =>
      intro x_o_10 v1_10 v2_10 v3_10 H locs ls o3_10r y_o_10r hW hl h k1
      rw [f_X2_addSingle_L10] at h
      cases h
    | succ n ih =>
      intro x_o_10 v1_10 v2_10 v3_10 H locs ls o3_10r y_o_10r hW hl h k1
      rw [f_X2_addSingle_L10] at h
      refine lv_iload_n hx hb dX2_addSingle_10 rfl (lv_at hl 3 rfl) ?_
      refine lv_if_le (tgt := 50) hx hb dX2_addSingle_11 (by decide) (fun c2 => ?_) (fun c2 => ?_)
      · have h := ite_t c2 h
        obtain ⟨rfl, rfl⟩ := ret2 h
        exact k1 H locs ls hW (lv_sub hl [0, 1, 3] rfl)
      · have h := ite_f c2 h
        refine lv_aload_n hx hb dX2_addSingle_14 rfl (lv_at hl 0 rfl) ?_
        refine lv_aload_n hx hb dX2_addSingle_15 rfl (lv_at hl 0 rfl) ?_
        refine fg_X2_31 (v := .ref (a_o 5)) hx hb hts hown hK hW 0 rfl rfl dX2_addSingle_16 ?_
        refine lv_iload_n hx hb dX2_addSingle_19 rfl (lv_at hl 3 rfl) ?_
        refine lv_iconst (v := 1) hx hb dX2_addSingle_20 (by decide) ?_
        refine lv_isub hx hb dX2_addSingle_21 ?_
        obtain ⟨g3, h⟩ := grd_s h
        refine g_iald hx hb hK hW 5 rfl g3 dX2_addSingle_22 ?_
        obtain ⟨r4, q5, h⟩ := bnd1_s h
        refine cl_X2_76 hx hb hml hown hts hK hN hW (c_X2_parentOf l D T A a_o (Z) x_o_10 (x_o_10 6 (v3_10 - 1).toNatClampNeg) r4 q5) ⟨Nat.le_of_ble_eq_true rfl, Nat.le_of_ble_eq_true rfl⟩ hl.1 rfl (Nat.le_of_ble_eq_true rfl) dX2_addSingle_23 ⟨Nat.zero_le _, Nat.zero_le _⟩ rfl (fun H locs hW => ?_)
        refine lv_iload_n hx hb dX2_addSingle_26 rfl (lv_at hl 2 rfl) ?_
        refine lv_icmp_le (tgt := 50) hx hb dX2_addSingle_27 (by decide) (fun c6 => ?_) (fun c6 => ?_)
        · have h := ite_t c6 h
          obtain ⟨rfl, rfl⟩ := ret2 h
          exact k1 H locs ls hW (lv_sub hl [0, 1, 3] rfl)
        · have h := ite_f c6 h
          refine lv_aload_n hx hb dX2_addSingle_30 rfl (lv_at hl 0 rfl) ?_
          refine fg_X2_31 (v := .ref (a_o 5)) hx hb hts hown hK hW 0 rfl rfl dX2_addSingle_31 ?_
          refine lv_iload_n hx hb dX2_addSingle_34 rfl (lv_at hl 3 rfl) ?_
          refine lv_aload_n hx hb dX2_addSingle_35 rfl (lv_at hl 0 rfl) ?_
          refine fg_X2_31 (v := .ref (a_o 5)) hx hb hts hown hK hW 0 rfl rfl dX2_addSingle_36 ?_
          refine lv_iload_n hx hb dX2_addSingle_39 rfl (lv_at hl 3 rfl) ?_
          refine lv_iconst (v := 1) hx hb dX2_addSingle_40 (by decide) ?_
          refine lv_isub hx hb dX2_addSingle_41 ?_
          obtain ⟨g7, h⟩ := grd_s h
          refine g_iald hx hb hK hW 5 rfl g7 dX2_addSingle_42 ?_
          obtain ⟨g8, h⟩ := grd_s h
          refine g_iast (ws9 := oc_X2 T a_o (upo x_o_10 6 v3_10.toNatClampNeg (x_o_10 6 (v3_10 - 1).toNatClampNeg)) ++ Z) hx hb hK hW 5 rfl g8 sa_X2_6 dX2_addSingle_43 (fun H locs hW => ?_)
          obtain ⟨x_o9, ex_o9⟩ : ∃ y : Ob, y = upo x_o_10 6 v3_10.toNatClampNeg (x_o_10 6 (v3_10 - 1).toNatClampNeg) := ⟨_, rfl⟩
          rw [← ex_o9] at hW
          have h := lb_at ex_o9 h
          obtain ⟨w3_10, ew3_10⟩ : ∃ y : Int32, y = v3_10 + (-1) := ⟨_, rfl⟩
          have h := lb_at ew3_10 h
          refine lv_iinc (v := w3_10) (lv' := [(3, .int w3_10), (0, .ref (a_o 0)), (1, .int v1_10), (2, .int v2_10)]) hx hb dX2_addSingle_44 hl (k := 3) rfl (by rw [ew3_10]; rfl) (by decide) rfl (fun ls hl => ?_)
          refine lv_goto (tgt := 10) hx hb dX2_addSingle_47 (by decide) ?_
          exact ih _ _ _ _ H locs ls _ _ hW (lv_sub hl [1, 2, 3, 0] rfl) h k1
  rw [f_X2_addSingle] at h
  suffices hm : ∀ (H : Heap) (locs : List Loc), Wd D A s.heap (oc_X2 T a_o x_o ++ Z) H locs → W p l e (rmd 1) s m args below meth c H locs 0 0 Q (F0 m 0 ls []) from hm _ _ hW
  intro H locs hW
  refine lv_aload_n hx hb dX2_addSingle_0 rfl (lv_at hl 0 rfl) ?_
  refine fg_X2_28 (v := .int (x_o 5 0)) hx hb hts hown hK hW 0 rfl rfl dX2_addSingle_1 ?_
  refine lv_bipush (v := 15) hx hb dX2_addSingle_4 (by decide) ?_
  refine va_mmin hx hb (hml.trans hl.1.symm) hown (hts _ wm12_15) (hts _ wm12_16) (hts _ wm12_17) (hts _ wm12_18) (Nat.le_of_ble_eq_true rfl) (Nat.le_of_ble_eq_true rfl) (Nat.zero_le _) (Nat.zero_le _) dX2_addSingle_6 ?_
  refine lv_topi (fun w3_1 ew3_1 => ?_)
  have h := lb_at ew3_1 h
  refine lv_istore_n (lv' := [(3, .int w3_1), (0, .ref (a_o 0)), (1, .int p1), (2, .int p2)]) hx hb dX2_addSingle_9 rfl hl (by decide) rfl (fun ls hl => ?_)
  obtain ⟨o3_u11, y_o_u11, q12, h⟩ := bnd2_s h
  refine L10 200 _ _ _ _ H locs ls o3_u11 y_o_u11 hW (lv_sub hl [1, 2, 3, 0] rfl) q12 (fun H locs ls hW hl => ?_)
  refine lv_aload_n hx hb dX2_addSingle_50 rfl (lv_at hl 0 rfl) ?_
  refine fg_X2_31 (v := .ref (a_o 5)) hx hb hts hown hK hW 0 rfl rfl dX2_addSingle_51 ?_
  refine lv_iload_n hx hb dX2_addSingle_54 rfl (lv_at hl 2 rfl) ?_
  refine lv_iload_n hx hb dX2_addSingle_55 rfl (lv_at hl 1 rfl) ?_
  obtain ⟨g13, h⟩ := grd_s h
  refine g_iast (ws9 := oc_X2 T a_o (upo y_o_u11 6 o3_u11.toNatClampNeg p1) ++ Z) hx hb hK hW 5 rfl g13 sa_X2_6 dX2_addSingle_56 (fun H locs hW => ?_)
  obtain ⟨x_o14, ex_o14⟩ : ∃ y : Ob, y = upo y_o_u11 6 o3_u11.toNatClampNeg p1 := ⟨_, rfl⟩
  rw [← ex_o14] at hW
  have h := lb_at ex_o14 h
  refine lv_aload_n hx hb dX2_addSingle_57 rfl (lv_at hl 0 rfl) ?_
  refine lv_dup hx hb dX2_addSingle_58 rfl ?_
  refine fg_X2_28 (v := .int (x_o14 5 0)) hx hb hts hown hK hW 0 rfl rfl dX2_addSingle_59 ?_
  refine lv_iconst (v := 1) hx hb dX2_addSingle_62 (by decide) ?_
  refine lv_iadd hx hb dX2_addSingle_63 ?_
  refine fp_X2_28 (ws9 := oc_X2 T a_o (upo x_o14 5 0 ((x_o14 5 0) + 1)) ++ Z) hx hb hts hown hK hW 0 rfl (Nat.le_of_ble_eq_true rfl) sf_X2_5 dX2_addSingle_64 (fun H locs hW => ?_)
  obtain ⟨x_o15, ex_o15⟩ : ∃ y : Ob, y = upo x_o14 5 0 ((x_o14 5 0) + 1) := ⟨_, rfl⟩
  rw [← ex_o15] at hW
  have h := lb_at ex_o15 h
  obtain rfl := ret1 h
  rw [hQ]
  exact g_retv hx hb hr hlk hW dX2_addSingle_67
set_option maxHeartbeats 4000000 in
set_option maxRecDepth 100000 in
theorem c_X2_addRule (l : Launch) (D : va_G) (T : Nat → ClassId) (A : Nat → Prop) (a_o : Nat → Nat) (Z : va_W)  (x_o : Ob) (p1 : Int32) (p2 : Int32) (p3 : Int32) (p4 : Int32) (r : Int32) (x_o9 : Ob) (h : f_X2_addRule x_o p1 p2 p3 p4 = some (r, x_o9)) : Met l yX2_addRule (Cond.code yX2_addRule cX2_addRule 5 (some .int) :: wsL_law) (rmd 2) (Pg D T A (oc_X2 T a_o x_o ++ Z) [.ref (a_o 0), .int p1, .int p2, .int p3, .int p4]) (Qgi D A (oc_X2 T a_o x_o9 ++ Z) r) 0 0 A := by
  refine Met.ofW (cc := cX2_addRule) (maxL := 5) (ret := (some .int)) (by decide +kernel) rfl ?_
  intro p e s m args below meth c s₁ B hml hv
  obtain ⟨ha, hP, hK, hD, hN⟩ := hv
  have hx := B.exec
  have hb := B.bytes
  have hr := B.returns
  have hlk := B.notSynchronized
  have hts : ∀ w ∈ wsL_law, w.before args s = true := fun w hw => atoms_spec B.pre w (List.mem_cons_of_mem _ hw)
  have hown : s.vm.findClass RX2 = some m.cls := findClass_of_methodNamed B.named
  have hW : Wd D A s.heap (oc_X2 T a_o x_o ++ Z) s.heap [] := ⟨hP, hD, va_S.rf⟩
  have hl := lv_entry [.ref (a_o 0), .int p1, .int p2, .int p3, .int p4] (n := 5) (Nat.le_of_ble_eq_true rfl)
  refine W.eq (en_eq ha) ?_
  generalize (lg_sl [.ref (a_o 0), .int p1, .int p2, .int p3, .int p4] ++ List.replicate (5 - (lg_sl [.ref (a_o 0), .int p1, .int p2, .int p3, .int p4]).length) Slot.unset).toArray = ls at hl ⊢
  have hl : lv_has ls 5 [(0, .ref (a_o 0)), (1, .int p1), (2, .int p2), (3, .int p3), (4, .int p4)] := hl
  clear hP hD B ha
  obtain ⟨Q, hQ⟩ : ∃ Q, Q = MQ below (Qgi D A (oc_X2 T a_o x_o9 ++ Z) r) args s 0 0 A := ⟨_, rfl⟩
  rw [← hQ]
  change W p l e (rmd 2) s m args below meth c s.heap [] 0 0 Q (F0 m 0 ls [])
  rw [f_X2_addRule] at h
  suffices hm : ∀ (H : Heap) (locs : List Loc), Wd D A s.heap (oc_X2 T a_o x_o ++ Z) H locs → W p l e (rmd 2) s m args below meth c H locs 0 0 Q (F0 m 0 ls []) from hm _ _ hW
  intro H locs hW
  refine lv_aload_n hx hb dX2_addRule_0 rfl (lv_at hl 0 rfl) ?_
  refine fg_X2_9 (v := .int (x_o 0 0)) hx hb hts hown hK hW 0 rfl rfl dX2_addRule_1 ?_
  refine lv_bipush (v := 16) hx hb dX2_addRule_4 (by decide) ?_
  obtain ⟨r1, q2, h⟩ := bnd1_s h
  refine cl_X2_62 hx hb hml hown hts hK hN hW (c_X10_isBelow l D T A (oc_X2 T a_o x_o ++ Z) (x_o 0 0) 16 r1 q2) ⟨Nat.le_of_ble_eq_true rfl, Nat.le_of_ble_eq_true rfl⟩ hl.1 rfl (Nat.le_of_ble_eq_true rfl) dX2_addRule_6 ⟨Nat.zero_le _, Nat.zero_le _⟩ rfl (fun H locs hW => ?_)
  refine lv_if_ne (tgt := 14) hx hb dX2_addRule_9 (by decide) (fun c3 => ?_) (fun c3 => ?_)
  · have h := ite_f c3 h
    refine lv_aload_n hx hb dX2_addRule_14 rfl (lv_at hl 0 rfl) ?_
    refine fg_X2_15 (v := .ref (a_o 1)) hx hb hts hown hK hW 0 rfl rfl dX2_addRule_15 ?_
    refine lv_aload_n hx hb dX2_addRule_18 rfl (lv_at hl 0 rfl) ?_
    refine fg_X2_9 (v := .int (x_o 0 0)) hx hb hts hown hK hW 0 rfl rfl dX2_addRule_19 ?_
    refine lv_iload_n hx hb dX2_addRule_22 rfl (lv_at hl 1 rfl) ?_
    obtain ⟨g4, h⟩ := grd_s h
    refine g_iast (ws9 := oc_X2 T a_o (upo x_o 1 (x_o 0 0).toNatClampNeg p1) ++ Z) hx hb hK hW 1 rfl g4 sa_X2_1 dX2_addRule_23 (fun H locs hW => ?_)
    obtain ⟨x_o5, ex_o5⟩ : ∃ y : Ob, y = upo x_o 1 (x_o 0 0).toNatClampNeg p1 := ⟨_, rfl⟩
    rw [← ex_o5] at hW
    have h := lb_at ex_o5 h
    refine lv_aload_n hx hb dX2_addRule_24 rfl (lv_at hl 0 rfl) ?_
    refine fg_X2_19 (v := .ref (a_o 2)) hx hb hts hown hK hW 0 rfl rfl dX2_addRule_25 ?_
    refine lv_aload_n hx hb dX2_addRule_28 rfl (lv_at hl 0 rfl) ?_
    refine fg_X2_9 (v := .int (x_o5 0 0)) hx hb hts hown hK hW 0 rfl rfl dX2_addRule_29 ?_
    refine lv_iload_n hx hb dX2_addRule_32 rfl (lv_at hl 2 rfl) ?_
    obtain ⟨g6, h⟩ := grd_s h
    refine g_iast (ws9 := oc_X2 T a_o (upo x_o5 2 (x_o5 0 0).toNatClampNeg p2) ++ Z) hx hb hK hW 2 rfl g6 sa_X2_2 dX2_addRule_33 (fun H locs hW => ?_)
    obtain ⟨x_o7, ex_o7⟩ : ∃ y : Ob, y = upo x_o5 2 (x_o5 0 0).toNatClampNeg p2 := ⟨_, rfl⟩
    rw [← ex_o7] at hW
    have h := lb_at ex_o7 h
    refine lv_aload_n hx hb dX2_addRule_34 rfl (lv_at hl 0 rfl) ?_
    refine fg_X2_22 (v := .ref (a_o 3)) hx hb hts hown hK hW 0 rfl rfl dX2_addRule_35 ?_
    refine lv_aload_n hx hb dX2_addRule_38 rfl (lv_at hl 0 rfl) ?_
    refine fg_X2_9 (v := .int (x_o7 0 0)) hx hb hts hown hK hW 0 rfl rfl dX2_addRule_39 ?_
    refine lv_iload_n hx hb dX2_addRule_42 rfl (lv_at hl 3 rfl) ?_
    obtain ⟨g8, h⟩ := grd_s h
    refine g_iast (ws9 := oc_X2 T a_o (upo x_o7 3 (x_o7 0 0).toNatClampNeg p3) ++ Z) hx hb hK hW 3 rfl g8 sa_X2_3 dX2_addRule_43 (fun H locs hW => ?_)
    obtain ⟨x_o9, ex_o9⟩ : ∃ y : Ob, y = upo x_o7 3 (x_o7 0 0).toNatClampNeg p3 := ⟨_, rfl⟩
    rw [← ex_o9] at hW
    have h := lb_at ex_o9 h
    refine lv_aload_n hx hb dX2_addRule_44 rfl (lv_at hl 0 rfl) ?_
    refine fg_X2_25 (v := .ref (a_o 4)) hx hb hts hown hK hW 0 rfl rfl dX2_addRule_45 ?_
    refine lv_aload_n hx hb dX2_addRule_48 rfl (lv_at hl 0 rfl) ?_
    refine fg_X2_9 (v := .int (x_o9 0 0)) hx hb hts hown hK hW 0 rfl rfl dX2_addRule_49 ?_
    refine lv_iload hx hb dX2_addRule_52 (lv_at hl 4 rfl) ?_
    obtain ⟨g10, h⟩ := grd_s h
    refine g_iast (ws9 := oc_X2 T a_o (upo x_o9 4 (x_o9 0 0).toNatClampNeg p4) ++ Z) hx hb hK hW 4 rfl g10 sa_X2_4 dX2_addRule_54 (fun H locs hW => ?_)
    obtain ⟨x_o11, ex_o11⟩ : ∃ y : Ob, y = upo x_o9 4 (x_o9 0 0).toNatClampNeg p4 := ⟨_, rfl⟩
    rw [← ex_o11] at hW
    have h := lb_at ex_o11 h
    refine lv_aload_n hx hb dX2_addRule_55 rfl (lv_at hl 0 rfl) ?_
    refine lv_dup hx hb dX2_addRule_56 rfl ?_
    refine fg_X2_9 (v := .int (x_o11 0 0)) hx hb hts hown hK hW 0 rfl rfl dX2_addRule_57 ?_
    refine lv_iconst (v := 1) hx hb dX2_addRule_60 (by decide) ?_
    refine lv_iadd hx hb dX2_addRule_61 ?_
    refine fp_X2_9 (ws9 := oc_X2 T a_o (upo x_o11 0 0 ((x_o11 0 0) + 1)) ++ Z) hx hb hts hown hK hW 0 rfl (Nat.le_of_ble_eq_true rfl) sf_X2_0 dX2_addRule_62 (fun H locs hW => ?_)
    obtain ⟨x_o12, ex_o12⟩ : ∃ y : Ob, y = upo x_o11 0 0 ((x_o11 0 0) + 1) := ⟨_, rfl⟩
    rw [← ex_o12] at hW
    have h := lb_at ex_o12 h
    refine lv_iload_n hx hb dX2_addRule_65 rfl (lv_at hl 3 rfl) ?_
    refine lv_iconst (v := (-1)) hx hb dX2_addRule_66 (by decide) ?_
    refine lv_icmp_ne (tgt := 81) hx hb dX2_addRule_67 (by decide) (fun c13 => ?_) (fun c13 => ?_)
    · have h := ite_f c13 h
      refine lv_aload_n hx hb dX2_addRule_81 rfl (lv_at hl 0 rfl) ?_
      refine fg_X2_9 (v := .int (x_o12 0 0)) hx hb hts hown hK hW 0 rfl rfl dX2_addRule_82 ?_
      refine lv_iconst (v := 1) hx hb dX2_addRule_85 (by decide) ?_
      refine lv_isub hx hb dX2_addRule_86 ?_
      obtain ⟨rfl, rfl⟩ := ret2 h
      rw [hQ]
      exact g_reti hx hb hr hlk hW dX2_addRule_87
    · have h := ite_t c13 h
      refine lv_aload_n hx hb dX2_addRule_70 rfl (lv_at hl 0 rfl) ?_
      refine lv_aload_n hx hb dX2_addRule_71 rfl (lv_at hl 0 rfl) ?_
      refine fg_X2_9 (v := .int (x_o12 0 0)) hx hb hts hown hK hW 0 rfl rfl dX2_addRule_72 ?_
      refine lv_iconst (v := 1) hx hb dX2_addRule_75 (by decide) ?_
      refine lv_isub hx hb dX2_addRule_76 ?_
      refine lv_iload_n hx hb dX2_addRule_77 rfl (lv_at hl 1 rfl) ?_
      obtain ⟨x_o14, q15, h⟩ := bnd1_s h
      refine cl_X2_66 hx hb hml hown hts hK hN hW (c_X2_addSingle l D T A a_o (Z) x_o12 ((x_o12 0 0) - 1) p1 x_o14 q15) ⟨Nat.le_of_ble_eq_true rfl, Nat.le_of_ble_eq_true rfl⟩ hl.1 rfl (Nat.le_of_ble_eq_true rfl) dX2_addRule_78 ⟨Nat.zero_le _, Nat.zero_le _⟩ rfl (fun H locs hW => ?_)
      refine lv_aload_n hx hb dX2_addRule_81 rfl (lv_at hl 0 rfl) ?_
      refine fg_X2_9 (v := .int (x_o14 0 0)) hx hb hts hown hK hW 0 rfl rfl dX2_addRule_82 ?_
      refine lv_iconst (v := 1) hx hb dX2_addRule_85 (by decide) ?_
      refine lv_isub hx hb dX2_addRule_86 ?_
      obtain ⟨rfl, rfl⟩ := ret2 h
      rw [hQ]
      exact g_reti hx hb hr hlk hW dX2_addRule_87
  · have h := ite_t c3 h
    refine lv_iconst (v := (-1)) hx hb dX2_addRule_12 (by decide) ?_
    obtain ⟨rfl, rfl⟩ := ret2 h
    rw [hQ]
    exact g_reti hx hb hr hlk hW dX2_addRule_13
set_option maxHeartbeats 4000000 in
set_option maxRecDepth 100000 in
theorem c_X2_addEquation (l : Launch) (D : va_G) (T : Nat → ClassId) (A : Nat → Prop) (a_o : Nat → Nat) (Z : va_W)  (x_o : Ob) (p1 : Int32) (p2 : Int32) (p3 : Int32) (p4 : Int32) (p5 : Int32) (r : Int32) (x_o9 : Ob) (h : f_X2_addEquation x_o p1 p2 p3 p4 p5 = some (r, x_o9)) : Met l yX2_addEquation (Cond.code yX2_addEquation cX2_addEquation 7 (some .int) :: wsL_law) (rmd 2) (Pg D T A (oc_X2 T a_o x_o ++ Z) [.ref (a_o 0), .int p1, .int p2, .int p3, .int p4, .int p5]) (Qgi D A (oc_X2 T a_o x_o9 ++ Z) r) 0 0 A := by
  refine Met.ofW (cc := cX2_addEquation) (maxL := 7) (ret := (some .int)) (by decide +kernel) rfl ?_
  intro p e s m args below meth c s₁ B hml hv
  obtain ⟨ha, hP, hK, hD, hN⟩ := hv
  have hx := B.exec
  have hb := B.bytes
  have hr := B.returns
  have hlk := B.notSynchronized
  have hts : ∀ w ∈ wsL_law, w.before args s = true := fun w hw => atoms_spec B.pre w (List.mem_cons_of_mem _ hw)
  have hown : s.vm.findClass RX2 = some m.cls := findClass_of_methodNamed B.named
  have hW : Wd D A s.heap (oc_X2 T a_o x_o ++ Z) s.heap [] := ⟨hP, hD, va_S.rf⟩
  have hl := lv_entry [.ref (a_o 0), .int p1, .int p2, .int p3, .int p4, .int p5] (n := 7) (Nat.le_of_ble_eq_true rfl)
  refine W.eq (en_eq ha) ?_
  generalize (lg_sl [.ref (a_o 0), .int p1, .int p2, .int p3, .int p4, .int p5] ++ List.replicate (7 - (lg_sl [.ref (a_o 0), .int p1, .int p2, .int p3, .int p4, .int p5]).length) Slot.unset).toArray = ls at hl ⊢
  have hl : lv_has ls 7 [(0, .ref (a_o 0)), (1, .int p1), (2, .int p2), (3, .int p3), (4, .int p4), (5, .int p5)] := hl
  clear hP hD B ha
  obtain ⟨Q, hQ⟩ : ∃ Q, Q = MQ below (Qgi D A (oc_X2 T a_o x_o9 ++ Z) r) args s 0 0 A := ⟨_, rfl⟩
  rw [← hQ]
  change W p l e (rmd 2) s m args below meth c s.heap [] 0 0 Q (F0 m 0 ls [])
  rw [f_X2_addEquation] at h
  suffices hm : ∀ (H : Heap) (locs : List Loc), Wd D A s.heap (oc_X2 T a_o x_o ++ Z) H locs → W p l e (rmd 2) s m args below meth c H locs 0 0 Q (F0 m 0 ls []) from hm _ _ hW
  intro H locs hW
  refine lv_aload_n hx hb dX2_addEquation_0 rfl (lv_at hl 0 rfl) ?_
  refine lv_iload_n hx hb dX2_addEquation_1 rfl (lv_at hl 1 rfl) ?_
  obtain ⟨r1, q2, h⟩ := bnd1_s h
  refine cl_X2_80 hx hb hml hown hts hK hN hW (c_X2_isRuleFull l D T A a_o (Z) x_o p1 r1 q2) ⟨Nat.le_of_ble_eq_true rfl, Nat.le_of_ble_eq_true rfl⟩ hl.1 rfl (Nat.le_of_ble_eq_true rfl) dX2_addEquation_2 ⟨Nat.zero_le _, Nat.zero_le _⟩ rfl (fun H locs hW => ?_)
  refine lv_if_eq (tgt := 10) hx hb dX2_addEquation_5 (by decide) (fun c3 => ?_) (fun c3 => ?_)
  · have h := ite_t c3 h
    refine lv_iload_n hx hb dX2_addEquation_10 rfl (lv_at hl 1 rfl) ?_
    refine lv_iconst (v := 3) hx hb dX2_addEquation_11 (by decide) ?_
    refine lv_imul hx hb dX2_addEquation_12 ?_
    refine lv_aload_n hx hb dX2_addEquation_13 rfl (lv_at hl 0 rfl) ?_
    refine fg_X2_34 (v := .ref (a_o 6)) hx hb hts hown hK hW 0 rfl rfl dX2_addEquation_14 ?_
    refine lv_iload_n hx hb dX2_addEquation_17 rfl (lv_at hl 1 rfl) ?_
    obtain ⟨g4, h⟩ := grd_s h
    refine g_iald hx hb hK hW 6 rfl g4 dX2_addEquation_18 ?_
    refine lv_iadd hx hb dX2_addEquation_19 ?_
    refine lv_topi (fun w6_5 ew6_5 => ?_)
    have h := lb_at ew6_5 h
    refine lv_istore (lv' := [(6, .int w6_5), (0, .ref (a_o 0)), (1, .int p1), (2, .int p2), (3, .int p3), (4, .int p4), (5, .int p5)]) hx hb dX2_addEquation_20 hl (by decide) rfl (fun ls hl => ?_)
    refine lv_aload_n hx hb dX2_addEquation_22 rfl (lv_at hl 1 rfl) ?_
    refine fg_X2_37 (v := .ref (a_o 7)) hx hb hts hown hK hW 0 rfl rfl dX2_addEquation_23 ?_
    refine lv_iload hx hb dX2_addEquation_26 (lv_at hl 0 rfl) ?_
    refine lv_iload_n hx hb dX2_addEquation_28 rfl (lv_at hl 3 rfl) ?_
    obtain ⟨g6, h⟩ := grd_s h
    refine g_iast (ws9 := oc_X2 T a_o (upo x_o 8 w6_5.toNatClampNeg p2) ++ Z) hx hb hK hW 7 rfl g6 sa_X2_8 dX2_addEquation_29 (fun H locs hW => ?_)
    obtain ⟨x_o7, ex_o7⟩ : ∃ y : Ob, y = upo x_o 8 w6_5.toNatClampNeg p2 := ⟨_, rfl⟩
    rw [← ex_o7] at hW
    have h := lb_at ex_o7 h
    refine lv_aload_n hx hb dX2_addEquation_30 rfl (lv_at hl 1 rfl) ?_
    refine fg_X2_40 (v := .ref (a_o 8)) hx hb hts hown hK hW 0 rfl rfl dX2_addEquation_31 ?_
    refine lv_iload hx hb dX2_addEquation_34 (lv_at hl 0 rfl) ?_
    refine lv_iload_n hx hb dX2_addEquation_36 rfl (lv_at hl 4 rfl) ?_
    obtain ⟨g8, h⟩ := grd_s h
    refine g_iast (ws9 := oc_X2 T a_o (upo x_o7 9 w6_5.toNatClampNeg p3) ++ Z) hx hb hK hW 8 rfl g8 sa_X2_9 dX2_addEquation_37 (fun H locs hW => ?_)
    obtain ⟨x_o9, ex_o9⟩ : ∃ y : Ob, y = upo x_o7 9 w6_5.toNatClampNeg p3 := ⟨_, rfl⟩
    rw [← ex_o9] at hW
    have h := lb_at ex_o9 h
    refine lv_aload_n hx hb dX2_addEquation_38 rfl (lv_at hl 1 rfl) ?_
    refine fg_X2_43 (v := .ref (a_o 9)) hx hb hts hown hK hW 0 rfl rfl dX2_addEquation_39 ?_
    refine lv_iload hx hb dX2_addEquation_42 (lv_at hl 0 rfl) ?_
    refine lv_iload hx hb dX2_addEquation_44 (lv_at hl 5 rfl) ?_
    obtain ⟨g10, h⟩ := grd_s h
    refine g_iast (ws9 := oc_X2 T a_o (upo x_o9 10 w6_5.toNatClampNeg p4) ++ Z) hx hb hK hW 9 rfl g10 sa_X2_10 dX2_addEquation_46 (fun H locs hW => ?_)
    obtain ⟨x_o11, ex_o11⟩ : ∃ y : Ob, y = upo x_o9 10 w6_5.toNatClampNeg p4 := ⟨_, rfl⟩
    rw [← ex_o11] at hW
    have h := lb_at ex_o11 h
    refine lv_aload_n hx hb dX2_addEquation_47 rfl (lv_at hl 1 rfl) ?_
    refine fg_X2_46 (v := .ref (a_o 10)) hx hb hts hown hK hW 0 rfl rfl dX2_addEquation_48 ?_
    refine lv_iload hx hb dX2_addEquation_51 (lv_at hl 0 rfl) ?_
    refine lv_iload hx hb dX2_addEquation_53 (lv_at hl 6 rfl) ?_
    obtain ⟨g12, h⟩ := grd_s h
    refine g_iast (ws9 := oc_X2 T a_o (upo x_o11 11 w6_5.toNatClampNeg p5) ++ Z) hx hb hK hW 10 rfl g12 sa_X2_11 dX2_addEquation_55 (fun H locs hW => ?_)
    obtain ⟨x_o13, ex_o13⟩ : ∃ y : Ob, y = upo x_o11 11 w6_5.toNatClampNeg p5 := ⟨_, rfl⟩
    rw [← ex_o13] at hW
    have h := lb_at ex_o13 h
    refine lv_aload_n hx hb dX2_addEquation_56 rfl (lv_at hl 1 rfl) ?_
    refine fg_X2_34 (v := .ref (a_o 6)) hx hb hts hown hK hW 0 rfl rfl dX2_addEquation_57 ?_
    refine lv_iload_n hx hb dX2_addEquation_60 rfl (lv_at hl 2 rfl) ?_
    refine lv_dup2_11 hx hb dX2_addEquation_61 rfl rfl ?_
    obtain ⟨g14, h⟩ := grd_s h
    refine g_iald hx hb hK hW 6 rfl g14 dX2_addEquation_62 ?_
    refine lv_iconst (v := 1) hx hb dX2_addEquation_63 (by decide) ?_
    refine lv_iadd hx hb dX2_addEquation_64 ?_
    obtain ⟨g15, h⟩ := grd_s h
    refine g_iast (ws9 := oc_X2 T a_o (upo x_o13 7 p1.toNatClampNeg ((x_o13 7 p1.toNatClampNeg) + 1)) ++ Z) hx hb hK hW 6 rfl g15 sa_X2_7 dX2_addEquation_65 (fun H locs hW => ?_)
    obtain ⟨x_o16, ex_o16⟩ : ∃ y : Ob, y = upo x_o13 7 p1.toNatClampNeg ((x_o13 7 p1.toNatClampNeg) + 1) := ⟨_, rfl⟩
    rw [← ex_o16] at hW
    have h := lb_at ex_o16 h
    refine lv_aload_n hx hb dX2_addEquation_66 rfl (lv_at hl 1 rfl) ?_
    refine fg_X2_34 (v := .ref (a_o 6)) hx hb hts hown hK hW 0 rfl rfl dX2_addEquation_67 ?_
    refine lv_iload_n hx hb dX2_addEquation_70 rfl (lv_at hl 2 rfl) ?_
    obtain ⟨g17, h⟩ := grd_s h
    refine g_iald hx hb hK hW 6 rfl g17 dX2_addEquation_71 ?_
    refine lv_iconst (v := 1) hx hb dX2_addEquation_72 (by decide) ?_
    refine lv_isub hx hb dX2_addEquation_73 ?_
    obtain ⟨rfl, rfl⟩ := ret2 h
    rw [hQ]
    exact g_reti hx hb hr hlk hW dX2_addEquation_74
  · have h := ite_f c3 h
    refine lv_iconst (v := (-1)) hx hb dX2_addEquation_8 (by decide) ?_
    obtain ⟨rfl, rfl⟩ := ret2 h
    rw [hQ]
    exact g_reti hx hb hr hlk hW dX2_addEquation_9
set_option maxHeartbeats 4000000 in
set_option maxRecDepth 100000 in
theorem c_X2_singleAt (l : Launch) (D : va_G) (T : Nat → ClassId) (A : Nat → Prop) (a_o : Nat → Nat) (Z : va_W)  (x_o : Ob) (p1 : Int32) (r : Int32) (h : f_X2_singleAt x_o p1 = some r) : Met l yX2_singleAt (Cond.code yX2_singleAt cX2_singleAt 2 (some .int) :: wsL_law) (rmd 0) (Pg D T A (oc_X2 T a_o x_o ++ Z) [.ref (a_o 0), .int p1]) (Qgi D A (oc_X2 T a_o x_o ++ Z) r) 0 0 A := by
  refine Met.ofW (cc := cX2_singleAt) (maxL := 2) (ret := (some .int)) (by decide +kernel) rfl ?_
  intro p e s m args below meth c s₁ B hml hv
  obtain ⟨ha, hP, hK, hD, hN⟩ := hv
  have hx := B.exec
  have hb := B.bytes
  have hr := B.returns
  have hlk := B.notSynchronized
  have hts : ∀ w ∈ wsL_law, w.before args s = true := fun w hw => atoms_spec B.pre w (List.mem_cons_of_mem _ hw)
  have hown : s.vm.findClass RX2 = some m.cls := findClass_of_methodNamed B.named
  have hW : Wd D A s.heap (oc_X2 T a_o x_o ++ Z) s.heap [] := ⟨hP, hD, va_S.rf⟩
  have hl := lv_entry [.ref (a_o 0), .int p1] (n := 2) (Nat.le_of_ble_eq_true rfl)
  refine W.eq (en_eq ha) ?_
  generalize (lg_sl [.ref (a_o 0), .int p1] ++ List.replicate (2 - (lg_sl [.ref (a_o 0), .int p1]).length) Slot.unset).toArray = ls at hl ⊢
  have hl : lv_has ls 2 [(0, .ref (a_o 0)), (1, .int p1)] := hl
  clear hP hD B ha
  obtain ⟨Q, hQ⟩ : ∃ Q, Q = MQ below (Qgi D A (oc_X2 T a_o x_o ++ Z) r) args s 0 0 A := ⟨_, rfl⟩
  rw [← hQ]
  change W p l e (rmd 0) s m args below meth c s.heap [] 0 0 Q (F0 m 0 ls [])
  rw [f_X2_singleAt] at h
  suffices hm : ∀ (H : Heap) (locs : List Loc), Wd D A s.heap (oc_X2 T a_o x_o ++ Z) H locs → W p l e (rmd 0) s m args below meth c H locs 0 0 Q (F0 m 0 ls []) from hm _ _ hW
  intro H locs hW
  refine lv_iload_n hx hb dX2_singleAt_0 rfl (lv_at hl 1 rfl) ?_
  refine lv_if_lt (tgt := 27) hx hb dX2_singleAt_1 (by decide) (fun c1 => ?_) (fun c1 => ?_)
  · have h := ite_t c1 h
    refine lv_iconst (v := (-1)) hx hb dX2_singleAt_27 (by decide) ?_
    obtain rfl := ret1 h
    rw [hQ]
    exact g_reti hx hb hr hlk hW dX2_singleAt_28
  · have h := ite_f c1 h
    refine lv_iload_n hx hb dX2_singleAt_4 rfl (lv_at hl 1 rfl) ?_
    refine lv_aload_n hx hb dX2_singleAt_5 rfl (lv_at hl 0 rfl) ?_
    refine fg_X2_28 (v := .int (x_o 5 0)) hx hb hts hown hK hW 0 rfl rfl dX2_singleAt_6 ?_
    refine lv_icmp_ge (tgt := 27) hx hb dX2_singleAt_9 (by decide) (fun c2 => ?_) (fun c2 => ?_)
    · have h := ite_t c2 h
      refine lv_iconst (v := (-1)) hx hb dX2_singleAt_27 (by decide) ?_
      obtain rfl := ret1 h
      rw [hQ]
      exact g_reti hx hb hr hlk hW dX2_singleAt_28
    · have h := ite_f c2 h
      refine lv_iload_n hx hb dX2_singleAt_12 rfl (lv_at hl 1 rfl) ?_
      refine lv_bipush (v := 16) hx hb dX2_singleAt_13 (by decide) ?_
      refine lv_icmp_ge (tgt := 27) hx hb dX2_singleAt_15 (by decide) (fun c3 => ?_) (fun c3 => ?_)
      · have h := ite_t c3 h
        refine lv_iconst (v := (-1)) hx hb dX2_singleAt_27 (by decide) ?_
        obtain rfl := ret1 h
        rw [hQ]
        exact g_reti hx hb hr hlk hW dX2_singleAt_28
      · have h := ite_f c3 h
        refine lv_aload_n hx hb dX2_singleAt_18 rfl (lv_at hl 0 rfl) ?_
        refine fg_X2_31 (v := .ref (a_o 5)) hx hb hts hown hK hW 0 rfl rfl dX2_singleAt_19 ?_
        refine lv_iload_n hx hb dX2_singleAt_22 rfl (lv_at hl 1 rfl) ?_
        obtain ⟨g4, h⟩ := grd_s h
        refine g_iald hx hb hK hW 5 rfl g4 dX2_singleAt_23 ?_
        refine lv_goto (tgt := 28) hx hb dX2_singleAt_24 (by decide) ?_
        obtain rfl := ret1 h
        rw [hQ]
        exact g_reti hx hb hr hlk hW dX2_singleAt_28
