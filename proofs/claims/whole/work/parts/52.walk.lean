set_option maxHeartbeats 4000000 in
set_option maxRecDepth 100000 in
theorem c_X11_fragment (l : Launch) (D : va_G) (T : Nat → ClassId) (A : Nat → Prop) (a_o : Nat → Nat) (Z : va_W)  (x_o : Ob) (p1 : Int32) (p2 : Int32) (r : Int32) (x_o9 : Ob) (h : f_X11_fragment x_o p1 p2 = some (r, x_o9)) : Met l yX11_fragment (Cond.code yX11_fragment cX11_fragment 3 (some .int) :: wsL_law) (rmd 7) (Pg D T A (oc_X11 T a_o x_o ++ Z) [.ref (a_o 0), .int p1, .int p2]) (Qgi D A (oc_X11 T a_o x_o9 ++ Z) r) 0 0 A := by
  refine Met.ofW (cc := cX11_fragment) (maxL := 3) (ret := (some .int)) (by decide +kernel) rfl ?_
  intro p e s m args below meth c s₁ B hml hv
  obtain ⟨ha, hP, hK, hD, hN⟩ := hv
  have hx := B.exec
  have hb := B.bytes
  have hr := B.returns
  have hlk := B.notSynchronized
  have hts : ∀ w ∈ wsL_law, w.before args s = true := fun w hw => atoms_spec B.pre w (List.mem_cons_of_mem _ hw)
  have hown : s.vm.findClass RX11 = some m.cls := findClass_of_methodNamed B.named
  have hW : Wd D A s.heap (oc_X11 T a_o x_o ++ Z) s.heap [] := ⟨hP, hD, va_S.rf⟩
  have hl := lv_entry [.ref (a_o 0), .int p1, .int p2] (n := 3) (Nat.le_of_ble_eq_true rfl)
  refine W.eq (en_eq ha) ?_
  generalize (lg_sl [.ref (a_o 0), .int p1, .int p2] ++ List.replicate (3 - (lg_sl [.ref (a_o 0), .int p1, .int p2]).length) Slot.unset).toArray = ls at hl ⊢
  have hl : lv_has ls 3 [(0, .ref (a_o 0)), (1, .int p1), (2, .int p2)] := hl
  clear hP hD B ha
  obtain ⟨Q, hQ⟩ : ∃ Q, Q = MQ below (Qgi D A (oc_X11 T a_o x_o9 ++ Z) r) args s 0 0 A := ⟨_, rfl⟩
  rw [← hQ]
  change W p l e (rmd 7) s m args below meth c s.heap [] 0 0 Q (F0 m 0 ls [])
  rw [f_X11_fragment] at h
  suffices hm : ∀ (H : Heap) (locs : List Loc), Wd D A s.heap (oc_X11 T a_o x_o ++ Z) H locs → W p l e (rmd 7) s m args below meth c H locs 0 0 Q (F0 m 0 ls []) from hm _ _ hW
  intro H locs hW
  refine lv_aload_n hx hb dX11_fragment_0 rfl (lv_at hl 0 rfl) ?_
  refine lv_iload_n hx hb dX11_fragment_1 rfl (lv_at hl 1 rfl) ?_
  obtain ⟨r1, q2, h⟩ := bnd1_s h
  refine cl_X11_194 hx hb hml hown hts hK hN hW (c_X11_isSentence l D T A (oc_X11 T a_o x_o ++ Z) p1 r1 q2) ⟨Nat.le_of_ble_eq_true rfl, Nat.le_of_ble_eq_true rfl⟩ hl.1 rfl (Nat.le_of_ble_eq_true rfl) dX11_fragment_2 ⟨Nat.zero_le _, Nat.zero_le _⟩ rfl (fun H locs hW => ?_)
  obtain ⟨r3, x_o4, q5, h⟩ := bnd2_s h
  refine cl_X11_222 hx hb hml hown hts hK hN hW (c_X11_may l D T A a_o (Z) x_o r1 r3 x_o4 q5) ⟨Nat.le_of_ble_eq_true rfl, Nat.le_of_ble_eq_true rfl⟩ hl.1 rfl (Nat.le_of_ble_eq_true rfl) dX11_fragment_5 ⟨Nat.zero_le _, Nat.zero_le _⟩ rfl (fun H locs hW => ?_)
  refine lv_if_ne (tgt := 13) hx hb dX11_fragment_8 (by decide) (fun c6 => ?_) (fun c6 => ?_)
  · have h := ite_f c6 h
    refine lv_aload_n hx hb dX11_fragment_13 rfl (lv_at hl 0 rfl) ?_
    refine lv_iload_n hx hb dX11_fragment_14 rfl (lv_at hl 1 rfl) ?_
    obtain ⟨x_o7, q8, h⟩ := bnd1_s h
    refine cl_X11_317 hx hb hml hown hts hK hN hW (c_X11_need l D T A a_o (Z) x_o4 p1 x_o7 q8) ⟨Nat.le_of_ble_eq_true rfl, Nat.le_of_ble_eq_true rfl⟩ hl.1 rfl (Nat.le_of_ble_eq_true rfl) dX11_fragment_15 ⟨Nat.zero_le _, Nat.zero_le _⟩ rfl (fun H locs hW => ?_)
    refine lv_aload_n hx hb dX11_fragment_18 rfl (lv_at hl 0 rfl) ?_
    refine lv_iload_n hx hb dX11_fragment_19 rfl (lv_at hl 1 rfl) ?_
    obtain ⟨x_o9, q10, h⟩ := bnd1_s h
    refine cl_X11_330 hx hb hml hown hts hK hN hW (c_X11_findFragments l D T A a_o (Z) x_o7 p1 x_o9 q10) ⟨Nat.le_of_ble_eq_true rfl, Nat.le_of_ble_eq_true rfl⟩ hl.1 rfl (Nat.le_of_ble_eq_true rfl) dX11_fragment_20 ⟨Nat.zero_le _, Nat.zero_le _⟩ rfl (fun H locs hW => ?_)
    refine lv_aload_n hx hb dX11_fragment_23 rfl (lv_at hl 0 rfl) ?_
    refine lv_iload_n hx hb dX11_fragment_24 rfl (lv_at hl 2 rfl) ?_
    refine lv_iconst (v := 0) hx hb dX11_fragment_25 (by decide) ?_
    refine lv_aload_n hx hb dX11_fragment_26 rfl (lv_at hl 0 rfl) ?_
    refine fg_X11_311 (v := .int (x_o9 47 0)) hx hb hts hown hK hW 0 rfl rfl dX11_fragment_27 ?_
    refine lv_iconst (v := 1) hx hb dX11_fragment_30 (by decide) ?_
    refine lv_isub hx hb dX11_fragment_31 ?_
    obtain ⟨r11, q12, h⟩ := bnd1_s h
    refine cl_X11_187 hx hb hml hown hts hK hN hW (c_X11_isIn l D T A (oc_X11 T a_o x_o9 ++ Z) p2 0 ((x_o9 47 0) - 1) r11 q12) ⟨Nat.le_of_ble_eq_true rfl, Nat.le_of_ble_eq_true rfl⟩ hl.1 rfl (Nat.le_of_ble_eq_true rfl) dX11_fragment_32 ⟨Nat.zero_le _, Nat.zero_le _⟩ rfl (fun H locs hW => ?_)
    obtain ⟨r13, x_o14, q15, h⟩ := bnd2_s h
    refine cl_X11_222 hx hb hml hown hts hK hN hW (c_X11_may l D T A a_o (Z) x_o9 r11 r13 x_o14 q15) ⟨Nat.le_of_ble_eq_true rfl, Nat.le_of_ble_eq_true rfl⟩ hl.1 rfl (Nat.le_of_ble_eq_true rfl) dX11_fragment_35 ⟨Nat.zero_le _, Nat.zero_le _⟩ rfl (fun H locs hW => ?_)
    refine lv_if_eq (tgt := 50) hx hb dX11_fragment_38 (by decide) (fun c16 => ?_) (fun c16 => ?_)
    · have h := ite_t c16 h
      refine lv_iconst (v := 0) hx hb dX11_fragment_50 (by decide) ?_
      obtain ⟨rfl, rfl⟩ := ret2 h
      rw [hQ]
      exact g_reti hx hb hr hlk hW dX11_fragment_51
    · have h := ite_f c16 h
      refine lv_aload_n hx hb dX11_fragment_41 rfl (lv_at hl 0 rfl) ?_
      refine fg_X11_135 (v := .ref (a_o 42)) hx hb hts hown hK hW 0 rfl rfl dX11_fragment_42 ?_
      refine lv_iload_n hx hb dX11_fragment_45 rfl (lv_at hl 2 rfl) ?_
      obtain ⟨g17, h⟩ := grd_s h
      refine g_iald hx hb hK hW 42 rfl g17 dX11_fragment_46 ?_
      refine lv_goto (tgt := 51) hx hb dX11_fragment_47 (by decide) ?_
      obtain ⟨rfl, rfl⟩ := ret2 h
      rw [hQ]
      exact g_reti hx hb hr hlk hW dX11_fragment_51
  · have h := ite_t c6 h
    refine lv_iconst (v := 0) hx hb dX11_fragment_11 (by decide) ?_
    obtain ⟨rfl, rfl⟩ := ret2 h
    rw [hQ]
    exact g_reti hx hb hr hlk hW dX11_fragment_12
set_option maxHeartbeats 4000000 in
set_option maxRecDepth 100000 in
theorem c_X11_candidate (l : Launch) (D : va_G) (T : Nat → ClassId) (A : Nat → Prop) (a_o : Nat → Nat) (Z : va_W)  (x_o : Ob) (p1 : Int32) (p2 : Int32) (p3 : Int32) (r : Int32) (x_o9 : Ob) (h : f_X11_candidate x_o p1 p2 p3 = some (r, x_o9)) : Met l yX11_candidate (Cond.code yX11_candidate cX11_candidate 16 (some .int) :: wsL_law) (rmd 2) (Pg D T A (oc_X11 T a_o x_o ++ Z) [.ref (a_o 0), .int p1, .int p2, .int p3]) (Qgi D A (oc_X11 T a_o x_o9 ++ Z) r) 0 0 A := by
  refine Met.ofW (cc := cX11_candidate) (maxL := 16) (ret := (some .int)) (by decide +kernel) rfl ?_
  intro p e s m args below meth c s₁ B hml hv
  obtain ⟨ha, hP, hK, hD, hN⟩ := hv
  have hx := B.exec
  have hb := B.bytes
  have hr := B.returns
  have hlk := B.notSynchronized
  have hts : ∀ w ∈ wsL_law, w.before args s = true := fun w hw => atoms_spec B.pre w (List.mem_cons_of_mem _ hw)
  have hown : s.vm.findClass RX11 = some m.cls := findClass_of_methodNamed B.named
  have hW : Wd D A s.heap (oc_X11 T a_o x_o ++ Z) s.heap [] := ⟨hP, hD, va_S.rf⟩
  have hl := lv_entry [.ref (a_o 0), .int p1, .int p2, .int p3] (n := 16) (Nat.le_of_ble_eq_true rfl)
  refine W.eq (en_eq ha) ?_
  generalize (lg_sl [.ref (a_o 0), .int p1, .int p2, .int p3] ++ List.replicate (16 - (lg_sl [.ref (a_o 0), .int p1, .int p2, .int p3]).length) Slot.unset).toArray = ls at hl ⊢
  have hl : lv_has ls 16 [(0, .ref (a_o 0)), (1, .int p1), (2, .int p2), (3, .int p3)] := hl
  clear hP hD B ha
  obtain ⟨Q, hQ⟩ : ∃ Q, Q = MQ below (Qgi D A (oc_X11 T a_o x_o9 ++ Z) r) args s 0 0 A := ⟨_, rfl⟩
  rw [← hQ]
  change W p l e (rmd 2) s m args below meth c s.heap [] 0 0 Q (F0 m 0 ls [])
  have L150 : ∀ (n : Nat) (x_o_150 : Ob) (v1_150 : Int32) (v6_150 : Int32) (v7_150 : Int32) (v8_150 : Int32) (H : Heap) (locs : List Loc) (ls : Array Slot) (o8_150r : Int32), Wd D A s.heap (oc_X11 T a_o x_o_150 ++ Z) H locs → lv_has ls 16 [(0, .ref (a_o 0)), (1, .int v1_150), (6, .int v6_150), (7, .int v7_150), (8, .int v8_150)] → f_X11_candidate_L150 n x_o_150 v1_150 v6_150 v7_150 v8_150 = some o8_150r → (∀ (H : Heap) (locs : List Loc) (ls : Array Slot), Wd D A s.heap (oc_X11 T a_o x_o_150 ++ Z) H locs → lv_has ls 16 [(0, .ref (a_o 0)), (1, .int v1_150), (6, .int v6_150), (7, .int v7_150), (8, .int o8_150r)] → W p l e (rmd 2) s m args below meth c H locs 0 0 Q (F0 m 199 ls [])) → W p l e (rmd 2) s m args below meth c H locs 0 0 Q (F0 m 150 ls []) := by
    intro n
    induction n with
    | zero =>
      intro x_o_150 v1_150 v6_150 v7_150 v8_150 H locs ls o8_150r hW hl h k1
      rw [f_X11_candidate_L150] at h
      cases h
    | succ n ih =>
      intro x_o_150 v1_150 v6_150 v7_150 v8_150 H locs ls o8_150r hW hl h k1
      rw [f_X11_candidate_L150] at h
      refine lv_aload_n hx hb dX11_candidate_150 rfl (lv_at hl 0 rfl) ?_
      refine fg_X11_105 (v := .ref (a_o 32)) hx hb hts hown hK hW 0 rfl rfl dX11_candidate_151 ?_
      refine lv_iload hx hb dX11_candidate_154 (lv_at hl 4 rfl) ?_
      obtain ⟨g23, h⟩ := grd_s h
      refine g_iald hx hb hK hW 32 rfl g23 dX11_candidate_156 ?_
      refine lv_iconst (v := (-1)) hx hb dX11_candidate_157 (by decide) ?_
      refine lv_icmp_eq (tgt := 199) hx hb dX11_candidate_158 (by decide) (fun c24 => ?_) (fun c24 => ?_)
      · have h := ite_t c24 h
        obtain rfl := ret1 h
        exact k1 H locs ls hW (lv_sub hl [0, 1, 2, 3, 4] rfl)
      · have h := ite_f c24 h
        refine lv_aload_n hx hb dX11_candidate_161 rfl (lv_at hl 0 rfl) ?_
        refine fg_X11_77 (v := .ref (a_o 23)) hx hb hts hown hK hW 0 rfl rfl dX11_candidate_162 ?_
        refine lv_aload_n hx hb dX11_candidate_165 rfl (lv_at hl 0 rfl) ?_
        refine fg_X11_105 (v := .ref (a_o 32)) hx hb hts hown hK hW 0 rfl rfl dX11_candidate_166 ?_
        refine lv_iload hx hb dX11_candidate_169 (lv_at hl 4 rfl) ?_
        obtain ⟨g25, h⟩ := grd_s h
        refine g_iald hx hb hK hW 32 rfl g25 dX11_candidate_171 ?_
        obtain ⟨g26, h⟩ := grd_s h
        refine g_iald hx hb hK hW 23 rfl g26 dX11_candidate_172 ?_
        refine lv_iconst (v := 2) hx hb dX11_candidate_173 (by decide) ?_
        refine lv_icmp_ne (tgt := 187) hx hb dX11_candidate_174 (by decide) (fun c27 => ?_) (fun c27 => ?_)
        · have h := ite_f c27 h
          refine lv_aload_n hx hb dX11_candidate_187 rfl (lv_at hl 0 rfl) ?_
          refine fg_X11_108 (v := .ref (a_o 33)) hx hb hts hown hK hW 0 rfl rfl dX11_candidate_188 ?_
          refine lv_iload hx hb dX11_candidate_191 (lv_at hl 4 rfl) ?_
          obtain ⟨g28, h⟩ := grd_s h
          refine g_iald hx hb hK hW 33 rfl g28 dX11_candidate_193 ?_
          refine lv_topi (fun w8_29 ew8_29 => ?_)
          have h := lb_at ew8_29 h
          refine lv_istore (lv' := [(8, .int w8_29), (0, .ref (a_o 0)), (1, .int v1_150), (6, .int v6_150), (7, .int v7_150)]) hx hb dX11_candidate_194 hl (by decide) rfl (fun ls hl => ?_)
          refine lv_goto (tgt := 150) hx hb dX11_candidate_196 (by decide) ?_
          exact ih _ _ _ _ _ H locs ls _ hW (lv_sub hl [1, 2, 3, 4, 0] rfl) h k1
        · have h := ite_t c27 h
          refine lv_aload_n hx hb dX11_candidate_177 rfl (lv_at hl 0 rfl) ?_
          refine fg_X11_111 (v := .ref (a_o 34)) hx hb hts hown hK hW 0 rfl rfl dX11_candidate_178 ?_
          refine lv_iload hx hb dX11_candidate_181 (lv_at hl 4 rfl) ?_
          obtain ⟨g30, h⟩ := grd_s h
          refine g_iald hx hb hK hW 34 rfl g30 dX11_candidate_183 ?_
          refine lv_goto (tgt := 194) hx hb dX11_candidate_184 (by decide) ?_
          refine lv_topi (fun w8_31 ew8_31 => ?_)
          have h := lb_at ew8_31 h
          refine lv_istore (lv' := [(8, .int w8_31), (0, .ref (a_o 0)), (1, .int v1_150), (6, .int v6_150), (7, .int v7_150)]) hx hb dX11_candidate_194 hl (by decide) rfl (fun ls hl => ?_)
          refine lv_goto (tgt := 150) hx hb dX11_candidate_196 (by decide) ?_
          exact ih _ _ _ _ _ H locs ls _ hW (lv_sub hl [1, 2, 3, 4, 0] rfl) h k1
  have L314 : ∀ (n : Nat) (x_o_314 : Ob) (v6_314 : Int32) (v7_314 : Int32) (v9_314 : Int32) (v10_314 : Int32) (v11_314 : Int32) (v12_314 : Int32) (v13_314 : Int32) (v14_314 : Int32) (v15_314 : Int32) (H : Heap) (locs : List Loc) (ls : Array Slot) (o14_314r : Int32) (o15_314r : Int32), Wd D A s.heap (oc_X11 T a_o x_o_314 ++ Z) H locs → lv_has ls 16 [(0, .ref (a_o 0)), (6, .int v6_314), (7, .int v7_314), (9, .int v9_314), (10, .int v10_314), (11, .int v11_314), (12, .int v12_314), (13, .int v13_314), (14, .int v14_314), (15, .int v15_314)] → f_X11_candidate_L314 n x_o_314 v6_314 v7_314 v9_314 v10_314 v11_314 v12_314 v13_314 v14_314 v15_314 = some (o14_314r, o15_314r) → (∀ (H : Heap) (locs : List Loc) (ls : Array Slot), Wd D A s.heap (oc_X11 T a_o x_o_314 ++ Z) H locs → lv_has ls 16 [(0, .ref (a_o 0)), (6, .int v6_314), (7, .int v7_314), (9, .int v9_314), (10, .int v10_314), (11, .int v11_314), (12, .int v12_314), (13, .int v13_314), (14, .int o14_314r)] → W p l e (rmd 2) s m args below meth c H locs 0 0 Q (F0 m 386 ls [])) → W p l e (rmd 2) s m args below meth c H locs 0 0 Q (F0 m 314 ls []) := by
    intro n
    induction n with
    | zero =>
      intro x_o_314 v6_314 v7_314 v9_314 v10_314 v11_314 v12_314 v13_314 v14_314 v15_314 H locs ls o14_314r o15_314r hW hl h k1
      rw [f_X11_candidate_L314] at h
      cases h
    | succ n ih =>
      intro x_o_314 v6_314 v7_314 v9_314 v10_314 v11_314 v12_314 v13_314 v14_314 v15_314 H locs ls o14_314r o15_314r hW hl h k1
      rw [f_X11_candidate_L314] at h
      refine lv_iload hx hb dX11_candidate_314 (lv_at hl 9 rfl) ?_
      refine lv_iconst (v := 3) hx hb dX11_candidate_316 (by decide) ?_
      refine lv_icmp_ge (tgt := 386) hx hb dX11_candidate_317 (by decide) (fun c47 => ?_) (fun c47 => ?_)
      · have h := ite_t c47 h
        obtain ⟨rfl, rfl⟩ := ret2 h
        exact k1 H locs ls hW (lv_sub hl [0, 1, 2, 3, 4, 5, 6, 7, 8] rfl)
      · have h := ite_f c47 h
        refine lv_iload hx hb dX11_candidate_320 (lv_at hl 8 rfl) ?_
        refine lv_if_eq (tgt := 377) hx hb dX11_candidate_322 (by decide) (fun c48 => ?_) (fun c48 => ?_)
        · have h := ite_t c48 h
          refine lv_iconst (v := 0) hx hb dX11_candidate_377 (by decide) ?_
          refine lv_istore (lv' := [(14, .int 0), (0, .ref (a_o 0)), (6, .int v6_314), (7, .int v7_314), (9, .int v9_314), (10, .int v10_314), (11, .int v11_314), (12, .int v12_314), (13, .int v13_314), (15, .int v15_314)]) hx hb dX11_candidate_378 hl (by decide) rfl (fun ls hl => ?_)
          obtain ⟨w15_49, ew15_49⟩ : ∃ y : Int32, y = v15_314 + 1 := ⟨_, rfl⟩
          have h := lb_at ew15_49 h
          refine lv_iinc (v := w15_49) (lv' := [(15, .int w15_49), (14, .int 0), (0, .ref (a_o 0)), (6, .int v6_314), (7, .int v7_314), (9, .int v9_314), (10, .int v10_314), (11, .int v11_314), (12, .int v12_314), (13, .int v13_314)]) hx hb dX11_candidate_380 hl (k := 9) rfl (by rw [ew15_49]; rfl) (by decide) rfl (fun ls hl => ?_)
          refine lv_goto (tgt := 314) hx hb dX11_candidate_383 (by decide) ?_
          exact ih _ _ _ _ _ _ _ _ _ _ H locs ls _ _ hW (lv_sub hl [2, 3, 4, 5, 6, 7, 8, 9, 1, 0] rfl) h k1
        · have h := ite_f c48 h
          refine lv_aload_n hx hb dX11_candidate_325 rfl (lv_at hl 0 rfl) ?_
          refine fg_X11_22 (v := .ref (a_o 5)) hx hb hts hown hK hW 0 rfl rfl dX11_candidate_326 ?_
          refine lv_bipush (v := 12) hx hb dX11_candidate_329 (by decide) ?_
          refine lv_iload hx hb dX11_candidate_331 (lv_at hl 6 rfl) ?_
          refine lv_imul hx hb dX11_candidate_333 ?_
          refine lv_iconst (v := 3) hx hb dX11_candidate_334 (by decide) ?_
          refine lv_iload hx hb dX11_candidate_335 (lv_at hl 7 rfl) ?_
          refine lv_imul hx hb dX11_candidate_337 ?_
          refine lv_iadd hx hb dX11_candidate_338 ?_
          refine lv_iload hx hb dX11_candidate_339 (lv_at hl 9 rfl) ?_
          refine lv_iadd hx hb dX11_candidate_341 ?_
          obtain ⟨g50, h⟩ := grd_s h
          refine g_iald hx hb hK hW 5 rfl g50 dX11_candidate_342 ?_
          refine lv_iload hx hb dX11_candidate_343 (lv_at hl 9 rfl) ?_
          refine lv_aload_n hx hb dX11_candidate_345 rfl (lv_at hl 0 rfl) ?_
          refine fg_X11_83 (v := .ref (a_o 25)) hx hb hts hown hK hW 0 rfl rfl dX11_candidate_346 ?_
          refine lv_iload hx hb dX11_candidate_349 (lv_at hl 1 rfl) ?_
          obtain ⟨g51, h⟩ := grd_s h
          refine g_iald hx hb hK hW 25 rfl g51 dX11_candidate_351 ?_
          refine lv_icmp_ne (tgt := 360) hx hb dX11_candidate_352 (by decide) (fun c52 => ?_) (fun c52 => ?_)
          · have h := ite_f c52 h
            refine lv_aload_n hx hb dX11_candidate_360 rfl (lv_at hl 0 rfl) ?_
            refine lv_iload hx hb dX11_candidate_361 (lv_at hl 5 rfl) ?_
            refine lv_iload hx hb dX11_candidate_363 (lv_at hl 4 rfl) ?_
            refine lv_iload hx hb dX11_candidate_365 (lv_at hl 9 rfl) ?_
            obtain ⟨r53, q54, h⟩ := bnd1_s h
            refine cl_X11_247 hx hb hml hown hts hK hN hW (c_X11_featureOf l D T A a_o (Z) x_o_314 v11_314 v10_314 v15_314 r53 q54) ⟨Nat.le_of_ble_eq_true rfl, Nat.le_of_ble_eq_true rfl⟩ hl.1 rfl (Nat.le_of_ble_eq_true rfl) dX11_candidate_367 ⟨Nat.zero_le _, Nat.zero_le _⟩ rfl (fun H locs hW => ?_)
            refine lv_icmp_ne (tgt := 377) hx hb dX11_candidate_370 (by decide) (fun c55 => ?_) (fun c55 => ?_)
            · have h := ite_f c55 h
              refine lv_iconst (v := 0) hx hb dX11_candidate_377 (by decide) ?_
              refine lv_istore (lv' := [(14, .int 0), (0, .ref (a_o 0)), (6, .int v6_314), (7, .int v7_314), (9, .int v9_314), (10, .int v10_314), (11, .int v11_314), (12, .int v12_314), (13, .int v13_314), (15, .int v15_314)]) hx hb dX11_candidate_378 hl (by decide) rfl (fun ls hl => ?_)
              obtain ⟨w15_56, ew15_56⟩ : ∃ y : Int32, y = v15_314 + 1 := ⟨_, rfl⟩
              have h := lb_at ew15_56 h
              refine lv_iinc (v := w15_56) (lv' := [(15, .int w15_56), (14, .int 0), (0, .ref (a_o 0)), (6, .int v6_314), (7, .int v7_314), (9, .int v9_314), (10, .int v10_314), (11, .int v11_314), (12, .int v12_314), (13, .int v13_314)]) hx hb dX11_candidate_380 hl (k := 9) rfl (by rw [ew15_56]; rfl) (by decide) rfl (fun ls hl => ?_)
              refine lv_goto (tgt := 314) hx hb dX11_candidate_383 (by decide) ?_
              exact ih _ _ _ _ _ _ _ _ _ _ H locs ls _ _ hW (lv_sub hl [2, 3, 4, 5, 6, 7, 8, 9, 1, 0] rfl) h k1
            · have h := ite_t c55 h
              refine lv_iconst (v := 1) hx hb dX11_candidate_373 (by decide) ?_
              refine lv_goto (tgt := 378) hx hb dX11_candidate_374 (by decide) ?_
              refine lv_istore (lv' := [(14, .int 1), (0, .ref (a_o 0)), (6, .int v6_314), (7, .int v7_314), (9, .int v9_314), (10, .int v10_314), (11, .int v11_314), (12, .int v12_314), (13, .int v13_314), (15, .int v15_314)]) hx hb dX11_candidate_378 hl (by decide) rfl (fun ls hl => ?_)
              obtain ⟨w15_57, ew15_57⟩ : ∃ y : Int32, y = v15_314 + 1 := ⟨_, rfl⟩
              have h := lb_at ew15_57 h
              refine lv_iinc (v := w15_57) (lv' := [(15, .int w15_57), (14, .int 1), (0, .ref (a_o 0)), (6, .int v6_314), (7, .int v7_314), (9, .int v9_314), (10, .int v10_314), (11, .int v11_314), (12, .int v12_314), (13, .int v13_314)]) hx hb dX11_candidate_380 hl (k := 9) rfl (by rw [ew15_57]; rfl) (by decide) rfl (fun ls hl => ?_)
              refine lv_goto (tgt := 314) hx hb dX11_candidate_383 (by decide) ?_
              exact ih _ _ _ _ _ _ _ _ _ _ H locs ls _ _ hW (lv_sub hl [2, 3, 4, 5, 6, 7, 8, 9, 1, 0] rfl) h k1
          · have h := ite_t c52 h
            refine lv_iload hx hb dX11_candidate_355 (lv_at hl 2 rfl) ?_
            refine lv_goto (tgt := 370) hx hb dX11_candidate_357 (by decide) ?_
            refine lv_icmp_ne (tgt := 377) hx hb dX11_candidate_370 (by decide) (fun c58 => ?_) (fun c58 => ?_)
            · have h := ite_f c58 h
              refine lv_iconst (v := 0) hx hb dX11_candidate_377 (by decide) ?_
              refine lv_istore (lv' := [(14, .int 0), (0, .ref (a_o 0)), (6, .int v6_314), (7, .int v7_314), (9, .int v9_314), (10, .int v10_314), (11, .int v11_314), (12, .int v12_314), (13, .int v13_314), (15, .int v15_314)]) hx hb dX11_candidate_378 hl (by decide) rfl (fun ls hl => ?_)
              obtain ⟨w15_59, ew15_59⟩ : ∃ y : Int32, y = v15_314 + 1 := ⟨_, rfl⟩
              have h := lb_at ew15_59 h
              refine lv_iinc (v := w15_59) (lv' := [(15, .int w15_59), (14, .int 0), (0, .ref (a_o 0)), (6, .int v6_314), (7, .int v7_314), (9, .int v9_314), (10, .int v10_314), (11, .int v11_314), (12, .int v12_314), (13, .int v13_314)]) hx hb dX11_candidate_380 hl (k := 9) rfl (by rw [ew15_59]; rfl) (by decide) rfl (fun ls hl => ?_)
              refine lv_goto (tgt := 314) hx hb dX11_candidate_383 (by decide) ?_
              exact ih _ _ _ _ _ _ _ _ _ _ H locs ls _ _ hW (lv_sub hl [2, 3, 4, 5, 6, 7, 8, 9, 1, 0] rfl) h k1
            · have h := ite_t c58 h
              refine lv_iconst (v := 1) hx hb dX11_candidate_373 (by decide) ?_
              refine lv_goto (tgt := 378) hx hb dX11_candidate_374 (by decide) ?_
              refine lv_istore (lv' := [(14, .int 1), (0, .ref (a_o 0)), (6, .int v6_314), (7, .int v7_314), (9, .int v9_314), (10, .int v10_314), (11, .int v11_314), (12, .int v12_314), (13, .int v13_314), (15, .int v15_314)]) hx hb dX11_candidate_378 hl (by decide) rfl (fun ls hl => ?_)
              obtain ⟨w15_60, ew15_60⟩ : ∃ y : Int32, y = v15_314 + 1 := ⟨_, rfl⟩
              have h := lb_at ew15_60 h
              refine lv_iinc (v := w15_60) (lv' := [(15, .int w15_60), (14, .int 1), (0, .ref (a_o 0)), (6, .int v6_314), (7, .int v7_314), (9, .int v9_314), (10, .int v10_314), (11, .int v11_314), (12, .int v12_314), (13, .int v13_314)]) hx hb dX11_candidate_380 hl (k := 9) rfl (by rw [ew15_60]; rfl) (by decide) rfl (fun ls hl => ?_)
              refine lv_goto (tgt := 314) hx hb dX11_candidate_383 (by decide) ?_
              exact ih _ _ _ _ _ _ _ _ _ _ H locs ls _ _ hW (lv_sub hl [2, 3, 4, 5, 6, 7, 8, 9, 1, 0] rfl) h k1
  have J309 : ∀ (x_o_309 : Ob) (v6_309 : Int32) (v7_309 : Int32) (v9_309 : Int32) (v10_309 : Int32) (v11_309 : Int32) (v12_309 : Int32) (v13_309 : Int32) (s0_309 : Int32) (H : Heap) (locs : List Loc) (ls : Array Slot) (code : Nat) (o13j : Int32), Wd D A s.heap (oc_X11 T a_o x_o_309 ++ Z) H locs → lv_has ls 16 [(0, .ref (a_o 0)), (6, .int v6_309), (7, .int v7_309), (9, .int v9_309), (10, .int v10_309), (11, .int v11_309), (12, .int v12_309), (13, .int v13_309)] → f_X11_candidate_J309 x_o_309 v6_309 v7_309 v9_309 v10_309 v11_309 v12_309 v13_309 s0_309 = some (code, o13j) → (code = 0 → ∀ (H : Heap) (locs : List Loc) (ls : Array Slot), Wd D A s.heap (oc_X11 T a_o x_o_309 ++ Z) H locs → lv_has ls 16 [(0, .ref (a_o 0)), (6, .int v6_309), (7, .int v7_309), (9, .int v9_309), (10, .int v10_309), (11, .int v11_309), (12, .int v12_309), (13, .int o13j)] → W p l e (rmd 2) s m args below meth c H locs 0 0 Q (F0 m 246 ls [])) → (code = 1 → ∀ (H : Heap) (locs : List Loc) (ls : Array Slot), Wd D A s.heap (oc_X11 T a_o x_o_309 ++ Z) H locs → lv_has ls 16 [(0, .ref (a_o 0)), (6, .int v6_309), (7, .int v7_309), (9, .int v9_309), (10, .int v10_309), (11, .int v11_309), (12, .int v12_309)] → W p l e (rmd 2) s m args below meth c H locs 0 0 Q (F0 m 406 ls [])) → (code = 2 → ∀ (H : Heap) (locs : List Loc) (ls : Array Slot), Wd D A s.heap (oc_X11 T a_o x_o_309 ++ Z) H locs → lv_has ls 16 [(9, .int v9_309), (12, .int v12_309)] → W p l e (rmd 2) s m args below meth c H locs 0 0 Q (F0 m 391 ls [])) → W p l e (rmd 2) s m args below meth c H locs 0 0 Q (F0 m 309 ls [.int s0_309]) := by
    intro x_o_309 v6_309 v7_309 v9_309 v10_309 v11_309 v12_309 v13_309 s0_309 H locs ls code o13j hW hl h k0 k1 k2
    rw [f_X11_candidate_J309] at h
    refine lv_istore (lv' := [(14, .int s0_309), (0, .ref (a_o 0)), (6, .int v6_309), (7, .int v7_309), (9, .int v9_309), (10, .int v10_309), (11, .int v11_309), (12, .int v12_309), (13, .int v13_309)]) hx hb dX11_candidate_309 hl (by decide) rfl (fun ls hl => ?_)
    refine lv_iconst (v := 0) hx hb dX11_candidate_311 (by decide) ?_
    refine lv_istore (lv' := [(15, .int 0), (14, .int s0_309), (0, .ref (a_o 0)), (6, .int v6_309), (7, .int v7_309), (9, .int v9_309), (10, .int v10_309), (11, .int v11_309), (12, .int v12_309), (13, .int v13_309)]) hx hb dX11_candidate_312 hl (by decide) rfl (fun ls hl => ?_)
    obtain ⟨o14_u61, o15_u61, q62, h⟩ := bnd2_s h
    refine L314 200 _ _ _ _ _ _ _ _ _ _ H locs ls o14_u61 o15_u61 hW (lv_sub hl [2, 3, 4, 5, 6, 7, 8, 9, 1, 0] rfl) q62 (fun H locs ls hW hl => ?_)
    refine lv_iload hx hb dX11_candidate_386 (lv_at hl 8 rfl) ?_
    refine lv_if_eq (tgt := 400) hx hb dX11_candidate_388 (by decide) (fun c63 => ?_) (fun c63 => ?_)
    · have h := ite_t c63 h
      obtain ⟨w13_64, ew13_64⟩ : ∃ y : Int32, y = v13_309 + 1 := ⟨_, rfl⟩
      have h := lb_at ew13_64 h
      refine lv_iinc (v := w13_64) (lv' := [(13, .int w13_64), (0, .ref (a_o 0)), (6, .int v6_309), (7, .int v7_309), (9, .int v9_309), (10, .int v10_309), (11, .int v11_309), (12, .int v12_309), (14, .int o14_u61)]) hx hb dX11_candidate_400 hl (k := 7) rfl (by rw [ew13_64]; rfl) (by decide) rfl (fun ls hl => ?_)
      refine lv_goto (tgt := 246) hx hb dX11_candidate_403 (by decide) ?_
      obtain ⟨rfl, rfl⟩ := ret2 h
      exact k0 rfl H locs ls hW (lv_sub hl [1, 2, 3, 4, 5, 6, 7, 0] rfl)
    · have h := ite_f c63 h
      obtain ⟨rfl, rfl⟩ := ret2 h
      exact k2 rfl H locs ls hW (lv_sub hl [3, 6] rfl)
  have J308 : ∀ (x_o_308 : Ob) (v6_308 : Int32) (v7_308 : Int32) (v9_308 : Int32) (v10_308 : Int32) (v11_308 : Int32) (v12_308 : Int32) (v13_308 : Int32) (H : Heap) (locs : List Loc) (ls : Array Slot) (code : Nat) (o13j : Int32), Wd D A s.heap (oc_X11 T a_o x_o_308 ++ Z) H locs → lv_has ls 16 [(0, .ref (a_o 0)), (6, .int v6_308), (7, .int v7_308), (9, .int v9_308), (10, .int v10_308), (11, .int v11_308), (12, .int v12_308), (13, .int v13_308)] → f_X11_candidate_J308 x_o_308 v6_308 v7_308 v9_308 v10_308 v11_308 v12_308 v13_308 = some (code, o13j) → (code = 0 → ∀ (H : Heap) (locs : List Loc) (ls : Array Slot), Wd D A s.heap (oc_X11 T a_o x_o_308 ++ Z) H locs → lv_has ls 16 [(0, .ref (a_o 0)), (6, .int v6_308), (7, .int v7_308), (9, .int v9_308), (10, .int v10_308), (11, .int v11_308), (12, .int v12_308), (13, .int o13j)] → W p l e (rmd 2) s m args below meth c H locs 0 0 Q (F0 m 246 ls [])) → (code = 1 → ∀ (H : Heap) (locs : List Loc) (ls : Array Slot), Wd D A s.heap (oc_X11 T a_o x_o_308 ++ Z) H locs → lv_has ls 16 [(0, .ref (a_o 0)), (6, .int v6_308), (7, .int v7_308), (9, .int v9_308), (10, .int v10_308), (11, .int v11_308), (12, .int v12_308)] → W p l e (rmd 2) s m args below meth c H locs 0 0 Q (F0 m 406 ls [])) → (code = 2 → ∀ (H : Heap) (locs : List Loc) (ls : Array Slot), Wd D A s.heap (oc_X11 T a_o x_o_308 ++ Z) H locs → lv_has ls 16 [(9, .int v9_308), (12, .int v12_308)] → W p l e (rmd 2) s m args below meth c H locs 0 0 Q (F0 m 391 ls [])) → W p l e (rmd 2) s m args below meth c H locs 0 0 Q (F0 m 308 ls []) := by
    intro x_o_308 v6_308 v7_308 v9_308 v10_308 v11_308 v12_308 v13_308 H locs ls code o13j hW hl h k0 k1 k2
    rw [f_X11_candidate_J308] at h
    refine lv_iconst (v := 0) hx hb dX11_candidate_308 (by decide) ?_
    exact J309 _ _ _ _ _ _ _ _ _ H locs ls _ _ hW (lv_sub hl [0, 1, 2, 3, 4, 5, 6, 7] rfl) h k0 k1 k2
  have L246 : ∀ (n : Nat) (x_o_246 : Ob) (v6_246 : Int32) (v7_246 : Int32) (v9_246 : Int32) (v10_246 : Int32) (v11_246 : Int32) (v12_246 : Int32) (v13_246 : Int32) (H : Heap) (locs : List Loc) (ls : Array Slot) (code : Nat) (o13_246r : Int32), Wd D A s.heap (oc_X11 T a_o x_o_246 ++ Z) H locs → lv_has ls 16 [(0, .ref (a_o 0)), (6, .int v6_246), (7, .int v7_246), (9, .int v9_246), (10, .int v10_246), (11, .int v11_246), (12, .int v12_246), (13, .int v13_246)] → f_X11_candidate_L246 n x_o_246 v6_246 v7_246 v9_246 v10_246 v11_246 v12_246 v13_246 = some (code, o13_246r) → (code = 1 → ∀ (H : Heap) (locs : List Loc) (ls : Array Slot), Wd D A s.heap (oc_X11 T a_o x_o_246 ++ Z) H locs → lv_has ls 16 [(0, .ref (a_o 0)), (6, .int v6_246), (7, .int v7_246), (9, .int v9_246), (10, .int v10_246), (11, .int v11_246), (12, .int v12_246)] → W p l e (rmd 2) s m args below meth c H locs 0 0 Q (F0 m 406 ls [])) → (code = 2 → ∀ (H : Heap) (locs : List Loc) (ls : Array Slot), Wd D A s.heap (oc_X11 T a_o x_o_246 ++ Z) H locs → lv_has ls 16 [(9, .int v9_246), (12, .int v12_246)] → W p l e (rmd 2) s m args below meth c H locs 0 0 Q (F0 m 391 ls [])) → W p l e (rmd 2) s m args below meth c H locs 0 0 Q (F0 m 246 ls []) := by
    intro n
    induction n with
    | zero =>
      intro x_o_246 v6_246 v7_246 v9_246 v10_246 v11_246 v12_246 v13_246 H locs ls code o13_246r hW hl h k1 k2
      rw [f_X11_candidate_L246] at h
      cases h
    | succ n ih =>
      intro x_o_246 v6_246 v7_246 v9_246 v10_246 v11_246 v12_246 v13_246 H locs ls code o13_246r hW hl h k1 k2
      rw [f_X11_candidate_L246] at h
      refine lv_iload hx hb dX11_candidate_246 (lv_at hl 7 rfl) ?_
      refine lv_aload_n hx hb dX11_candidate_248 rfl (lv_at hl 0 rfl) ?_
      refine fg_X11_13 (v := .ref (a_o 2)) hx hb hts hown hK hW 0 rfl rfl dX11_candidate_249 ?_
      refine lv_iload hx hb dX11_candidate_252 (lv_at hl 6 rfl) ?_
      obtain ⟨g41, h⟩ := grd_s h
      refine g_iald hx hb hK hW 2 rfl g41 dX11_candidate_254 ?_
      refine lv_icmp_ge (tgt := 406) hx hb dX11_candidate_255 (by decide) (fun c42 => ?_) (fun c42 => ?_)
      · have h := ite_t c42 h
        obtain ⟨rfl, rfl⟩ := ret2 h
        exact k1 rfl H locs ls hW (lv_sub hl [0, 1, 2, 3, 4, 5, 6] rfl)
      · have h := ite_f c42 h
        refine lv_aload_n hx hb dX11_candidate_258 rfl (lv_at hl 0 rfl) ?_
        refine fg_X11_16 (v := .ref (a_o 3)) hx hb hts hown hK hW 0 rfl rfl dX11_candidate_259 ?_
        refine lv_iconst (v := 4) hx hb dX11_candidate_262 (by decide) ?_
        refine lv_iload hx hb dX11_candidate_263 (lv_at hl 6 rfl) ?_
        refine lv_imul hx hb dX11_candidate_265 ?_
        refine lv_iload hx hb dX11_candidate_266 (lv_at hl 7 rfl) ?_
        refine lv_iadd hx hb dX11_candidate_268 ?_
        obtain ⟨g43, h⟩ := grd_s h
        refine g_iald hx hb hK hW 3 rfl g43 dX11_candidate_269 ?_
        refine lv_aload_n hx hb dX11_candidate_270 rfl (lv_at hl 0 rfl) ?_
        refine lv_iload hx hb dX11_candidate_271 (lv_at hl 5 rfl) ?_
        refine lv_iload hx hb dX11_candidate_273 (lv_at hl 4 rfl) ?_
        obtain ⟨r44, q45, h⟩ := bnd1_s h
        refine cl_X11_333 hx hb hml hown hts hK hN hW (c_X11_lemmaOf l D T A a_o (Z) x_o_246 v11_246 v10_246 r44 q45) ⟨Nat.le_of_ble_eq_true rfl, Nat.le_of_ble_eq_true rfl⟩ hl.1 rfl (Nat.le_of_ble_eq_true rfl) dX11_candidate_275 ⟨Nat.zero_le _, Nat.zero_le _⟩ rfl (fun H locs hW => ?_)
        refine lv_icmp_ne (tgt := 308) hx hb dX11_candidate_278 (by decide) (fun c46 => ?_) (fun c46 => ?_)
        · have h := ite_f c46 h
          obtain ⟨code66, o13_t65, q67, h⟩ := bnd2_s h
          refine J308 _ _ _ _ _ _ _ _ H locs ls code66 o13_t65 hW (lv_sub hl [0, 1, 2, 3, 4, 5, 6, 7] rfl) q67 (fun hc H locs ls hW hl => ?_) (fun hc H locs ls hW hl => ?_) (fun hc H locs ls hW hl => ?_)
          · have h := ite_t hc h
            exact ih _ _ _ _ _ _ _ _ H locs ls _ _ hW (lv_sub hl [0, 1, 2, 3, 4, 5, 6, 7] rfl) h k1 k2
          · have h := ite_f (by rw [hc]; decide) h
            obtain ⟨rfl, rfl⟩ := ret2 h
            exact k1 hc H locs ls hW hl
          · have h := ite_f (by rw [hc]; decide) h
            obtain ⟨rfl, rfl⟩ := ret2 h
            exact k2 hc H locs ls hW hl
        · have h := ite_t c46 h
          refine lv_aload_n hx hb dX11_candidate_281 rfl (lv_at hl 0 rfl) ?_
          refine fg_X11_19 (v := .ref (a_o 4)) hx hb hts hown hK hW 0 rfl rfl dX11_candidate_282 ?_
          refine lv_iconst (v := 4) hx hb dX11_candidate_285 (by decide) ?_
          refine lv_iload hx hb dX11_candidate_286 (lv_at hl 6 rfl) ?_
          refine lv_imul hx hb dX11_candidate_288 ?_
          refine lv_iload hx hb dX11_candidate_289 (lv_at hl 7 rfl) ?_
          refine lv_iadd hx hb dX11_candidate_291 ?_
          obtain ⟨g68, h⟩ := grd_s h
          refine g_iald hx hb hK hW 4 rfl g68 dX11_candidate_292 ?_
          refine lv_aload_n hx hb dX11_candidate_293 rfl (lv_at hl 0 rfl) ?_
          refine lv_iload hx hb dX11_candidate_294 (lv_at hl 5 rfl) ?_
          refine lv_iload hx hb dX11_candidate_296 (lv_at hl 4 rfl) ?_
          obtain ⟨r69, q70, h⟩ := bnd1_s h
          refine cl_X11_237 hx hb hml hown hts hK hN hW (c_X11_categoryOf l D T A a_o (Z) x_o_246 v11_246 v10_246 r69 q70) ⟨Nat.le_of_ble_eq_true rfl, Nat.le_of_ble_eq_true rfl⟩ hl.1 rfl (Nat.le_of_ble_eq_true rfl) dX11_candidate_298 ⟨Nat.zero_le _, Nat.zero_le _⟩ rfl (fun H locs hW => ?_)
          refine lv_icmp_ne (tgt := 308) hx hb dX11_candidate_301 (by decide) (fun c71 => ?_) (fun c71 => ?_)
          · have h := ite_f c71 h
            obtain ⟨code73, o13_t72, q74, h⟩ := bnd2_s h
            refine J308 _ _ _ _ _ _ _ _ H locs ls code73 o13_t72 hW (lv_sub hl [0, 1, 2, 3, 4, 5, 6, 7] rfl) q74 (fun hc H locs ls hW hl => ?_) (fun hc H locs ls hW hl => ?_) (fun hc H locs ls hW hl => ?_)
            · have h := ite_t hc h
              exact ih _ _ _ _ _ _ _ _ H locs ls _ _ hW (lv_sub hl [0, 1, 2, 3, 4, 5, 6, 7] rfl) h k1 k2
            · have h := ite_f (by rw [hc]; decide) h
              obtain ⟨rfl, rfl⟩ := ret2 h
              exact k1 hc H locs ls hW hl
            · have h := ite_f (by rw [hc]; decide) h
              obtain ⟨rfl, rfl⟩ := ret2 h
              exact k2 hc H locs ls hW hl
          · have h := ite_t c71 h
            refine lv_iconst (v := 1) hx hb dX11_candidate_304 (by decide) ?_
            refine lv_goto (tgt := 309) hx hb dX11_candidate_305 (by decide) ?_
            obtain ⟨code76, o13_t75, q77, h⟩ := bnd2_s h
            refine J309 _ _ _ _ _ _ _ _ _ H locs ls code76 o13_t75 hW (lv_sub hl [0, 1, 2, 3, 4, 5, 6, 7] rfl) q77 (fun hc H locs ls hW hl => ?_) (fun hc H locs ls hW hl => ?_) (fun hc H locs ls hW hl => ?_)
            · have h := ite_t hc h
              exact ih _ _ _ _ _ _ _ _ H locs ls _ _ hW (lv_sub hl [0, 1, 2, 3, 4, 5, 6, 7] rfl) h k1 k2
            · have h := ite_f (by rw [hc]; decide) h
              obtain ⟨rfl, rfl⟩ := ret2 h
              exact k1 hc H locs ls hW hl
            · have h := ite_f (by rw [hc]; decide) h
              obtain ⟨rfl, rfl⟩ := ret2 h
              exact k2 hc H locs ls hW hl
  have L234 : ∀ (n : Nat) (x_o_234 : Ob) (v6_234 : Int32) (v7_234 : Int32) (v9_234 : Int32) (v10_234 : Int32) (v11_234 : Int32) (v12_234 : Int32) (H : Heap) (locs : List Loc) (ls : Array Slot) (code : Nat) (o12_234r : Int32), Wd D A s.heap (oc_X11 T a_o x_o_234 ++ Z) H locs → lv_has ls 16 [(0, .ref (a_o 0)), (6, .int v6_234), (7, .int v7_234), (9, .int v9_234), (10, .int v10_234), (11, .int v11_234), (12, .int v12_234)] → f_X11_candidate_L234 n x_o_234 v6_234 v7_234 v9_234 v10_234 v11_234 v12_234 = some (code, o12_234r) → (code = 1 → ∀ (H : Heap) (locs : List Loc) (ls : Array Slot), Wd D A s.heap (oc_X11 T a_o x_o_234 ++ Z) H locs → lv_has ls 16 [] → W p l e (rmd 2) s m args below meth c H locs 0 0 Q (F0 m 412 ls [])) → (code = 2 → ∀ (H : Heap) (locs : List Loc) (ls : Array Slot), Wd D A s.heap (oc_X11 T a_o x_o_234 ++ Z) H locs → lv_has ls 16 [(9, .int v9_234), (12, .int o12_234r)] → W p l e (rmd 2) s m args below meth c H locs 0 0 Q (F0 m 391 ls [])) → W p l e (rmd 2) s m args below meth c H locs 0 0 Q (F0 m 234 ls []) := by
    intro n
    induction n with
    | zero =>
      intro x_o_234 v6_234 v7_234 v9_234 v10_234 v11_234 v12_234 H locs ls code o12_234r hW hl h k1 k2
      rw [f_X11_candidate_L234] at h
      cases h
    | succ n ih =>
      intro x_o_234 v6_234 v7_234 v9_234 v10_234 v11_234 v12_234 H locs ls code o12_234r hW hl h k1 k2
      rw [f_X11_candidate_L234] at h
      refine lv_iload hx hb dX11_candidate_234 (lv_at hl 6 rfl) ?_
      refine lv_aload_n hx hb dX11_candidate_236 rfl (lv_at hl 0 rfl) ?_
      refine fg_X11_191 (v := .int (x_o_234 0 0)) hx hb hts hown hK hW 0 rfl rfl dX11_candidate_237 ?_
      refine lv_icmp_ge (tgt := 412) hx hb dX11_candidate_240 (by decide) (fun c40 => ?_) (fun c40 => ?_)
      · have h := ite_t c40 h
        obtain ⟨rfl, rfl⟩ := ret2 h
        exact k1 rfl H locs ls hW (lv_sub hl [] rfl)
      · have h := ite_f c40 h
        refine lv_iconst (v := 0) hx hb dX11_candidate_243 (by decide) ?_
        refine lv_istore (lv' := [(13, .int 0), (0, .ref (a_o 0)), (6, .int v6_234), (7, .int v7_234), (9, .int v9_234), (10, .int v10_234), (11, .int v11_234), (12, .int v12_234)]) hx hb dX11_candidate_244 hl (by decide) rfl (fun ls hl => ?_)
        obtain ⟨code79, o13_u78, q80, h⟩ := bnd2_s h
        refine L246 200 _ _ _ _ _ _ _ _ H locs ls code79 o13_u78 hW (lv_sub hl [1, 2, 3, 4, 5, 6, 7, 0] rfl) q80 (fun hc H locs ls hW hl => ?_) (fun hc H locs ls hW hl => ?_)
        · have h := ite_t hc h
          obtain ⟨w12_81, ew12_81⟩ : ∃ y : Int32, y = v12_234 + 1 := ⟨_, rfl⟩
          have h := lb_at ew12_81 h
          refine lv_iinc (v := w12_81) (lv' := [(12, .int w12_81), (0, .ref (a_o 0)), (6, .int v6_234), (7, .int v7_234), (9, .int v9_234), (10, .int v10_234), (11, .int v11_234)]) hx hb dX11_candidate_406 hl (k := 6) rfl (by rw [ew12_81]; rfl) (by decide) rfl (fun ls hl => ?_)
          refine lv_goto (tgt := 234) hx hb dX11_candidate_409 (by decide) ?_
          exact ih _ _ _ _ _ _ _ H locs ls _ _ hW (lv_sub hl [1, 2, 3, 4, 5, 6, 0] rfl) h k1 k2
        · have h := ite_f (by rw [hc]; decide) h
          obtain ⟨rfl, rfl⟩ := ret2 h
          exact k2 rfl H locs ls hW (lv_sub hl [0, 1] rfl)
  have J148 : ∀ (x_o_148 : Ob) (v1_148 : Int32) (v6_148 : Int32) (v7_148 : Int32) (s0_148 : Int32) (H : Heap) (locs : List Loc) (ls : Array Slot), Wd D A s.heap (oc_X11 T a_o x_o_148 ++ Z) H locs → lv_has ls 16 [(0, .ref (a_o 0)), (1, .int v1_148), (6, .int v6_148), (7, .int v7_148)] → f_X11_candidate_J148 x_o_148 v1_148 v6_148 v7_148 s0_148 = some (r, x_o9) → W p l e (rmd 2) s m args below meth c H locs 0 0 Q (F0 m 148 ls [.int s0_148]) := by
    intro x_o_148 v1_148 v6_148 v7_148 s0_148 H locs ls hW hl h
    rw [f_X11_candidate_J148] at h
    refine lv_istore (lv' := [(8, .int s0_148), (0, .ref (a_o 0)), (1, .int v1_148), (6, .int v6_148), (7, .int v7_148)]) hx hb dX11_candidate_148 hl (by decide) rfl (fun ls hl => ?_)
    obtain ⟨o8_u32, q33, h⟩ := bnd1_s h
    refine L150 200 _ _ _ _ _ H locs ls o8_u32 hW (lv_sub hl [1, 2, 3, 4, 0] rfl) q33 (fun H locs ls hW hl => ?_)
    refine lv_aload_n hx hb dX11_candidate_199 rfl (lv_at hl 0 rfl) ?_
    refine fg_X11_108 (v := .ref (a_o 33)) hx hb hts hown hK hW 0 rfl rfl dX11_candidate_200 ?_
    refine lv_iload hx hb dX11_candidate_203 (lv_at hl 4 rfl) ?_
    obtain ⟨g34, h⟩ := grd_s h
    refine g_iald hx hb hK hW 33 rfl g34 dX11_candidate_205 ?_
    refine lv_topi (fun w9_35 ew9_35 => ?_)
    have h := lb_at ew9_35 h
    refine lv_istore (lv' := [(9, .int w9_35), (0, .ref (a_o 0)), (1, .int v1_148), (6, .int v6_148), (7, .int v7_148), (8, .int o8_u32)]) hx hb dX11_candidate_206 hl (by decide) rfl (fun ls hl => ?_)
    refine lv_aload_n hx hb dX11_candidate_208 rfl (lv_at hl 1 rfl) ?_
    refine fg_X11_111 (v := .ref (a_o 34)) hx hb hts hown hK hW 0 rfl rfl dX11_candidate_209 ?_
    refine lv_iload hx hb dX11_candidate_212 (lv_at hl 5 rfl) ?_
    obtain ⟨g36, h⟩ := grd_s h
    refine g_iald hx hb hK hW 34 rfl g36 dX11_candidate_214 ?_
    refine lv_topi (fun w10_37 ew10_37 => ?_)
    have h := lb_at ew10_37 h
    refine lv_istore (lv' := [(10, .int w10_37), (9, .int w9_35), (0, .ref (a_o 0)), (1, .int v1_148), (6, .int v6_148), (7, .int v7_148), (8, .int o8_u32)]) hx hb dX11_candidate_215 hl (by decide) rfl (fun ls hl => ?_)
    refine lv_aload_n hx hb dX11_candidate_217 rfl (lv_at hl 2 rfl) ?_
    refine fg_X11_37 (v := .ref (a_o 10)) hx hb hts hown hK hW 0 rfl rfl dX11_candidate_218 ?_
    refine lv_bipush (v := 6) hx hb dX11_candidate_221 (by decide) ?_
    refine lv_iload_n hx hb dX11_candidate_223 rfl (lv_at hl 3 rfl) ?_
    refine lv_imul hx hb dX11_candidate_224 ?_
    refine lv_iload hx hb dX11_candidate_225 (lv_at hl 1 rfl) ?_
    refine lv_iadd hx hb dX11_candidate_227 ?_
    obtain ⟨g38, h⟩ := grd_s h
    refine g_iald hx hb hK hW 10 rfl g38 dX11_candidate_228 ?_
    refine lv_topi (fun w11_39 ew11_39 => ?_)
    have h := lb_at ew11_39 h
    refine lv_istore (lv' := [(11, .int w11_39), (10, .int w10_37), (9, .int w9_35), (0, .ref (a_o 0)), (1, .int v1_148), (6, .int v6_148), (7, .int v7_148), (8, .int o8_u32)]) hx hb dX11_candidate_229 hl (by decide) rfl (fun ls hl => ?_)
    refine lv_iconst (v := 0) hx hb dX11_candidate_231 (by decide) ?_
    refine lv_istore (lv' := [(12, .int 0), (11, .int w11_39), (10, .int w10_37), (9, .int w9_35), (0, .ref (a_o 0)), (1, .int v1_148), (6, .int v6_148), (7, .int v7_148), (8, .int o8_u32)]) hx hb dX11_candidate_232 hl (by decide) rfl (fun ls hl => ?_)
    obtain ⟨code83, o12_u82, q84, h⟩ := bnd2_s h
    refine L234 200 _ _ _ _ _ _ _ H locs ls code83 o12_u82 hW (lv_sub hl [4, 6, 7, 3, 2, 1, 0] rfl) q84 (fun hc H locs ls hW hl => ?_) (fun hc H locs ls hW hl => ?_)
    · have h := ite_t hc h
      refine lv_iconst (v := (-1)) hx hb dX11_candidate_412 (by decide) ?_
      obtain ⟨rfl, rfl⟩ := ret2 h
      rw [hQ]
      exact g_reti hx hb hr hlk hW dX11_candidate_413
    · have h := ite_f (by rw [hc]; decide) h
      refine lv_bipush (v := 100) hx hb dX11_candidate_391 (by decide) ?_
      refine lv_iload hx hb dX11_candidate_393 (lv_at hl 0 rfl) ?_
      refine lv_imul hx hb dX11_candidate_395 ?_
      refine lv_iload hx hb dX11_candidate_396 (lv_at hl 1 rfl) ?_
      refine lv_iadd hx hb dX11_candidate_398 ?_
      obtain ⟨rfl, rfl⟩ := ret2 h
      rw [hQ]
      exact g_reti hx hb hr hlk hW dX11_candidate_399
  have J114 : ∀ (x_o_114 : Ob) (v1_114 : Int32) (v3_114 : Int32) (v4_114 : Int32) (v6_114 : Int32) (s1_114 : Int32) (s2_114 : Int32) (H : Heap) (locs : List Loc) (ls : Array Slot), Wd D A s.heap (oc_X11 T a_o x_o_114 ++ Z) H locs → lv_has ls 16 [(0, .ref (a_o 0)), (1, .int v1_114), (3, .int v3_114), (4, .int v4_114), (6, .int v6_114)] → f_X11_candidate_J114 x_o_114 v1_114 v3_114 v4_114 v6_114 s1_114 s2_114 = some (r, x_o9) → W p l e (rmd 2) s m args below meth c H locs 0 0 Q (F0 m 114 ls [.int s2_114, .int s1_114, .ref (a_o 38)]) := by
    intro x_o_114 v1_114 v3_114 v4_114 v6_114 s1_114 s2_114 H locs ls hW hl h
    rw [f_X11_candidate_J114] at h
    refine lv_imul hx hb dX11_candidate_114 ?_
    refine lv_aload_n hx hb dX11_candidate_115 rfl (lv_at hl 0 rfl) ?_
    refine fg_X11_83 (v := .ref (a_o 25)) hx hb hts hown hK hW 0 rfl rfl dX11_candidate_116 ?_
    refine lv_iload hx hb dX11_candidate_119 (lv_at hl 4 rfl) ?_
    obtain ⟨g18, h⟩ := grd_s h
    refine g_iald hx hb hK hW 25 rfl g18 dX11_candidate_121 ?_
    refine lv_iadd hx hb dX11_candidate_122 ?_
    obtain ⟨g19, h⟩ := grd_s h
    refine g_iald hx hb hK hW 38 rfl g19 dX11_candidate_123 ?_
    refine lv_topi (fun w7_20 ew7_20 => ?_)
    have h := lb_at ew7_20 h
    refine lv_istore (lv' := [(7, .int w7_20), (0, .ref (a_o 0)), (1, .int v1_114), (3, .int v3_114), (4, .int v4_114), (6, .int v6_114)]) hx hb dX11_candidate_124 hl (by decide) rfl (fun ls hl => ?_)
    refine lv_iload_n hx hb dX11_candidate_126 rfl (lv_at hl 3 rfl) ?_
    refine lv_iconst (v := 1) hx hb dX11_candidate_127 (by decide) ?_
    refine lv_icmp_ne (tgt := 141) hx hb dX11_candidate_128 (by decide) (fun c21 => ?_) (fun c21 => ?_)
    · have h := ite_f c21 h
      refine lv_aload_n hx hb dX11_candidate_141 rfl (lv_at hl 1 rfl) ?_
      refine fg_X11_111 (v := .ref (a_o 34)) hx hb hts hown hK hW 0 rfl rfl dX11_candidate_142 ?_
      refine lv_iload hx hb dX11_candidate_145 (lv_at hl 4 rfl) ?_
      obtain ⟨g22, h⟩ := grd_s h
      refine g_iald hx hb hK hW 34 rfl g22 dX11_candidate_147 ?_
      exact J148 _ _ _ _ _ H locs ls hW (lv_sub hl [1, 2, 5, 0] rfl) h
    · have h := ite_t c21 h
      refine lv_aload_n hx hb dX11_candidate_131 rfl (lv_at hl 1 rfl) ?_
      refine fg_X11_108 (v := .ref (a_o 33)) hx hb hts hown hK hW 0 rfl rfl dX11_candidate_132 ?_
      refine lv_iload hx hb dX11_candidate_135 (lv_at hl 4 rfl) ?_
      obtain ⟨g85, h⟩ := grd_s h
      refine g_iald hx hb hK hW 33 rfl g85 dX11_candidate_137 ?_
      refine lv_goto (tgt := 148) hx hb dX11_candidate_138 (by decide) ?_
      exact J148 _ _ _ _ _ H locs ls hW (lv_sub hl [1, 2, 5, 0] rfl) h
  have J54 : ∀ (x_o_54 : Ob) (v1_54 : Int32) (v2_54 : Int32) (v3_54 : Int32) (v4_54 : Int32) (v5_54 : Int32) (v6_54 : Int32) (H : Heap) (locs : List Loc) (ls : Array Slot), Wd D A s.heap (oc_X11 T a_o x_o_54 ++ Z) H locs → lv_has ls 16 [(0, .ref (a_o 0)), (1, .int v1_54), (2, .int v2_54), (3, .int v3_54), (4, .int v4_54), (5, .int v5_54), (6, .int v6_54)] → f_X11_candidate_J54 x_o_54 v1_54 v2_54 v3_54 v4_54 v5_54 v6_54 = some (r, x_o9) → W p l e (rmd 2) s m args below meth c H locs 0 0 Q (F0 m 54 ls []) := by
    intro x_o_54 v1_54 v2_54 v3_54 v4_54 v5_54 v6_54 H locs ls hW hl h
    rw [f_X11_candidate_J54] at h
    refine lv_aload_n hx hb dX11_candidate_54 rfl (lv_at hl 0 rfl) ?_
    refine lv_iload hx hb dX11_candidate_55 (lv_at hl 5 rfl) ?_
    refine lv_aload_n hx hb dX11_candidate_57 rfl (lv_at hl 0 rfl) ?_
    refine fg_X11_108 (v := .ref (a_o 33)) hx hb hts hown hK hW 0 rfl rfl dX11_candidate_58 ?_
    refine lv_iload hx hb dX11_candidate_61 (lv_at hl 4 rfl) ?_
    obtain ⟨g9, h⟩ := grd_s h
    refine g_iald hx hb hK hW 33 rfl g9 dX11_candidate_63 ?_
    refine lv_aload_n hx hb dX11_candidate_64 rfl (lv_at hl 0 rfl) ?_
    refine fg_X11_111 (v := .ref (a_o 34)) hx hb hts hown hK hW 0 rfl rfl dX11_candidate_65 ?_
    refine lv_iload hx hb dX11_candidate_68 (lv_at hl 4 rfl) ?_
    obtain ⟨g10, h⟩ := grd_s h
    refine g_iald hx hb hK hW 34 rfl g10 dX11_candidate_70 ?_
    refine lv_aload_n hx hb dX11_candidate_71 rfl (lv_at hl 0 rfl) ?_
    refine fg_X11_129 (v := .ref (a_o 40)) hx hb hts hown hK hW 0 rfl rfl dX11_candidate_72 ?_
    refine lv_iload_n hx hb dX11_candidate_75 rfl (lv_at hl 2 rfl) ?_
    obtain ⟨g11, h⟩ := grd_s h
    refine g_iald hx hb hK hW 40 rfl g11 dX11_candidate_76 ?_
    obtain ⟨r12, x_o13, q14, h⟩ := bnd2_s h
    refine cl_X11_274 hx hb hml hown hts hK hN hW (c_X11_use l D T A a_o (Z) x_o_54 v5_54 (x_o_54 36 v4_54.toNatClampNeg) (x_o_54 37 v4_54.toNatClampNeg) (x_o_54 45 v2_54.toNatClampNeg) r12 x_o13 q14) ⟨Nat.le_of_ble_eq_true rfl, Nat.le_of_ble_eq_true rfl⟩ hl.1 rfl (Nat.le_of_ble_eq_true rfl) dX11_candidate_77 ⟨Nat.zero_le _, Nat.zero_le _⟩ rfl (fun H locs hW => ?_)
    refine lv_pop hx hb dX11_candidate_80 rfl ?_
    refine lv_aload_n hx hb dX11_candidate_81 rfl (lv_at hl 0 rfl) ?_
    refine fg_X11_123 (v := .ref (a_o 38)) hx hb hts hown hK hW 0 rfl rfl dX11_candidate_82 ?_
    refine lv_iconst (v := 3) hx hb dX11_candidate_85 (by decide) ?_
    refine lv_aload_n hx hb dX11_candidate_86 rfl (lv_at hl 0 rfl) ?_
    refine fg_X11_86 (v := .ref (a_o 26)) hx hb hts hown hK hW 0 rfl rfl dX11_candidate_87 ?_
    refine lv_iload hx hb dX11_candidate_90 (lv_at hl 6 rfl) ?_
    obtain ⟨g15, h⟩ := grd_s h
    refine g_iald hx hb hK hW 26 rfl g15 dX11_candidate_92 ?_
    refine lv_iload_n hx hb dX11_candidate_93 rfl (lv_at hl 3 rfl) ?_
    refine lv_icmp_ne (tgt := 107) hx hb dX11_candidate_94 (by decide) (fun c16 => ?_) (fun c16 => ?_)
    · have h := ite_f c16 h
      refine lv_aload_n hx hb dX11_candidate_107 rfl (lv_at hl 0 rfl) ?_
      refine fg_X11_86 (v := .ref (a_o 26)) hx hb hts hown hK hW 0 rfl rfl dX11_candidate_108 ?_
      refine lv_iload hx hb dX11_candidate_111 (lv_at hl 6 rfl) ?_
      obtain ⟨g17, h⟩ := grd_s h
      refine g_iald hx hb hK hW 26 rfl g17 dX11_candidate_113 ?_
      exact J114 _ _ _ _ _ _ _ H locs ls hW (lv_sub hl [0, 1, 3, 4, 6] rfl) h
    · have h := ite_t c16 h
      refine lv_aload_n hx hb dX11_candidate_97 rfl (lv_at hl 0 rfl) ?_
      refine fg_X11_89 (v := .ref (a_o 27)) hx hb hts hown hK hW 0 rfl rfl dX11_candidate_98 ?_
      refine lv_iload hx hb dX11_candidate_101 (lv_at hl 6 rfl) ?_
      obtain ⟨g86, h⟩ := grd_s h
      refine g_iald hx hb hK hW 27 rfl g86 dX11_candidate_103 ?_
      refine lv_goto (tgt := 114) hx hb dX11_candidate_104 (by decide) ?_
      exact J114 _ _ _ _ _ _ _ H locs ls hW (lv_sub hl [0, 1, 3, 4, 6] rfl) h
  rw [f_X11_candidate] at h
  suffices hm : ∀ (H : Heap) (locs : List Loc), Wd D A s.heap (oc_X11 T a_o x_o ++ Z) H locs → W p l e (rmd 2) s m args below meth c H locs 0 0 Q (F0 m 0 ls []) from hm _ _ hW
  intro H locs hW
  refine lv_aload_n hx hb dX11_candidate_0 rfl (lv_at hl 0 rfl) ?_
  refine fg_X11_126 (v := .ref (a_o 39)) hx hb hts hown hK hW 0 rfl rfl dX11_candidate_1 ?_
  refine lv_iload_n hx hb dX11_candidate_4 rfl (lv_at hl 2 rfl) ?_
  obtain ⟨g1, h⟩ := grd_s h
  refine g_iald hx hb hK hW 39 rfl g1 dX11_candidate_5 ?_
  refine lv_topi (fun w4_2 ew4_2 => ?_)
  have h := lb_at ew4_2 h
  refine lv_istore (lv' := [(4, .int w4_2), (0, .ref (a_o 0)), (1, .int p1), (2, .int p2), (3, .int p3)]) hx hb dX11_candidate_6 hl (by decide) rfl (fun ls hl => ?_)
  refine lv_aload_n hx hb dX11_candidate_8 rfl (lv_at hl 1 rfl) ?_
  refine fg_X11_105 (v := .ref (a_o 32)) hx hb hts hown hK hW 0 rfl rfl dX11_candidate_9 ?_
  refine lv_iload hx hb dX11_candidate_12 (lv_at hl 0 rfl) ?_
  obtain ⟨g3, h⟩ := grd_s h
  refine g_iald hx hb hK hW 32 rfl g3 dX11_candidate_14 ?_
  refine lv_topi (fun w5_4 ew5_4 => ?_)
  have h := lb_at ew5_4 h
  refine lv_istore (lv' := [(5, .int w5_4), (4, .int w4_2), (0, .ref (a_o 0)), (1, .int p1), (2, .int p2), (3, .int p3)]) hx hb dX11_candidate_15 hl (by decide) rfl (fun ls hl => ?_)
  refine lv_iconst (v := 3) hx hb dX11_candidate_17 (by decide) ?_
  refine lv_iload hx hb dX11_candidate_18 (lv_at hl 0 rfl) ?_
  refine lv_imul hx hb dX11_candidate_20 ?_
  refine lv_aload_n hx hb dX11_candidate_21 rfl (lv_at hl 2 rfl) ?_
  refine fg_X11_129 (v := .ref (a_o 40)) hx hb hts hown hK hW 0 rfl rfl dX11_candidate_22 ?_
  refine lv_iload_n hx hb dX11_candidate_25 rfl (lv_at hl 4 rfl) ?_
  obtain ⟨g5, h⟩ := grd_s h
  refine g_iald hx hb hK hW 40 rfl g5 dX11_candidate_26 ?_
  refine lv_iadd hx hb dX11_candidate_27 ?_
  refine lv_topi (fun w6_6 ew6_6 => ?_)
  have h := lb_at ew6_6 h
  refine lv_istore (lv' := [(6, .int w6_6), (5, .int w5_4), (4, .int w4_2), (0, .ref (a_o 0)), (1, .int p1), (2, .int p2), (3, .int p3)]) hx hb dX11_candidate_28 hl (by decide) rfl (fun ls hl => ?_)
  refine lv_aload_n hx hb dX11_candidate_30 rfl (lv_at hl 3 rfl) ?_
  refine fg_X11_86 (v := .ref (a_o 26)) hx hb hts hown hK hW 0 rfl rfl dX11_candidate_31 ?_
  refine lv_iload hx hb dX11_candidate_34 (lv_at hl 0 rfl) ?_
  obtain ⟨g7, h⟩ := grd_s h
  refine g_iald hx hb hK hW 26 rfl g7 dX11_candidate_36 ?_
  refine lv_iload_n hx hb dX11_candidate_37 rfl (lv_at hl 6 rfl) ?_
  refine lv_icmp_eq (tgt := 54) hx hb dX11_candidate_38 (by decide) (fun c8 => ?_) (fun c8 => ?_)
  · have h := ite_t c8 h
    exact J54 _ _ _ _ _ _ _ H locs ls hW (lv_sub hl [3, 4, 5, 6, 2, 1, 0] rfl) h
  · have h := ite_f c8 h
    refine lv_aload_n hx hb dX11_candidate_41 rfl (lv_at hl 3 rfl) ?_
    refine fg_X11_89 (v := .ref (a_o 27)) hx hb hts hown hK hW 0 rfl rfl dX11_candidate_42 ?_
    refine lv_iload hx hb dX11_candidate_45 (lv_at hl 0 rfl) ?_
    obtain ⟨g87, h⟩ := grd_s h
    refine g_iald hx hb hK hW 27 rfl g87 dX11_candidate_47 ?_
    refine lv_iload_n hx hb dX11_candidate_48 rfl (lv_at hl 6 rfl) ?_
    refine lv_icmp_eq (tgt := 54) hx hb dX11_candidate_49 (by decide) (fun c88 => ?_) (fun c88 => ?_)
    · have h := ite_t c88 h
      exact J54 _ _ _ _ _ _ _ H locs ls hW (lv_sub hl [3, 4, 5, 6, 2, 1, 0] rfl) h
    · have h := ite_f c88 h
      refine lv_iconst (v := (-1)) hx hb dX11_candidate_52 (by decide) ?_
      obtain ⟨rfl, rfl⟩ := ret2 h
      rw [hQ]
      exact g_reti hx hb hr hlk hW dX11_candidate_53
set_option maxHeartbeats 4000000 in
set_option maxRecDepth 100000 in
theorem c_X11_costWith (l : Launch) (D : va_G) (T : Nat → ClassId) (A : Nat → Prop) (a_o : Nat → Nat) (Z : va_W)  (x_o : Ob) (p1 : Int32) (p2 : Int32) (p3 : Int32) (r : Int32) (x_o9 : Ob) (h : f_X11_costWith x_o p1 p2 p3 = some (r, x_o9)) : Met l yX11_costWith (Cond.code yX11_costWith cX11_costWith 9 (some .int) :: wsL_law) (rmd 6) (Pg D T A (oc_X11 T a_o x_o ++ Z) [.ref (a_o 0), .int p1, .int p2, .int p3]) (Qgi D A (oc_X11 T a_o x_o9 ++ Z) r) 0 0 A := by
  refine Met.ofW (cc := cX11_costWith) (maxL := 9) (ret := (some .int)) (by decide +kernel) rfl ?_
  intro p e s m args below meth c s₁ B hml hv
  obtain ⟨ha, hP, hK, hD, hN⟩ := hv
  have hx := B.exec
  have hb := B.bytes
  have hr := B.returns
  have hlk := B.notSynchronized
  have hts : ∀ w ∈ wsL_law, w.before args s = true := fun w hw => atoms_spec B.pre w (List.mem_cons_of_mem _ hw)
  have hown : s.vm.findClass RX11 = some m.cls := findClass_of_methodNamed B.named
  have hW : Wd D A s.heap (oc_X11 T a_o x_o ++ Z) s.heap [] := ⟨hP, hD, va_S.rf⟩
  have hl := lv_entry [.ref (a_o 0), .int p1, .int p2, .int p3] (n := 9) (Nat.le_of_ble_eq_true rfl)
  refine W.eq (en_eq ha) ?_
  generalize (lg_sl [.ref (a_o 0), .int p1, .int p2, .int p3] ++ List.replicate (9 - (lg_sl [.ref (a_o 0), .int p1, .int p2, .int p3]).length) Slot.unset).toArray = ls at hl ⊢
  have hl : lv_has ls 9 [(0, .ref (a_o 0)), (1, .int p1), (2, .int p2), (3, .int p3)] := hl
  clear hP hD B ha
  obtain ⟨Q, hQ⟩ : ∃ Q, Q = MQ below (Qgi D A (oc_X11 T a_o x_o9 ++ Z) r) args s 0 0 A := ⟨_, rfl⟩
  rw [← hQ]
  change W p l e (rmd 6) s m args below meth c s.heap [] 0 0 Q (F0 m 0 ls [])
  have J145 : ∀ (x_o_145 : Ob) (v2_145 : Int32) (v4_145 : Int32) (v6_145 : Int32) (v8_145 : Int32) (s1_145 : Int32) (s2_145 : Int32) (H : Heap) (locs : List Loc) (ls : Array Slot), Wd D A s.heap (oc_X11 T a_o x_o_145 ++ Z) H locs → lv_has ls 9 [(0, .ref (a_o 0)), (2, .int v2_145), (4, .int v4_145), (6, .int v6_145), (8, .int v8_145)] → f_X11_costWith_J145 x_o_145 v2_145 v4_145 v6_145 v8_145 s1_145 s2_145 = some (r, x_o9) → W p l e (rmd 6) s m args below meth c H locs 0 0 Q (F0 m 145 ls [.int s2_145, .int s1_145, .ref (a_o 10)]) := by
    intro x_o_145 v2_145 v4_145 v6_145 v8_145 s1_145 s2_145 H locs ls hW hl h
    rw [f_X11_costWith_J145] at h
    obtain ⟨g18, h⟩ := grd_s h
    refine g_iast (ws9 := oc_X11 T a_o (upo x_o_145 10 s1_145.toNatClampNeg s2_145) ++ Z) hx hb hK hW 10 rfl g18 sa_X11_10 dX11_costWith_145 (fun H locs hW => ?_)
    obtain ⟨x_o19, ex_o19⟩ : ∃ y : Ob, y = upo x_o_145 10 s1_145.toNatClampNeg s2_145 := ⟨_, rfl⟩
    rw [← ex_o19] at hW
    have h := lb_at ex_o19 h
    refine lv_aload_n hx hb dX11_costWith_146 rfl (lv_at hl 0 rfl) ?_
    refine fg_X11_37 (v := .ref (a_o 10)) hx hb hts hown hK hW 0 rfl rfl dX11_costWith_147 ?_
    refine lv_iload hx hb dX11_costWith_150 (lv_at hl 2 rfl) ?_
    refine lv_iload_n hx hb dX11_costWith_152 rfl (lv_at hl 1 rfl) ?_
    refine lv_iconst (v := (-1)) hx hb dX11_costWith_153 (by decide) ?_
    refine lv_icmp_ne (tgt := 167) hx hb dX11_costWith_154 (by decide) (fun c20 => ?_) (fun c20 => ?_)
    · have h := ite_f c20 h
      refine lv_iload hx hb dX11_costWith_167 (lv_at hl 3 rfl) ?_
      obtain ⟨g21, h⟩ := grd_s h
      refine g_iast (ws9 := oc_X11 T a_o (upo x_o19 10 v4_145.toNatClampNeg v6_145) ++ Z) hx hb hK hW 10 rfl g21 sa_X11_10 dX11_costWith_169 (fun H locs hW => ?_)
      obtain ⟨x_o22, ex_o22⟩ : ∃ y : Ob, y = upo x_o19 10 v4_145.toNatClampNeg v6_145 := ⟨_, rfl⟩
      rw [← ex_o22] at hW
      have h := lb_at ex_o22 h
      refine lv_iload hx hb dX11_costWith_170 (lv_at hl 4 rfl) ?_
      obtain ⟨rfl, rfl⟩ := ret2 h
      rw [hQ]
      exact g_reti hx hb hr hlk hW dX11_costWith_172
    · have h := ite_t c20 h
      refine lv_aload_n hx hb dX11_costWith_157 rfl (lv_at hl 0 rfl) ?_
      refine fg_X11_37 (v := .ref (a_o 10)) hx hb hts hown hK hW 0 rfl rfl dX11_costWith_158 ?_
      refine lv_iload hx hb dX11_costWith_161 (lv_at hl 2 rfl) ?_
      obtain ⟨g23, h⟩ := grd_s h
      refine g_iald hx hb hK hW 10 rfl g23 dX11_costWith_163 ?_
      refine lv_goto (tgt := 169) hx hb dX11_costWith_164 (by decide) ?_
      obtain ⟨g24, h⟩ := grd_s h
      refine g_iast (ws9 := oc_X11 T a_o (upo x_o19 10 v4_145.toNatClampNeg (x_o19 10 v4_145.toNatClampNeg)) ++ Z) hx hb hK hW 10 rfl g24 sa_X11_10 dX11_costWith_169 (fun H locs hW => ?_)
      obtain ⟨x_o25, ex_o25⟩ : ∃ y : Ob, y = upo x_o19 10 v4_145.toNatClampNeg (x_o19 10 v4_145.toNatClampNeg) := ⟨_, rfl⟩
      rw [← ex_o25] at hW
      have h := lb_at ex_o25 h
      refine lv_iload hx hb dX11_costWith_170 (lv_at hl 4 rfl) ?_
      obtain ⟨rfl, rfl⟩ := ret2 h
      rw [hQ]
      exact g_reti hx hb hr hlk hW dX11_costWith_172
  have J109 : ∀ (x_o_109 : Ob) (v1_109 : Int32) (v2_109 : Int32) (v3_109 : Int32) (v4_109 : Int32) (v5_109 : Int32) (v6_109 : Int32) (v7_109 : Int32) (s1_109 : Int32) (s2_109 : Int32) (H : Heap) (locs : List Loc) (ls : Array Slot), Wd D A s.heap (oc_X11 T a_o x_o_109 ++ Z) H locs → lv_has ls 9 [(0, .ref (a_o 0)), (1, .int v1_109), (2, .int v2_109), (3, .int v3_109), (4, .int v4_109), (5, .int v5_109), (6, .int v6_109), (7, .int v7_109)] → f_X11_costWith_J109 x_o_109 v1_109 v2_109 v3_109 v4_109 v5_109 v6_109 v7_109 s1_109 s2_109 = some (r, x_o9) → W p l e (rmd 6) s m args below meth c H locs 0 0 Q (F0 m 109 ls [.int s2_109, .int s1_109, .ref (a_o 10)]) := by
    intro x_o_109 v1_109 v2_109 v3_109 v4_109 v5_109 v6_109 v7_109 s1_109 s2_109 H locs ls hW hl h
    rw [f_X11_costWith_J109] at h
    obtain ⟨g11, h⟩ := grd_s h
    refine g_iast (ws9 := oc_X11 T a_o (upo x_o_109 10 s1_109.toNatClampNeg s2_109) ++ Z) hx hb hK hW 10 rfl g11 sa_X11_10 dX11_costWith_109 (fun H locs hW => ?_)
    obtain ⟨x_o12, ex_o12⟩ : ∃ y : Ob, y = upo x_o_109 10 s1_109.toNatClampNeg s2_109 := ⟨_, rfl⟩
    rw [← ex_o12] at hW
    have h := lb_at ex_o12 h
    refine lv_aload_n hx hb dX11_costWith_110 rfl (lv_at hl 0 rfl) ?_
    refine lv_iload_n hx hb dX11_costWith_111 rfl (lv_at hl 1 rfl) ?_
    obtain ⟨x_o13, q14, h⟩ := bnd1_s h
    refine cl_X11_301 hx hb hml hown hts hK hN hW (c_X11_chart l D T A a_o (Z) x_o12 v1_109 x_o13 q14) ⟨Nat.le_of_ble_eq_true rfl, Nat.le_of_ble_eq_true rfl⟩ hl.1 rfl (Nat.le_of_ble_eq_true rfl) dX11_costWith_112 ⟨Nat.zero_le _, Nat.zero_le _⟩ rfl (fun H locs hW => ?_)
    refine lv_aload_n hx hb dX11_costWith_115 rfl (lv_at hl 0 rfl) ?_
    refine lv_iload_n hx hb dX11_costWith_116 rfl (lv_at hl 1 rfl) ?_
    obtain ⟨r15, q16, h⟩ := bnd1_s h
    refine cl_X11_322 hx hb hml hown hts hK hN hW (c_X11_costNow l D T A a_o (Z) x_o13 v1_109 r15 q16) ⟨Nat.le_of_ble_eq_true rfl, Nat.le_of_ble_eq_true rfl⟩ hl.1 rfl (Nat.le_of_ble_eq_true rfl) dX11_costWith_117 ⟨Nat.zero_le _, Nat.zero_le _⟩ rfl (fun H locs hW => ?_)
    refine lv_istore (lv' := [(8, .int r15), (0, .ref (a_o 0)), (1, .int v1_109), (2, .int v2_109), (3, .int v3_109), (4, .int v4_109), (5, .int v5_109), (6, .int v6_109), (7, .int v7_109)]) hx hb dX11_costWith_120 hl (by decide) rfl (fun ls hl => ?_)
    refine lv_aload_n hx hb dX11_costWith_122 rfl (lv_at hl 1 rfl) ?_
    refine fg_X11_37 (v := .ref (a_o 10)) hx hb hts hown hK hW 0 rfl rfl dX11_costWith_123 ?_
    refine lv_iload hx hb dX11_costWith_126 (lv_at hl 6 rfl) ?_
    refine lv_iload_n hx hb dX11_costWith_128 rfl (lv_at hl 4 rfl) ?_
    refine lv_iconst (v := (-1)) hx hb dX11_costWith_129 (by decide) ?_
    refine lv_icmp_ne (tgt := 143) hx hb dX11_costWith_130 (by decide) (fun c17 => ?_) (fun c17 => ?_)
    · have h := ite_f c17 h
      refine lv_iload hx hb dX11_costWith_143 (lv_at hl 8 rfl) ?_
      exact J145 _ _ _ _ _ _ _ H locs ls hW (lv_sub hl [1, 3, 5, 7, 0] rfl) h
    · have h := ite_t c17 h
      refine lv_aload_n hx hb dX11_costWith_133 rfl (lv_at hl 1 rfl) ?_
      refine fg_X11_37 (v := .ref (a_o 10)) hx hb hts hown hK hW 0 rfl rfl dX11_costWith_134 ?_
      refine lv_iload hx hb dX11_costWith_137 (lv_at hl 6 rfl) ?_
      obtain ⟨g26, h⟩ := grd_s h
      refine g_iald hx hb hK hW 10 rfl g26 dX11_costWith_139 ?_
      refine lv_goto (tgt := 145) hx hb dX11_costWith_140 (by decide) ?_
      exact J145 _ _ _ _ _ _ _ H locs ls hW (lv_sub hl [1, 3, 5, 7, 0] rfl) h
  have J83 : ∀ (x_o_83 : Ob) (v1_83 : Int32) (v2_83 : Int32) (v3_83 : Int32) (v4_83 : Int32) (v5_83 : Int32) (v6_83 : Int32) (v7_83 : Int32) (s1_83 : Int32) (s2_83 : Int32) (H : Heap) (locs : List Loc) (ls : Array Slot), Wd D A s.heap (oc_X11 T a_o x_o_83 ++ Z) H locs → lv_has ls 9 [(0, .ref (a_o 0)), (1, .int v1_83), (2, .int v2_83), (3, .int v3_83), (4, .int v4_83), (5, .int v5_83), (6, .int v6_83), (7, .int v7_83)] → f_X11_costWith_J83 x_o_83 v1_83 v2_83 v3_83 v4_83 v5_83 v6_83 v7_83 s1_83 s2_83 = some (r, x_o9) → W p l e (rmd 6) s m args below meth c H locs 0 0 Q (F0 m 83 ls [.int s2_83, .int s1_83, .ref (a_o 10)]) := by
    intro x_o_83 v1_83 v2_83 v3_83 v4_83 v5_83 v6_83 v7_83 s1_83 s2_83 H locs ls hW hl h
    rw [f_X11_costWith_J83] at h
    obtain ⟨g8, h⟩ := grd_s h
    refine g_iast (ws9 := oc_X11 T a_o (upo x_o_83 10 s1_83.toNatClampNeg s2_83) ++ Z) hx hb hK hW 10 rfl g8 sa_X11_10 dX11_costWith_83 (fun H locs hW => ?_)
    obtain ⟨x_o9, ex_o9⟩ : ∃ y : Ob, y = upo x_o_83 10 s1_83.toNatClampNeg s2_83 := ⟨_, rfl⟩
    rw [← ex_o9] at hW
    have h := lb_at ex_o9 h
    refine lv_aload_n hx hb dX11_costWith_84 rfl (lv_at hl 0 rfl) ?_
    refine fg_X11_37 (v := .ref (a_o 10)) hx hb hts hown hK hW 0 rfl rfl dX11_costWith_85 ?_
    refine lv_iload hx hb dX11_costWith_88 (lv_at hl 5 rfl) ?_
    refine lv_iload_n hx hb dX11_costWith_90 rfl (lv_at hl 3 rfl) ?_
    refine lv_iconst (v := (-1)) hx hb dX11_costWith_91 (by decide) ?_
    refine lv_icmp_ne (tgt := 105) hx hb dX11_costWith_92 (by decide) (fun c10 => ?_) (fun c10 => ?_)
    · have h := ite_f c10 h
      refine lv_iload_n hx hb dX11_costWith_105 rfl (lv_at hl 3 rfl) ?_
      refine lv_bipush (v := 100) hx hb dX11_costWith_106 (by decide) ?_
      refine lv_irem hx hb dX11_costWith_108 (by decide) ?_
      exact J109 _ _ _ _ _ _ _ _ _ _ H locs ls hW (lv_sub hl [0, 1, 2, 3, 4, 5, 6, 7] rfl) h
    · have h := ite_t c10 h
      refine lv_aload_n hx hb dX11_costWith_95 rfl (lv_at hl 0 rfl) ?_
      refine fg_X11_37 (v := .ref (a_o 10)) hx hb hts hown hK hW 0 rfl rfl dX11_costWith_96 ?_
      refine lv_iload hx hb dX11_costWith_99 (lv_at hl 5 rfl) ?_
      obtain ⟨g27, h⟩ := grd_s h
      refine g_iald hx hb hK hW 10 rfl g27 dX11_costWith_101 ?_
      refine lv_goto (tgt := 109) hx hb dX11_costWith_102 (by decide) ?_
      exact J109 _ _ _ _ _ _ _ _ _ _ H locs ls hW (lv_sub hl [0, 1, 2, 3, 4, 5, 6, 7] rfl) h
  have J38 : ∀ (x_o_38 : Ob) (v1_38 : Int32) (v2_38 : Int32) (v3_38 : Int32) (v4_38 : Int32) (s0_38 : Int32) (H : Heap) (locs : List Loc) (ls : Array Slot), Wd D A s.heap (oc_X11 T a_o x_o_38 ++ Z) H locs → lv_has ls 9 [(0, .ref (a_o 0)), (1, .int v1_38), (2, .int v2_38), (3, .int v3_38), (4, .int v4_38)] → f_X11_costWith_J38 x_o_38 v1_38 v2_38 v3_38 v4_38 s0_38 = some (r, x_o9) → W p l e (rmd 6) s m args below meth c H locs 0 0 Q (F0 m 38 ls [.int s0_38]) := by
    intro x_o_38 v1_38 v2_38 v3_38 v4_38 s0_38 H locs ls hW hl h
    rw [f_X11_costWith_J38] at h
    refine lv_istore (lv' := [(5, .int s0_38), (0, .ref (a_o 0)), (1, .int v1_38), (2, .int v2_38), (3, .int v3_38), (4, .int v4_38)]) hx hb dX11_costWith_38 hl (by decide) rfl (fun ls hl => ?_)
    refine lv_aload_n hx hb dX11_costWith_40 rfl (lv_at hl 1 rfl) ?_
    refine fg_X11_37 (v := .ref (a_o 10)) hx hb hts hown hK hW 0 rfl rfl dX11_costWith_41 ?_
    refine lv_iload hx hb dX11_costWith_44 (lv_at hl 5 rfl) ?_
    obtain ⟨g3, h⟩ := grd_s h
    refine g_iald hx hb hK hW 10 rfl g3 dX11_costWith_46 ?_
    refine lv_topi (fun w6_4 ew6_4 => ?_)
    have h := lb_at ew6_4 h
    refine lv_istore (lv' := [(6, .int w6_4), (5, .int s0_38), (0, .ref (a_o 0)), (1, .int v1_38), (2, .int v2_38), (3, .int v3_38), (4, .int v4_38)]) hx hb dX11_costWith_47 hl (by decide) rfl (fun ls hl => ?_)
    refine lv_aload_n hx hb dX11_costWith_49 rfl (lv_at hl 2 rfl) ?_
    refine fg_X11_37 (v := .ref (a_o 10)) hx hb hts hown hK hW 0 rfl rfl dX11_costWith_50 ?_
    refine lv_iload hx hb dX11_costWith_53 (lv_at hl 1 rfl) ?_
    obtain ⟨g5, h⟩ := grd_s h
    refine g_iald hx hb hK hW 10 rfl g5 dX11_costWith_55 ?_
    refine lv_topi (fun w7_6 ew7_6 => ?_)
    have h := lb_at ew7_6 h
    refine lv_istore (lv' := [(7, .int w7_6), (6, .int w6_4), (5, .int s0_38), (0, .ref (a_o 0)), (1, .int v1_38), (2, .int v2_38), (3, .int v3_38), (4, .int v4_38)]) hx hb dX11_costWith_56 hl (by decide) rfl (fun ls hl => ?_)
    refine lv_aload_n hx hb dX11_costWith_58 rfl (lv_at hl 3 rfl) ?_
    refine fg_X11_37 (v := .ref (a_o 10)) hx hb hts hown hK hW 0 rfl rfl dX11_costWith_59 ?_
    refine lv_iload hx hb dX11_costWith_62 (lv_at hl 7 rfl) ?_
    refine lv_iload_n hx hb dX11_costWith_64 rfl (lv_at hl 5 rfl) ?_
    refine lv_iconst (v := (-1)) hx hb dX11_costWith_65 (by decide) ?_
    refine lv_icmp_ne (tgt := 79) hx hb dX11_costWith_66 (by decide) (fun c7 => ?_) (fun c7 => ?_)
    · have h := ite_f c7 h
      refine lv_iload_n hx hb dX11_costWith_79 rfl (lv_at hl 5 rfl) ?_
      refine lv_bipush (v := 100) hx hb dX11_costWith_80 (by decide) ?_
      refine lv_irem hx hb dX11_costWith_82 (by decide) ?_
      exact J83 _ _ _ _ _ _ _ _ _ _ H locs ls hW (lv_sub hl [3, 4, 5, 6, 7, 2, 1, 0] rfl) h
    · have h := ite_t c7 h
      refine lv_aload_n hx hb dX11_costWith_69 rfl (lv_at hl 3 rfl) ?_
      refine fg_X11_37 (v := .ref (a_o 10)) hx hb hts hown hK hW 0 rfl rfl dX11_costWith_70 ?_
      refine lv_iload hx hb dX11_costWith_73 (lv_at hl 7 rfl) ?_
      obtain ⟨g28, h⟩ := grd_s h
      refine g_iald hx hb hK hW 10 rfl g28 dX11_costWith_75 ?_
      refine lv_goto (tgt := 83) hx hb dX11_costWith_76 (by decide) ?_
      exact J83 _ _ _ _ _ _ _ _ _ _ H locs ls hW (lv_sub hl [3, 4, 5, 6, 7, 2, 1, 0] rfl) h
  have J18 : ∀ (x_o_18 : Ob) (v1_18 : Int32) (v2_18 : Int32) (v3_18 : Int32) (s0_18 : Int32) (H : Heap) (locs : List Loc) (ls : Array Slot), Wd D A s.heap (oc_X11 T a_o x_o_18 ++ Z) H locs → lv_has ls 9 [(0, .ref (a_o 0)), (1, .int v1_18), (2, .int v2_18), (3, .int v3_18)] → f_X11_costWith_J18 x_o_18 v1_18 v2_18 v3_18 s0_18 = some (r, x_o9) → W p l e (rmd 6) s m args below meth c H locs 0 0 Q (F0 m 18 ls [.int s0_18]) := by
    intro x_o_18 v1_18 v2_18 v3_18 s0_18 H locs ls hW hl h
    rw [f_X11_costWith_J18] at h
    refine lv_istore (lv' := [(4, .int s0_18), (0, .ref (a_o 0)), (1, .int v1_18), (2, .int v2_18), (3, .int v3_18)]) hx hb dX11_costWith_18 hl (by decide) rfl (fun ls hl => ?_)
    refine lv_iload_n hx hb dX11_costWith_20 rfl (lv_at hl 4 rfl) ?_
    refine lv_iconst (v := (-1)) hx hb dX11_costWith_21 (by decide) ?_
    refine lv_icmp_ne (tgt := 29) hx hb dX11_costWith_22 (by decide) (fun c2 => ?_) (fun c2 => ?_)
    · have h := ite_f c2 h
      refine lv_bipush (v := 6) hx hb dX11_costWith_29 (by decide) ?_
      refine lv_iload_n hx hb dX11_costWith_31 rfl (lv_at hl 2 rfl) ?_
      refine lv_imul hx hb dX11_costWith_32 ?_
      refine lv_iload_n hx hb dX11_costWith_33 rfl (lv_at hl 4 rfl) ?_
      refine lv_bipush (v := 100) hx hb dX11_costWith_34 (by decide) ?_
      refine lv_idiv hx hb dX11_costWith_36 (by decide) ?_
      refine lv_iadd hx hb dX11_costWith_37 ?_
      exact J38 _ _ _ _ _ _ H locs ls hW (lv_sub hl [1, 2, 3, 4, 0] rfl) h
    · have h := ite_t c2 h
      refine lv_iconst (v := 0) hx hb dX11_costWith_25 (by decide) ?_
      refine lv_goto (tgt := 38) hx hb dX11_costWith_26 (by decide) ?_
      exact J38 _ _ _ _ _ _ H locs ls hW (lv_sub hl [1, 2, 3, 4, 0] rfl) h
  rw [f_X11_costWith] at h
  suffices hm : ∀ (H : Heap) (locs : List Loc), Wd D A s.heap (oc_X11 T a_o x_o ++ Z) H locs → W p l e (rmd 6) s m args below meth c H locs 0 0 Q (F0 m 0 ls []) from hm _ _ hW
  intro H locs hW
  refine lv_iload_n hx hb dX11_costWith_0 rfl (lv_at hl 2 rfl) ?_
  refine lv_iconst (v := (-1)) hx hb dX11_costWith_1 (by decide) ?_
  refine lv_icmp_ne (tgt := 9) hx hb dX11_costWith_2 (by decide) (fun c1 => ?_) (fun c1 => ?_)
  · have h := ite_f c1 h
    refine lv_bipush (v := 6) hx hb dX11_costWith_9 (by decide) ?_
    refine lv_iload_n hx hb dX11_costWith_11 rfl (lv_at hl 1 rfl) ?_
    refine lv_imul hx hb dX11_costWith_12 ?_
    refine lv_iload_n hx hb dX11_costWith_13 rfl (lv_at hl 2 rfl) ?_
    refine lv_bipush (v := 100) hx hb dX11_costWith_14 (by decide) ?_
    refine lv_idiv hx hb dX11_costWith_16 (by decide) ?_
    refine lv_iadd hx hb dX11_costWith_17 ?_
    exact J18 _ _ _ _ _ H locs ls hW (lv_sub hl [0, 1, 2, 3] rfl) h
  · have h := ite_t c1 h
    refine lv_iconst (v := 0) hx hb dX11_costWith_5 (by decide) ?_
    refine lv_goto (tgt := 18) hx hb dX11_costWith_6 (by decide) ?_
    exact J18 _ _ _ _ _ H locs ls hW (lv_sub hl [0, 1, 2, 3] rfl) h
set_option maxHeartbeats 4000000 in
set_option maxRecDepth 100000 in
theorem c_X11_mendOf (l : Launch) (D : va_G) (T : Nat → ClassId) (A : Nat → Prop) (a_o : Nat → Nat) (Z : va_W)  (x_o : Ob) (p1 : Int32) (p2 : Int32) (r : Int32) (x_o9 : Ob) (h : f_X11_mendOf x_o p1 p2 = some (r, x_o9)) : Met l yX11_mendOf (Cond.code yX11_mendOf cX11_mendOf 6 (some .int) :: wsL_law) (rmd 7) (Pg D T A (oc_X11 T a_o x_o ++ Z) [.ref (a_o 0), .int p1, .int p2]) (Qgi D A (oc_X11 T a_o x_o9 ++ Z) r) 0 0 A := by
  refine Met.ofW (cc := cX11_mendOf) (maxL := 6) (ret := (some .int)) (by decide +kernel) rfl ?_
  intro p e s m args below meth c s₁ B hml hv
  obtain ⟨ha, hP, hK, hD, hN⟩ := hv
  have hx := B.exec
  have hb := B.bytes
  have hr := B.returns
  have hlk := B.notSynchronized
  have hts : ∀ w ∈ wsL_law, w.before args s = true := fun w hw => atoms_spec B.pre w (List.mem_cons_of_mem _ hw)
  have hown : s.vm.findClass RX11 = some m.cls := findClass_of_methodNamed B.named
  have hW : Wd D A s.heap (oc_X11 T a_o x_o ++ Z) s.heap [] := ⟨hP, hD, va_S.rf⟩
  have hl := lv_entry [.ref (a_o 0), .int p1, .int p2] (n := 6) (Nat.le_of_ble_eq_true rfl)
  refine W.eq (en_eq ha) ?_
  generalize (lg_sl [.ref (a_o 0), .int p1, .int p2] ++ List.replicate (6 - (lg_sl [.ref (a_o 0), .int p1, .int p2]).length) Slot.unset).toArray = ls at hl ⊢
  have hl : lv_has ls 6 [(0, .ref (a_o 0)), (1, .int p1), (2, .int p2)] := hl
  clear hP hD B ha
  obtain ⟨Q, hQ⟩ : ∃ Q, Q = MQ below (Qgi D A (oc_X11 T a_o x_o9 ++ Z) r) args s 0 0 A := ⟨_, rfl⟩
  rw [← hQ]
  change W p l e (rmd 7) s m args below meth c s.heap [] 0 0 Q (F0 m 0 ls [])
  have J65 : ∀ (x_o_65 : Ob) (v1_65 : Int32) (v3_65 : Int32) (v5_65 : Int32) (H : Heap) (locs : List Loc) (ls : Array Slot), Wd D A s.heap (oc_X11 T a_o x_o_65 ++ Z) H locs → lv_has ls 6 [(0, .ref (a_o 0)), (1, .int v1_65), (3, .int v3_65), (5, .int v5_65)] → f_X11_mendOf_J65 x_o_65 v1_65 v3_65 v5_65 = some (r, x_o9) → W p l e (rmd 7) s m args below meth c H locs 0 0 Q (F0 m 65 ls []) := by
    intro x_o_65 v1_65 v3_65 v5_65 H locs ls hW hl h
    rw [f_X11_mendOf_J65] at h
    refine lv_iload hx hb dX11_mendOf_65 (lv_at hl 3 rfl) ?_
    refine lv_iconst (v := (-1)) hx hb dX11_mendOf_67 (by decide) ?_
    refine lv_icmp_eq (tgt := 88) hx hb dX11_mendOf_68 (by decide) (fun c15 => ?_) (fun c15 => ?_)
    · have h := ite_t c15 h
      refine lv_iconst (v := (-1)) hx hb dX11_mendOf_88 (by decide) ?_
      obtain ⟨rfl, rfl⟩ := ret2 h
      rw [hQ]
      exact g_reti hx hb hr hlk hW dX11_mendOf_89
    · have h := ite_f c15 h
      refine lv_aload_n hx hb dX11_mendOf_71 rfl (lv_at hl 0 rfl) ?_
      refine lv_iload_n hx hb dX11_mendOf_72 rfl (lv_at hl 1 rfl) ?_
      refine lv_iload hx hb dX11_mendOf_73 (lv_at hl 3 rfl) ?_
      refine lv_iconst (v := (-1)) hx hb dX11_mendOf_75 (by decide) ?_
      obtain ⟨r16, x_o17, q18, h⟩ := bnd2_s h
      refine cl_X11_339 hx hb hml hown hts hK hN hW (c_X11_costWith l D T A a_o (Z) x_o_65 v1_65 v5_65 (-1) r16 x_o17 q18) ⟨Nat.le_of_ble_eq_true rfl, Nat.le_of_ble_eq_true rfl⟩ hl.1 rfl (Nat.le_of_ble_eq_true rfl) dX11_mendOf_76 ⟨Nat.zero_le _, Nat.zero_le _⟩ rfl (fun H locs hW => ?_)
      refine lv_iload_n hx hb dX11_mendOf_79 rfl (lv_at hl 2 rfl) ?_
      refine lv_icmp_ge (tgt := 88) hx hb dX11_mendOf_80 (by decide) (fun c19 => ?_) (fun c19 => ?_)
      · have h := ite_t c19 h
        refine lv_iconst (v := (-1)) hx hb dX11_mendOf_88 (by decide) ?_
        obtain ⟨rfl, rfl⟩ := ret2 h
        rw [hQ]
        exact g_reti hx hb hr hlk hW dX11_mendOf_89
      · have h := ite_f c19 h
        refine lv_iload hx hb dX11_mendOf_83 (lv_at hl 3 rfl) ?_
        refine lv_goto (tgt := 89) hx hb dX11_mendOf_85 (by decide) ?_
        obtain ⟨rfl, rfl⟩ := ret2 h
        rw [hQ]
        exact g_reti hx hb hr hlk hW dX11_mendOf_89
  rw [f_X11_mendOf] at h
  suffices hm : ∀ (H : Heap) (locs : List Loc), Wd D A s.heap (oc_X11 T a_o x_o ++ Z) H locs → W p l e (rmd 7) s m args below meth c H locs 0 0 Q (F0 m 0 ls []) from hm _ _ hW
  intro H locs hW
  refine lv_aload_n hx hb dX11_mendOf_0 rfl (lv_at hl 0 rfl) ?_
  refine lv_iload_n hx hb dX11_mendOf_1 rfl (lv_at hl 1 rfl) ?_
  obtain ⟨x_o1, q2, h⟩ := bnd1_s h
  refine cl_X11_301 hx hb hml hown hts hK hN hW (c_X11_chart l D T A a_o (Z) x_o p1 x_o1 q2) ⟨Nat.le_of_ble_eq_true rfl, Nat.le_of_ble_eq_true rfl⟩ hl.1 rfl (Nat.le_of_ble_eq_true rfl) dX11_mendOf_2 ⟨Nat.zero_le _, Nat.zero_le _⟩ rfl (fun H locs hW => ?_)
  refine lv_aload_n hx hb dX11_mendOf_5 rfl (lv_at hl 0 rfl) ?_
  refine lv_iload_n hx hb dX11_mendOf_6 rfl (lv_at hl 1 rfl) ?_
  obtain ⟨x_o3, q4, h⟩ := bnd1_s h
  refine cl_X11_327 hx hb hml hown hts hK hN hW (c_X11_findFaults l D T A a_o (Z) x_o1 p1 x_o3 q4) ⟨Nat.le_of_ble_eq_true rfl, Nat.le_of_ble_eq_true rfl⟩ hl.1 rfl (Nat.le_of_ble_eq_true rfl) dX11_mendOf_7 ⟨Nat.zero_le _, Nat.zero_le _⟩ rfl (fun H locs hW => ?_)
  refine lv_iload_n hx hb dX11_mendOf_10 rfl (lv_at hl 2 rfl) ?_
  refine lv_aload_n hx hb dX11_mendOf_11 rfl (lv_at hl 0 rfl) ?_
  refine fg_X11_307 (v := .int (x_o3 43 0)) hx hb hts hown hK hW 0 rfl rfl dX11_mendOf_12 ?_
  refine lv_icmp_lt (tgt := 20) hx hb dX11_mendOf_15 (by decide) (fun c5 => ?_) (fun c5 => ?_)
  · have h := ite_t c5 h
    refine lv_aload_n hx hb dX11_mendOf_20 rfl (lv_at hl 0 rfl) ?_
    refine lv_iload_n hx hb dX11_mendOf_21 rfl (lv_at hl 1 rfl) ?_
    obtain ⟨r6, q7, h⟩ := bnd1_s h
    refine cl_X11_322 hx hb hml hown hts hK hN hW (c_X11_costNow l D T A a_o (Z) x_o3 p1 r6 q7) ⟨Nat.le_of_ble_eq_true rfl, Nat.le_of_ble_eq_true rfl⟩ hl.1 rfl (Nat.le_of_ble_eq_true rfl) dX11_mendOf_22 ⟨Nat.zero_le _, Nat.zero_le _⟩ rfl (fun H locs hW => ?_)
    refine lv_istore_n (lv' := [(3, .int r6), (0, .ref (a_o 0)), (1, .int p1), (2, .int p2)]) hx hb dX11_mendOf_25 rfl hl (by decide) rfl (fun ls hl => ?_)
    refine lv_aload_n hx hb dX11_mendOf_26 rfl (lv_at hl 1 rfl) ?_
    refine lv_iload_n hx hb dX11_mendOf_27 rfl (lv_at hl 2 rfl) ?_
    refine lv_iload_n hx hb dX11_mendOf_28 rfl (lv_at hl 3 rfl) ?_
    refine lv_iconst (v := 2) hx hb dX11_mendOf_29 (by decide) ?_
    obtain ⟨r8, x_o9, q10, h⟩ := bnd2_s h
    refine cl_X11_336 hx hb hml hown hts hK hN hW (c_X11_candidate l D T A a_o (Z) x_o3 p1 p2 2 r8 x_o9 q10) ⟨Nat.le_of_ble_eq_true rfl, Nat.le_of_ble_eq_true rfl⟩ hl.1 rfl (Nat.le_of_ble_eq_true rfl) dX11_mendOf_30 ⟨Nat.zero_le _, Nat.zero_le _⟩ rfl (fun H locs hW => ?_)
    refine lv_istore (lv' := [(4, .int r8), (3, .int r6), (0, .ref (a_o 0)), (1, .int p1), (2, .int p2)]) hx hb dX11_mendOf_33 hl (by decide) rfl (fun ls hl => ?_)
    refine lv_aload_n hx hb dX11_mendOf_35 rfl (lv_at hl 2 rfl) ?_
    refine lv_iload_n hx hb dX11_mendOf_36 rfl (lv_at hl 3 rfl) ?_
    refine lv_iload_n hx hb dX11_mendOf_37 rfl (lv_at hl 4 rfl) ?_
    refine lv_iconst (v := 1) hx hb dX11_mendOf_38 (by decide) ?_
    obtain ⟨r11, x_o12, q13, h⟩ := bnd2_s h
    refine cl_X11_336 hx hb hml hown hts hK hN hW (c_X11_candidate l D T A a_o (Z) x_o9 p1 p2 1 r11 x_o12 q13) ⟨Nat.le_of_ble_eq_true rfl, Nat.le_of_ble_eq_true rfl⟩ hl.1 rfl (Nat.le_of_ble_eq_true rfl) dX11_mendOf_39 ⟨Nat.zero_le _, Nat.zero_le _⟩ rfl (fun H locs hW => ?_)
    refine lv_istore (lv' := [(5, .int r11), (4, .int r8), (3, .int r6), (0, .ref (a_o 0)), (1, .int p1), (2, .int p2)]) hx hb dX11_mendOf_42 hl (by decide) rfl (fun ls hl => ?_)
    refine lv_iload hx hb dX11_mendOf_44 (lv_at hl 1 rfl) ?_
    refine lv_iconst (v := (-1)) hx hb dX11_mendOf_46 (by decide) ?_
    refine lv_icmp_eq (tgt := 65) hx hb dX11_mendOf_47 (by decide) (fun c14 => ?_) (fun c14 => ?_)
    · have h := ite_t c14 h
      exact J65 _ _ _ _ H locs ls hW (lv_sub hl [3, 4, 2, 0] rfl) h
    · have h := ite_f c14 h
      refine lv_aload_n hx hb dX11_mendOf_50 rfl (lv_at hl 3 rfl) ?_
      refine lv_iload_n hx hb dX11_mendOf_51 rfl (lv_at hl 4 rfl) ?_
      refine lv_iload hx hb dX11_mendOf_52 (lv_at hl 1 rfl) ?_
      refine lv_iconst (v := (-1)) hx hb dX11_mendOf_54 (by decide) ?_
      obtain ⟨r20, x_o21, q22, h⟩ := bnd2_s h
      refine cl_X11_339 hx hb hml hown hts hK hN hW (c_X11_costWith l D T A a_o (Z) x_o12 p1 r8 (-1) r20 x_o21 q22) ⟨Nat.le_of_ble_eq_true rfl, Nat.le_of_ble_eq_true rfl⟩ hl.1 rfl (Nat.le_of_ble_eq_true rfl) dX11_mendOf_55 ⟨Nat.zero_le _, Nat.zero_le _⟩ rfl (fun H locs hW => ?_)
      refine lv_iload_n hx hb dX11_mendOf_58 rfl (lv_at hl 2 rfl) ?_
      refine lv_icmp_ge (tgt := 65) hx hb dX11_mendOf_59 (by decide) (fun c23 => ?_) (fun c23 => ?_)
      · have h := ite_t c23 h
        exact J65 _ _ _ _ H locs ls hW (lv_sub hl [3, 4, 2, 0] rfl) h
      · have h := ite_f c23 h
        refine lv_iload hx hb dX11_mendOf_62 (lv_at hl 1 rfl) ?_
        obtain ⟨rfl, rfl⟩ := ret2 h
        rw [hQ]
        exact g_reti hx hb hr hlk hW dX11_mendOf_64
  · have h := ite_f c5 h
    refine lv_iconst (v := (-1)) hx hb dX11_mendOf_18 (by decide) ?_
    obtain ⟨rfl, rfl⟩ := ret2 h
    rw [hQ]
    exact g_reti hx hb hr hlk hW dX11_mendOf_19
set_option maxHeartbeats 4000000 in
set_option maxRecDepth 100000 in
theorem c_X11_mend (l : Launch) (D : va_G) (T : Nat → ClassId) (A : Nat → Prop) (a_o : Nat → Nat) (Z : va_W)  (x_o : Ob) (p1 : Int32) (p2 : Int32) (r : Int32) (x_o9 : Ob) (h : f_X11_mend x_o p1 p2 = some (r, x_o9)) : Met l yX11_mend (Cond.code yX11_mend cX11_mend 3 (some .int) :: wsL_law) (rmd 8) (Pg D T A (oc_X11 T a_o x_o ++ Z) [.ref (a_o 0), .int p1, .int p2]) (Qgi D A (oc_X11 T a_o x_o9 ++ Z) r) 0 0 A := by
  refine Met.ofW (cc := cX11_mend) (maxL := 3) (ret := (some .int)) (by decide +kernel) rfl ?_
  intro p e s m args below meth c s₁ B hml hv
  obtain ⟨ha, hP, hK, hD, hN⟩ := hv
  have hx := B.exec
  have hb := B.bytes
  have hr := B.returns
  have hlk := B.notSynchronized
  have hts : ∀ w ∈ wsL_law, w.before args s = true := fun w hw => atoms_spec B.pre w (List.mem_cons_of_mem _ hw)
  have hown : s.vm.findClass RX11 = some m.cls := findClass_of_methodNamed B.named
  have hW : Wd D A s.heap (oc_X11 T a_o x_o ++ Z) s.heap [] := ⟨hP, hD, va_S.rf⟩
  have hl := lv_entry [.ref (a_o 0), .int p1, .int p2] (n := 3) (Nat.le_of_ble_eq_true rfl)
  refine W.eq (en_eq ha) ?_
  generalize (lg_sl [.ref (a_o 0), .int p1, .int p2] ++ List.replicate (3 - (lg_sl [.ref (a_o 0), .int p1, .int p2]).length) Slot.unset).toArray = ls at hl ⊢
  have hl : lv_has ls 3 [(0, .ref (a_o 0)), (1, .int p1), (2, .int p2)] := hl
  clear hP hD B ha
  obtain ⟨Q, hQ⟩ : ∃ Q, Q = MQ below (Qgi D A (oc_X11 T a_o x_o9 ++ Z) r) args s 0 0 A := ⟨_, rfl⟩
  rw [← hQ]
  change W p l e (rmd 8) s m args below meth c s.heap [] 0 0 Q (F0 m 0 ls [])
  rw [f_X11_mend] at h
  suffices hm : ∀ (H : Heap) (locs : List Loc), Wd D A s.heap (oc_X11 T a_o x_o ++ Z) H locs → W p l e (rmd 8) s m args below meth c H locs 0 0 Q (F0 m 0 ls []) from hm _ _ hW
  intro H locs hW
  refine lv_aload_n hx hb dX11_mend_0 rfl (lv_at hl 0 rfl) ?_
  refine lv_iload_n hx hb dX11_mend_1 rfl (lv_at hl 1 rfl) ?_
  obtain ⟨r1, q2, h⟩ := bnd1_s h
  refine cl_X11_194 hx hb hml hown hts hK hN hW (c_X11_isSentence l D T A (oc_X11 T a_o x_o ++ Z) p1 r1 q2) ⟨Nat.le_of_ble_eq_true rfl, Nat.le_of_ble_eq_true rfl⟩ hl.1 rfl (Nat.le_of_ble_eq_true rfl) dX11_mend_2 ⟨Nat.zero_le _, Nat.zero_le _⟩ rfl (fun H locs hW => ?_)
  obtain ⟨r3, x_o4, q5, h⟩ := bnd2_s h
  refine cl_X11_222 hx hb hml hown hts hK hN hW (c_X11_may l D T A a_o (Z) x_o r1 r3 x_o4 q5) ⟨Nat.le_of_ble_eq_true rfl, Nat.le_of_ble_eq_true rfl⟩ hl.1 rfl (Nat.le_of_ble_eq_true rfl) dX11_mend_5 ⟨Nat.zero_le _, Nat.zero_le _⟩ rfl (fun H locs hW => ?_)
  refine lv_if_ne (tgt := 13) hx hb dX11_mend_8 (by decide) (fun c6 => ?_) (fun c6 => ?_)
  · have h := ite_f c6 h
    refine lv_aload_n hx hb dX11_mend_13 rfl (lv_at hl 0 rfl) ?_
    refine lv_iload_n hx hb dX11_mend_14 rfl (lv_at hl 1 rfl) ?_
    obtain ⟨x_o7, q8, h⟩ := bnd1_s h
    refine cl_X11_317 hx hb hml hown hts hK hN hW (c_X11_need l D T A a_o (Z) x_o4 p1 x_o7 q8) ⟨Nat.le_of_ble_eq_true rfl, Nat.le_of_ble_eq_true rfl⟩ hl.1 rfl (Nat.le_of_ble_eq_true rfl) dX11_mend_15 ⟨Nat.zero_le _, Nat.zero_le _⟩ rfl (fun H locs hW => ?_)
    refine lv_aload_n hx hb dX11_mend_18 rfl (lv_at hl 0 rfl) ?_
    refine lv_iload_n hx hb dX11_mend_19 rfl (lv_at hl 1 rfl) ?_
    obtain ⟨x_o9, q10, h⟩ := bnd1_s h
    refine cl_X11_327 hx hb hml hown hts hK hN hW (c_X11_findFaults l D T A a_o (Z) x_o7 p1 x_o9 q10) ⟨Nat.le_of_ble_eq_true rfl, Nat.le_of_ble_eq_true rfl⟩ hl.1 rfl (Nat.le_of_ble_eq_true rfl) dX11_mend_20 ⟨Nat.zero_le _, Nat.zero_le _⟩ rfl (fun H locs hW => ?_)
    refine lv_aload_n hx hb dX11_mend_23 rfl (lv_at hl 0 rfl) ?_
    refine lv_iload_n hx hb dX11_mend_24 rfl (lv_at hl 2 rfl) ?_
    refine lv_iconst (v := 0) hx hb dX11_mend_25 (by decide) ?_
    refine lv_aload_n hx hb dX11_mend_26 rfl (lv_at hl 0 rfl) ?_
    refine fg_X11_307 (v := .int (x_o9 43 0)) hx hb hts hown hK hW 0 rfl rfl dX11_mend_27 ?_
    refine lv_iconst (v := 1) hx hb dX11_mend_30 (by decide) ?_
    refine lv_isub hx hb dX11_mend_31 ?_
    obtain ⟨r11, q12, h⟩ := bnd1_s h
    refine cl_X11_187 hx hb hml hown hts hK hN hW (c_X11_isIn l D T A (oc_X11 T a_o x_o9 ++ Z) p2 0 ((x_o9 43 0) - 1) r11 q12) ⟨Nat.le_of_ble_eq_true rfl, Nat.le_of_ble_eq_true rfl⟩ hl.1 rfl (Nat.le_of_ble_eq_true rfl) dX11_mend_32 ⟨Nat.zero_le _, Nat.zero_le _⟩ rfl (fun H locs hW => ?_)
    obtain ⟨r13, x_o14, q15, h⟩ := bnd2_s h
    refine cl_X11_222 hx hb hml hown hts hK hN hW (c_X11_may l D T A a_o (Z) x_o9 r11 r13 x_o14 q15) ⟨Nat.le_of_ble_eq_true rfl, Nat.le_of_ble_eq_true rfl⟩ hl.1 rfl (Nat.le_of_ble_eq_true rfl) dX11_mend_35 ⟨Nat.zero_le _, Nat.zero_le _⟩ rfl (fun H locs hW => ?_)
    refine lv_if_eq (tgt := 50) hx hb dX11_mend_38 (by decide) (fun c16 => ?_) (fun c16 => ?_)
    · have h := ite_t c16 h
      refine lv_iconst (v := 0) hx hb dX11_mend_50 (by decide) ?_
      obtain ⟨rfl, rfl⟩ := ret2 h
      rw [hQ]
      exact g_reti hx hb hr hlk hW dX11_mend_51
    · have h := ite_f c16 h
      refine lv_aload_n hx hb dX11_mend_41 rfl (lv_at hl 0 rfl) ?_
      refine lv_iload_n hx hb dX11_mend_42 rfl (lv_at hl 1 rfl) ?_
      refine lv_iload_n hx hb dX11_mend_43 rfl (lv_at hl 2 rfl) ?_
      obtain ⟨r17, x_o18, q19, h⟩ := bnd2_s h
      refine cl_X11_342 hx hb hml hown hts hK hN hW (c_X11_mendOf l D T A a_o (Z) x_o14 p1 p2 r17 x_o18 q19) ⟨Nat.le_of_ble_eq_true rfl, Nat.le_of_ble_eq_true rfl⟩ hl.1 rfl (Nat.le_of_ble_eq_true rfl) dX11_mend_44 ⟨Nat.zero_le _, Nat.zero_le _⟩ rfl (fun H locs hW => ?_)
      refine lv_goto (tgt := 51) hx hb dX11_mend_47 (by decide) ?_
      obtain ⟨rfl, rfl⟩ := ret2 h
      rw [hQ]
      exact g_reti hx hb hr hlk hW dX11_mend_51
  · have h := ite_t c6 h
    refine lv_iconst (v := 0) hx hb dX11_mend_11 (by decide) ?_
    obtain ⟨rfl, rfl⟩ := ret2 h
    rw [hQ]
    exact g_reti hx hb hr hlk hW dX11_mend_12
set_option maxHeartbeats 4000000 in
set_option maxRecDepth 100000 in
theorem c_X11_bestOf (l : Launch) (D : va_G) (T : Nat → ClassId) (A : Nat → Prop) (a_o : Nat → Nat) (Z : va_W)  (x_o : Ob) (p1 : Int32) (r : Int32) (x_o9 : Ob) (h : f_X11_bestOf x_o p1 = some (r, x_o9)) : Met l yX11_bestOf (Cond.code yX11_bestOf cX11_bestOf 9 (some .int) :: wsL_law) (rmd 8) (Pg D T A (oc_X11 T a_o x_o ++ Z) [.ref (a_o 0), .int p1]) (Qgi D A (oc_X11 T a_o x_o9 ++ Z) r) 0 0 A := by
  refine Met.ofW (cc := cX11_bestOf) (maxL := 9) (ret := (some .int)) (by decide +kernel) rfl ?_
  intro p e s m args below meth c s₁ B hml hv
  obtain ⟨ha, hP, hK, hD, hN⟩ := hv
  have hx := B.exec
  have hb := B.bytes
  have hr := B.returns
  have hlk := B.notSynchronized
  have hts : ∀ w ∈ wsL_law, w.before args s = true := fun w hw => atoms_spec B.pre w (List.mem_cons_of_mem _ hw)
  have hown : s.vm.findClass RX11 = some m.cls := findClass_of_methodNamed B.named
  have hW : Wd D A s.heap (oc_X11 T a_o x_o ++ Z) s.heap [] := ⟨hP, hD, va_S.rf⟩
  have hl := lv_entry [.ref (a_o 0), .int p1] (n := 9) (Nat.le_of_ble_eq_true rfl)
  refine W.eq (en_eq ha) ?_
  generalize (lg_sl [.ref (a_o 0), .int p1] ++ List.replicate (9 - (lg_sl [.ref (a_o 0), .int p1]).length) Slot.unset).toArray = ls at hl ⊢
  have hl : lv_has ls 9 [(0, .ref (a_o 0)), (1, .int p1)] := hl
  clear hP hD B ha
  obtain ⟨Q, hQ⟩ : ∃ Q, Q = MQ below (Qgi D A (oc_X11 T a_o x_o9 ++ Z) r) args s 0 0 A := ⟨_, rfl⟩
  rw [← hQ]
  change W p l e (rmd 8) s m args below meth c s.heap [] 0 0 Q (F0 m 0 ls [])
  have J102 : ∀ (x_o_102 : Ob) (v1_102 : Int32) (v2_102 : Int32) (v3_102 : Int32) (v4_102 : Int32) (v5_102 : Int32) (v6_102 : Int32) (s1_102 : Int32) (s2_102 : Int32) (H : Heap) (locs : List Loc) (ls : Array Slot) (code : Nat) (o4j : Int32) (o5j : Int32) (o6j : Int32) (y_oj : Ob), Wd D A s.heap (oc_X11 T a_o x_o_102 ++ Z) H locs → lv_has ls 9 [(0, .ref (a_o 0)), (1, .int v1_102), (2, .int v2_102), (3, .int v3_102), (4, .int v4_102), (5, .int v5_102), (6, .int v6_102)] → f_X11_bestOf_J102 x_o_102 v1_102 v2_102 v3_102 v4_102 v5_102 v6_102 s1_102 s2_102 = some (code, o4j, o5j, o6j, y_oj) → (code = 0 → ∀ (H : Heap) (locs : List Loc) (ls : Array Slot), Wd D A s.heap (oc_X11 T a_o y_oj ++ Z) H locs → lv_has ls 9 [(0, .ref (a_o 0)), (1, .int v1_102), (2, .int v2_102), (3, .int v3_102), (4, .int o4j), (5, .int o5j), (6, .int o6j)] → W p l e (rmd 8) s m args below meth c H locs 0 0 Q (F0 m 29 ls [])) → (code = 1 → ∀ (H : Heap) (locs : List Loc) (ls : Array Slot), Wd D A s.heap (oc_X11 T a_o y_oj ++ Z) H locs → lv_has ls 9 [(4, .int o4j)] → W p l e (rmd 8) s m args below meth c H locs 0 0 Q (F0 m 144 ls [])) → W p l e (rmd 8) s m args below meth c H locs 0 0 Q (F0 m 102 ls [.int s2_102, .int s1_102, .ref (a_o 0)]) := by
    intro x_o_102 v1_102 v2_102 v3_102 v4_102 v5_102 v6_102 s1_102 s2_102 H locs ls code o4j o5j o6j y_oj hW hl h k0 k1
    rw [f_X11_bestOf_J102] at h
    refine lv_iload hx hb dX11_bestOf_102 (lv_at hl 6 rfl) ?_
    refine lv_iconst (v := 1) hx hb dX11_bestOf_104 (by decide) ?_
    refine lv_icmp_le (tgt := 112) hx hb dX11_bestOf_105 (by decide) (fun c19 => ?_) (fun c19 => ?_)
    · have h := ite_t c19 h
      refine lv_iconst (v := (-1)) hx hb dX11_bestOf_112 (by decide) ?_
      obtain ⟨r20, x_o21, q22, h⟩ := bnd2_s h
      refine cl_X11_339 hx hb hml hown hts hK hN hW (c_X11_costWith l D T A a_o (Z) x_o_102 s1_102 s2_102 (-1) r20 x_o21 q22) ⟨Nat.le_of_ble_eq_true rfl, Nat.le_of_ble_eq_true rfl⟩ hl.1 rfl (Nat.le_of_ble_eq_true rfl) dX11_bestOf_113 ⟨Nat.zero_le _, Nat.zero_le _⟩ rfl (fun H locs hW => ?_)
      refine lv_goto (tgt := 121) hx hb dX11_bestOf_116 (by decide) ?_
      refine lv_istore (lv' := [(8, .int r20), (0, .ref (a_o 0)), (1, .int v1_102), (2, .int v2_102), (3, .int v3_102), (4, .int v4_102), (5, .int v5_102), (6, .int v6_102)]) hx hb dX11_bestOf_121 hl (by decide) rfl (fun ls hl => ?_)
      refine lv_iload hx hb dX11_bestOf_123 (lv_at hl 0 rfl) ?_
      refine lv_iload hx hb dX11_bestOf_125 (lv_at hl 6 rfl) ?_
      refine lv_icmp_ge (tgt := 138) hx hb dX11_bestOf_127 (by decide) (fun c23 => ?_) (fun c23 => ?_)
      · have h := ite_t c23 h
        obtain ⟨w6_24, ew6_24⟩ : ∃ y : Int32, y = v6_102 + 1 := ⟨_, rfl⟩
        have h := lb_at ew6_24 h
        refine lv_iinc (v := w6_24) (lv' := [(6, .int w6_24), (8, .int r20), (0, .ref (a_o 0)), (1, .int v1_102), (2, .int v2_102), (3, .int v3_102), (4, .int v4_102), (5, .int v5_102)]) hx hb dX11_bestOf_138 hl (k := 7) rfl (by rw [ew6_24]; rfl) (by decide) rfl (fun ls hl => ?_)
        refine lv_goto (tgt := 29) hx hb dX11_bestOf_141 (by decide) ?_
        obtain ⟨rfl, rfl, rfl, rfl, rfl⟩ := ret5 h
        exact k0 rfl H locs ls hW (lv_sub hl [2, 3, 4, 5, 6, 7, 0] rfl)
      · have h := ite_f c23 h
        refine lv_iload hx hb dX11_bestOf_130 (lv_at hl 0 rfl) ?_
        refine lv_istore (lv' := [(5, .int r20), (8, .int r20), (0, .ref (a_o 0)), (1, .int v1_102), (2, .int v2_102), (3, .int v3_102), (4, .int v4_102), (6, .int v6_102)]) hx hb dX11_bestOf_132 hl (by decide) rfl (fun ls hl => ?_)
        refine lv_iload hx hb dX11_bestOf_134 (lv_at hl 7 rfl) ?_
        refine lv_istore (lv' := [(4, .int v6_102), (5, .int r20), (8, .int r20), (0, .ref (a_o 0)), (1, .int v1_102), (2, .int v2_102), (3, .int v3_102), (6, .int v6_102)]) hx hb dX11_bestOf_136 hl (by decide) rfl (fun ls hl => ?_)
        obtain ⟨w6_25, ew6_25⟩ : ∃ y : Int32, y = v6_102 + 1 := ⟨_, rfl⟩
        have h := lb_at ew6_25 h
        refine lv_iinc (v := w6_25) (lv' := [(6, .int w6_25), (4, .int v6_102), (5, .int r20), (8, .int r20), (0, .ref (a_o 0)), (1, .int v1_102), (2, .int v2_102), (3, .int v3_102)]) hx hb dX11_bestOf_138 hl (k := 7) rfl (by rw [ew6_25]; rfl) (by decide) rfl (fun ls hl => ?_)
        refine lv_goto (tgt := 29) hx hb dX11_bestOf_141 (by decide) ?_
        obtain ⟨rfl, rfl, rfl, rfl, rfl⟩ := ret5 h
        exact k0 rfl H locs ls hW (lv_sub hl [4, 5, 6, 7, 1, 2, 0] rfl)
    · have h := ite_f c19 h
      refine lv_iload_n hx hb dX11_bestOf_108 rfl (lv_at hl 3 rfl) ?_
      refine lv_goto (tgt := 113) hx hb dX11_bestOf_109 (by decide) ?_
      obtain ⟨r26, x_o27, q28, h⟩ := bnd2_s h
      refine cl_X11_339 hx hb hml hown hts hK hN hW (c_X11_costWith l D T A a_o (Z) x_o_102 s1_102 s2_102 v3_102 r26 x_o27 q28) ⟨Nat.le_of_ble_eq_true rfl, Nat.le_of_ble_eq_true rfl⟩ hl.1 rfl (Nat.le_of_ble_eq_true rfl) dX11_bestOf_113 ⟨Nat.zero_le _, Nat.zero_le _⟩ rfl (fun H locs hW => ?_)
      refine lv_goto (tgt := 121) hx hb dX11_bestOf_116 (by decide) ?_
      refine lv_istore (lv' := [(8, .int r26), (0, .ref (a_o 0)), (1, .int v1_102), (2, .int v2_102), (3, .int v3_102), (4, .int v4_102), (5, .int v5_102), (6, .int v6_102)]) hx hb dX11_bestOf_121 hl (by decide) rfl (fun ls hl => ?_)
      refine lv_iload hx hb dX11_bestOf_123 (lv_at hl 0 rfl) ?_
      refine lv_iload hx hb dX11_bestOf_125 (lv_at hl 6 rfl) ?_
      refine lv_icmp_ge (tgt := 138) hx hb dX11_bestOf_127 (by decide) (fun c29 => ?_) (fun c29 => ?_)
      · have h := ite_t c29 h
        obtain ⟨w6_30, ew6_30⟩ : ∃ y : Int32, y = v6_102 + 1 := ⟨_, rfl⟩
        have h := lb_at ew6_30 h
        refine lv_iinc (v := w6_30) (lv' := [(6, .int w6_30), (8, .int r26), (0, .ref (a_o 0)), (1, .int v1_102), (2, .int v2_102), (3, .int v3_102), (4, .int v4_102), (5, .int v5_102)]) hx hb dX11_bestOf_138 hl (k := 7) rfl (by rw [ew6_30]; rfl) (by decide) rfl (fun ls hl => ?_)
        refine lv_goto (tgt := 29) hx hb dX11_bestOf_141 (by decide) ?_
        obtain ⟨rfl, rfl, rfl, rfl, rfl⟩ := ret5 h
        exact k0 rfl H locs ls hW (lv_sub hl [2, 3, 4, 5, 6, 7, 0] rfl)
      · have h := ite_f c29 h
        refine lv_iload hx hb dX11_bestOf_130 (lv_at hl 0 rfl) ?_
        refine lv_istore (lv' := [(5, .int r26), (8, .int r26), (0, .ref (a_o 0)), (1, .int v1_102), (2, .int v2_102), (3, .int v3_102), (4, .int v4_102), (6, .int v6_102)]) hx hb dX11_bestOf_132 hl (by decide) rfl (fun ls hl => ?_)
        refine lv_iload hx hb dX11_bestOf_134 (lv_at hl 7 rfl) ?_
        refine lv_istore (lv' := [(4, .int v6_102), (5, .int r26), (8, .int r26), (0, .ref (a_o 0)), (1, .int v1_102), (2, .int v2_102), (3, .int v3_102), (6, .int v6_102)]) hx hb dX11_bestOf_136 hl (by decide) rfl (fun ls hl => ?_)
        obtain ⟨w6_31, ew6_31⟩ : ∃ y : Int32, y = v6_102 + 1 := ⟨_, rfl⟩
        have h := lb_at ew6_31 h
        refine lv_iinc (v := w6_31) (lv' := [(6, .int w6_31), (4, .int v6_102), (5, .int r26), (8, .int r26), (0, .ref (a_o 0)), (1, .int v1_102), (2, .int v2_102), (3, .int v3_102)]) hx hb dX11_bestOf_138 hl (k := 7) rfl (by rw [ew6_31]; rfl) (by decide) rfl (fun ls hl => ?_)
        refine lv_goto (tgt := 29) hx hb dX11_bestOf_141 (by decide) ?_
        obtain ⟨rfl, rfl, rfl, rfl, rfl⟩ := ret5 h
        exact k0 rfl H locs ls hW (lv_sub hl [4, 5, 6, 7, 1, 2, 0] rfl)
  have J80 : ∀ (x_o_80 : Ob) (v1_80 : Int32) (v2_80 : Int32) (v3_80 : Int32) (v4_80 : Int32) (v5_80 : Int32) (v6_80 : Int32) (s0_80 : Int32) (H : Heap) (locs : List Loc) (ls : Array Slot) (code : Nat) (o4j : Int32) (o5j : Int32) (o6j : Int32) (y_oj : Ob), Wd D A s.heap (oc_X11 T a_o x_o_80 ++ Z) H locs → lv_has ls 9 [(0, .ref (a_o 0)), (1, .int v1_80), (2, .int v2_80), (3, .int v3_80), (4, .int v4_80), (5, .int v5_80), (6, .int v6_80)] → f_X11_bestOf_J80 x_o_80 v1_80 v2_80 v3_80 v4_80 v5_80 v6_80 s0_80 = some (code, o4j, o5j, o6j, y_oj) → (code = 0 → ∀ (H : Heap) (locs : List Loc) (ls : Array Slot), Wd D A s.heap (oc_X11 T a_o y_oj ++ Z) H locs → lv_has ls 9 [(0, .ref (a_o 0)), (1, .int v1_80), (2, .int v2_80), (3, .int v3_80), (4, .int o4j), (5, .int o5j), (6, .int o6j)] → W p l e (rmd 8) s m args below meth c H locs 0 0 Q (F0 m 29 ls [])) → (code = 1 → ∀ (H : Heap) (locs : List Loc) (ls : Array Slot), Wd D A s.heap (oc_X11 T a_o y_oj ++ Z) H locs → lv_has ls 9 [(4, .int o4j)] → W p l e (rmd 8) s m args below meth c H locs 0 0 Q (F0 m 144 ls [])) → W p l e (rmd 8) s m args below meth c H locs 0 0 Q (F0 m 80 ls [.int s0_80]) := by
    intro x_o_80 v1_80 v2_80 v3_80 v4_80 v5_80 v6_80 s0_80 H locs ls code o4j o5j o6j y_oj hW hl h k0 k1
    rw [f_X11_bestOf_J80] at h
    refine lv_istore (lv' := [(7, .int s0_80), (0, .ref (a_o 0)), (1, .int v1_80), (2, .int v2_80), (3, .int v3_80), (4, .int v4_80), (5, .int v5_80), (6, .int v6_80)]) hx hb dX11_bestOf_80 hl (by decide) rfl (fun ls hl => ?_)
    refine lv_iload hx hb dX11_bestOf_82 (lv_at hl 0 rfl) ?_
    refine lv_if_eq (tgt := 119) hx hb dX11_bestOf_84 (by decide) (fun c14 => ?_) (fun c14 => ?_)
    · have h := ite_t c14 h
      refine lv_iload hx hb dX11_bestOf_119 (lv_at hl 6 rfl) ?_
      refine lv_istore (lv' := [(8, .int v5_80), (7, .int s0_80), (0, .ref (a_o 0)), (1, .int v1_80), (2, .int v2_80), (3, .int v3_80), (4, .int v4_80), (5, .int v5_80), (6, .int v6_80)]) hx hb dX11_bestOf_121 hl (by decide) rfl (fun ls hl => ?_)
      refine lv_iload hx hb dX11_bestOf_123 (lv_at hl 0 rfl) ?_
      refine lv_iload hx hb dX11_bestOf_125 (lv_at hl 7 rfl) ?_
      refine lv_icmp_ge (tgt := 138) hx hb dX11_bestOf_127 (by decide) (fun c15 => ?_) (fun c15 => ?_)
      · have h := ite_t c15 h
        obtain ⟨w6_16, ew6_16⟩ : ∃ y : Int32, y = v6_80 + 1 := ⟨_, rfl⟩
        have h := lb_at ew6_16 h
        refine lv_iinc (v := w6_16) (lv' := [(6, .int w6_16), (8, .int v5_80), (7, .int s0_80), (0, .ref (a_o 0)), (1, .int v1_80), (2, .int v2_80), (3, .int v3_80), (4, .int v4_80), (5, .int v5_80)]) hx hb dX11_bestOf_138 hl (k := 8) rfl (by rw [ew6_16]; rfl) (by decide) rfl (fun ls hl => ?_)
        refine lv_goto (tgt := 29) hx hb dX11_bestOf_141 (by decide) ?_
        obtain ⟨rfl, rfl, rfl, rfl, rfl⟩ := ret5 h
        exact k0 rfl H locs ls hW (lv_sub hl [3, 4, 5, 6, 7, 8, 0] rfl)
      · have h := ite_f c15 h
        refine lv_iload hx hb dX11_bestOf_130 (lv_at hl 0 rfl) ?_
        refine lv_istore (lv' := [(5, .int v5_80), (8, .int v5_80), (7, .int s0_80), (0, .ref (a_o 0)), (1, .int v1_80), (2, .int v2_80), (3, .int v3_80), (4, .int v4_80), (6, .int v6_80)]) hx hb dX11_bestOf_132 hl (by decide) rfl (fun ls hl => ?_)
        refine lv_iload hx hb dX11_bestOf_134 (lv_at hl 8 rfl) ?_
        refine lv_istore (lv' := [(4, .int v6_80), (5, .int v5_80), (8, .int v5_80), (7, .int s0_80), (0, .ref (a_o 0)), (1, .int v1_80), (2, .int v2_80), (3, .int v3_80), (6, .int v6_80)]) hx hb dX11_bestOf_136 hl (by decide) rfl (fun ls hl => ?_)
        obtain ⟨w6_17, ew6_17⟩ : ∃ y : Int32, y = v6_80 + 1 := ⟨_, rfl⟩
        have h := lb_at ew6_17 h
        refine lv_iinc (v := w6_17) (lv' := [(6, .int w6_17), (4, .int v6_80), (5, .int v5_80), (8, .int v5_80), (7, .int s0_80), (0, .ref (a_o 0)), (1, .int v1_80), (2, .int v2_80), (3, .int v3_80)]) hx hb dX11_bestOf_138 hl (k := 8) rfl (by rw [ew6_17]; rfl) (by decide) rfl (fun ls hl => ?_)
        refine lv_goto (tgt := 29) hx hb dX11_bestOf_141 (by decide) ?_
        obtain ⟨rfl, rfl, rfl, rfl, rfl⟩ := ret5 h
        exact k0 rfl H locs ls hW (lv_sub hl [5, 6, 7, 8, 1, 2, 0] rfl)
    · have h := ite_f c14 h
      refine lv_aload_n hx hb dX11_bestOf_87 rfl (lv_at hl 1 rfl) ?_
      refine lv_iload_n hx hb dX11_bestOf_88 rfl (lv_at hl 2 rfl) ?_
      refine lv_iload hx hb dX11_bestOf_89 (lv_at hl 7 rfl) ?_
      refine lv_iconst (v := 1) hx hb dX11_bestOf_91 (by decide) ?_
      refine lv_iand hx hb dX11_bestOf_92 ?_
      refine lv_iconst (v := 1) hx hb dX11_bestOf_93 (by decide) ?_
      refine lv_icmp_ne (tgt := 101) hx hb dX11_bestOf_94 (by decide) (fun c18 => ?_) (fun c18 => ?_)
      · have h := ite_f c18 h
        refine lv_iconst (v := (-1)) hx hb dX11_bestOf_101 (by decide) ?_
        exact J102 _ _ _ _ _ _ _ _ _ H locs ls _ _ _ _ _ hW (lv_sub hl [1, 2, 3, 4, 5, 6, 7] rfl) h k0 k1
      · have h := ite_t c18 h
        refine lv_iload_n hx hb dX11_bestOf_97 rfl (lv_at hl 3 rfl) ?_
        refine lv_goto (tgt := 102) hx hb dX11_bestOf_98 (by decide) ?_
        exact J102 _ _ _ _ _ _ _ _ _ H locs ls _ _ _ _ _ hW (lv_sub hl [1, 2, 3, 4, 5, 6, 7] rfl) h k0 k1
  have J75 : ∀ (x_o_75 : Ob) (v1_75 : Int32) (v2_75 : Int32) (v3_75 : Int32) (v4_75 : Int32) (v5_75 : Int32) (v6_75 : Int32) (H : Heap) (locs : List Loc) (ls : Array Slot) (code : Nat) (o4j : Int32) (o5j : Int32) (o6j : Int32) (y_oj : Ob), Wd D A s.heap (oc_X11 T a_o x_o_75 ++ Z) H locs → lv_has ls 9 [(0, .ref (a_o 0)), (1, .int v1_75), (2, .int v2_75), (3, .int v3_75), (4, .int v4_75), (5, .int v5_75), (6, .int v6_75)] → f_X11_bestOf_J75 x_o_75 v1_75 v2_75 v3_75 v4_75 v5_75 v6_75 = some (code, o4j, o5j, o6j, y_oj) → (code = 0 → ∀ (H : Heap) (locs : List Loc) (ls : Array Slot), Wd D A s.heap (oc_X11 T a_o y_oj ++ Z) H locs → lv_has ls 9 [(0, .ref (a_o 0)), (1, .int v1_75), (2, .int v2_75), (3, .int v3_75), (4, .int o4j), (5, .int o5j), (6, .int o6j)] → W p l e (rmd 8) s m args below meth c H locs 0 0 Q (F0 m 29 ls [])) → (code = 1 → ∀ (H : Heap) (locs : List Loc) (ls : Array Slot), Wd D A s.heap (oc_X11 T a_o y_oj ++ Z) H locs → lv_has ls 9 [(4, .int o4j)] → W p l e (rmd 8) s m args below meth c H locs 0 0 Q (F0 m 144 ls [])) → W p l e (rmd 8) s m args below meth c H locs 0 0 Q (F0 m 75 ls []) := by
    intro x_o_75 v1_75 v2_75 v3_75 v4_75 v5_75 v6_75 H locs ls code o4j o5j o6j y_oj hW hl h k0 k1
    rw [f_X11_bestOf_J75] at h
    refine lv_iconst (v := 1) hx hb dX11_bestOf_75 (by decide) ?_
    refine lv_goto (tgt := 80) hx hb dX11_bestOf_76 (by decide) ?_
    exact J80 _ _ _ _ _ _ _ _ H locs ls _ _ _ _ _ hW (lv_sub hl [0, 1, 2, 3, 4, 5, 6] rfl) h k0 k1
  have J79 : ∀ (x_o_79 : Ob) (v1_79 : Int32) (v2_79 : Int32) (v3_79 : Int32) (v4_79 : Int32) (v5_79 : Int32) (v6_79 : Int32) (H : Heap) (locs : List Loc) (ls : Array Slot) (code : Nat) (o4j : Int32) (o5j : Int32) (o6j : Int32) (y_oj : Ob), Wd D A s.heap (oc_X11 T a_o x_o_79 ++ Z) H locs → lv_has ls 9 [(0, .ref (a_o 0)), (1, .int v1_79), (2, .int v2_79), (3, .int v3_79), (4, .int v4_79), (5, .int v5_79), (6, .int v6_79)] → f_X11_bestOf_J79 x_o_79 v1_79 v2_79 v3_79 v4_79 v5_79 v6_79 = some (code, o4j, o5j, o6j, y_oj) → (code = 0 → ∀ (H : Heap) (locs : List Loc) (ls : Array Slot), Wd D A s.heap (oc_X11 T a_o y_oj ++ Z) H locs → lv_has ls 9 [(0, .ref (a_o 0)), (1, .int v1_79), (2, .int v2_79), (3, .int v3_79), (4, .int o4j), (5, .int o5j), (6, .int o6j)] → W p l e (rmd 8) s m args below meth c H locs 0 0 Q (F0 m 29 ls [])) → (code = 1 → ∀ (H : Heap) (locs : List Loc) (ls : Array Slot), Wd D A s.heap (oc_X11 T a_o y_oj ++ Z) H locs → lv_has ls 9 [(4, .int o4j)] → W p l e (rmd 8) s m args below meth c H locs 0 0 Q (F0 m 144 ls [])) → W p l e (rmd 8) s m args below meth c H locs 0 0 Q (F0 m 79 ls []) := by
    intro x_o_79 v1_79 v2_79 v3_79 v4_79 v5_79 v6_79 H locs ls code o4j o5j o6j y_oj hW hl h k0 k1
    rw [f_X11_bestOf_J79] at h
    refine lv_iconst (v := 0) hx hb dX11_bestOf_79 (by decide) ?_
    exact J80 _ _ _ _ _ _ _ _ H locs ls _ _ _ _ _ hW (lv_sub hl [0, 1, 2, 3, 4, 5, 6] rfl) h k0 k1
  have J58 : ∀ (x_o_58 : Ob) (v1_58 : Int32) (v2_58 : Int32) (v3_58 : Int32) (v4_58 : Int32) (v5_58 : Int32) (v6_58 : Int32) (H : Heap) (locs : List Loc) (ls : Array Slot) (code : Nat) (o4j : Int32) (o5j : Int32) (o6j : Int32) (y_oj : Ob), Wd D A s.heap (oc_X11 T a_o x_o_58 ++ Z) H locs → lv_has ls 9 [(0, .ref (a_o 0)), (1, .int v1_58), (2, .int v2_58), (3, .int v3_58), (4, .int v4_58), (5, .int v5_58), (6, .int v6_58)] → f_X11_bestOf_J58 x_o_58 v1_58 v2_58 v3_58 v4_58 v5_58 v6_58 = some (code, o4j, o5j, o6j, y_oj) → (code = 0 → ∀ (H : Heap) (locs : List Loc) (ls : Array Slot), Wd D A s.heap (oc_X11 T a_o y_oj ++ Z) H locs → lv_has ls 9 [(0, .ref (a_o 0)), (1, .int v1_58), (2, .int v2_58), (3, .int v3_58), (4, .int o4j), (5, .int o5j), (6, .int o6j)] → W p l e (rmd 8) s m args below meth c H locs 0 0 Q (F0 m 29 ls [])) → (code = 1 → ∀ (H : Heap) (locs : List Loc) (ls : Array Slot), Wd D A s.heap (oc_X11 T a_o y_oj ++ Z) H locs → lv_has ls 9 [(4, .int o4j)] → W p l e (rmd 8) s m args below meth c H locs 0 0 Q (F0 m 144 ls [])) → W p l e (rmd 8) s m args below meth c H locs 0 0 Q (F0 m 58 ls []) := by
    intro x_o_58 v1_58 v2_58 v3_58 v4_58 v5_58 v6_58 H locs ls code o4j o5j o6j y_oj hW hl h k0 k1
    rw [f_X11_bestOf_J58] at h
    refine lv_iload hx hb dX11_bestOf_58 (lv_at hl 6 rfl) ?_
    refine lv_iconst (v := 3) hx hb dX11_bestOf_60 (by decide) ?_
    refine lv_icmp_lt (tgt := 75) hx hb dX11_bestOf_61 (by decide) (fun c13 => ?_) (fun c13 => ?_)
    · have h := ite_t c13 h
      exact J75 _ _ _ _ _ _ _ H locs ls _ _ _ _ _ hW (lv_sub hl [0, 1, 2, 3, 4, 5, 6] rfl) h k0 k1
    · have h := ite_f c13 h
      refine lv_iload_n hx hb dX11_bestOf_64 rfl (lv_at hl 2 rfl) ?_
      refine lv_bipush (v := 100) hx hb dX11_bestOf_65 (by decide) ?_
      refine lv_idiv hx hb dX11_bestOf_67 (by decide) ?_
      refine lv_iload_n hx hb dX11_bestOf_68 rfl (lv_at hl 3 rfl) ?_
      refine lv_bipush (v := 100) hx hb dX11_bestOf_69 (by decide) ?_
      refine lv_idiv hx hb dX11_bestOf_71 (by decide) ?_
      refine lv_icmp_eq (tgt := 79) hx hb dX11_bestOf_72 (by decide) (fun c32 => ?_) (fun c32 => ?_)
      · have h := ite_t c32 h
        exact J79 _ _ _ _ _ _ _ H locs ls _ _ _ _ _ hW (lv_sub hl [0, 1, 2, 3, 4, 5, 6] rfl) h k0 k1
      · have h := ite_f c32 h
        exact J75 _ _ _ _ _ _ _ H locs ls _ _ _ _ _ hW (lv_sub hl [0, 1, 2, 3, 4, 5, 6] rfl) h k0 k1
  have J47 : ∀ (x_o_47 : Ob) (v1_47 : Int32) (v2_47 : Int32) (v3_47 : Int32) (v4_47 : Int32) (v5_47 : Int32) (v6_47 : Int32) (H : Heap) (locs : List Loc) (ls : Array Slot) (code : Nat) (o4j : Int32) (o5j : Int32) (o6j : Int32) (y_oj : Ob), Wd D A s.heap (oc_X11 T a_o x_o_47 ++ Z) H locs → lv_has ls 9 [(0, .ref (a_o 0)), (1, .int v1_47), (2, .int v2_47), (3, .int v3_47), (4, .int v4_47), (5, .int v5_47), (6, .int v6_47)] → f_X11_bestOf_J47 x_o_47 v1_47 v2_47 v3_47 v4_47 v5_47 v6_47 = some (code, o4j, o5j, o6j, y_oj) → (code = 0 → ∀ (H : Heap) (locs : List Loc) (ls : Array Slot), Wd D A s.heap (oc_X11 T a_o y_oj ++ Z) H locs → lv_has ls 9 [(0, .ref (a_o 0)), (1, .int v1_47), (2, .int v2_47), (3, .int v3_47), (4, .int o4j), (5, .int o5j), (6, .int o6j)] → W p l e (rmd 8) s m args below meth c H locs 0 0 Q (F0 m 29 ls [])) → (code = 1 → ∀ (H : Heap) (locs : List Loc) (ls : Array Slot), Wd D A s.heap (oc_X11 T a_o y_oj ++ Z) H locs → lv_has ls 9 [(4, .int o4j)] → W p l e (rmd 8) s m args below meth c H locs 0 0 Q (F0 m 144 ls [])) → W p l e (rmd 8) s m args below meth c H locs 0 0 Q (F0 m 47 ls []) := by
    intro x_o_47 v1_47 v2_47 v3_47 v4_47 v5_47 v6_47 H locs ls code o4j o5j o6j y_oj hW hl h k0 k1
    rw [f_X11_bestOf_J47] at h
    refine lv_iload hx hb dX11_bestOf_47 (lv_at hl 6 rfl) ?_
    refine lv_iconst (v := 2) hx hb dX11_bestOf_49 (by decide) ?_
    refine lv_icmp_lt (tgt := 58) hx hb dX11_bestOf_50 (by decide) (fun c12 => ?_) (fun c12 => ?_)
    · have h := ite_t c12 h
      exact J58 _ _ _ _ _ _ _ H locs ls _ _ _ _ _ hW (lv_sub hl [0, 1, 2, 3, 4, 5, 6] rfl) h k0 k1
    · have h := ite_f c12 h
      refine lv_iload_n hx hb dX11_bestOf_53 rfl (lv_at hl 3 rfl) ?_
      refine lv_iconst (v := (-1)) hx hb dX11_bestOf_54 (by decide) ?_
      refine lv_icmp_eq (tgt := 79) hx hb dX11_bestOf_55 (by decide) (fun c33 => ?_) (fun c33 => ?_)
      · have h := ite_t c33 h
        exact J79 _ _ _ _ _ _ _ H locs ls _ _ _ _ _ hW (lv_sub hl [0, 1, 2, 3, 4, 5, 6] rfl) h k0 k1
      · have h := ite_f c33 h
        exact J58 _ _ _ _ _ _ _ H locs ls _ _ _ _ _ hW (lv_sub hl [0, 1, 2, 3, 4, 5, 6] rfl) h k0 k1
  have L29 : ∀ (n : Nat) (x_o_29 : Ob) (v1_29 : Int32) (v2_29 : Int32) (v3_29 : Int32) (v4_29 : Int32) (v5_29 : Int32) (v6_29 : Int32) (H : Heap) (locs : List Loc) (ls : Array Slot) (o4_29r : Int32) (o5_29r : Int32) (o6_29r : Int32) (y_o_29r : Ob), Wd D A s.heap (oc_X11 T a_o x_o_29 ++ Z) H locs → lv_has ls 9 [(0, .ref (a_o 0)), (1, .int v1_29), (2, .int v2_29), (3, .int v3_29), (4, .int v4_29), (5, .int v5_29), (6, .int v6_29)] → f_X11_bestOf_L29 n x_o_29 v1_29 v2_29 v3_29 v4_29 v5_29 v6_29 = some (o4_29r, o5_29r, o6_29r, y_o_29r) → (∀ (H : Heap) (locs : List Loc) (ls : Array Slot), Wd D A s.heap (oc_X11 T a_o y_o_29r ++ Z) H locs → lv_has ls 9 [(4, .int o4_29r)] → W p l e (rmd 8) s m args below meth c H locs 0 0 Q (F0 m 144 ls [])) → W p l e (rmd 8) s m args below meth c H locs 0 0 Q (F0 m 29 ls []) := by
    intro n
    induction n with
    | zero =>
      intro x_o_29 v1_29 v2_29 v3_29 v4_29 v5_29 v6_29 H locs ls o4_29r o5_29r o6_29r y_o_29r hW hl h k1
      rw [f_X11_bestOf_L29] at h
      cases h
    | succ n ih =>
      intro x_o_29 v1_29 v2_29 v3_29 v4_29 v5_29 v6_29 H locs ls o4_29r o5_29r o6_29r y_o_29r hW hl h k1
      rw [f_X11_bestOf_L29] at h
      refine lv_iload hx hb dX11_bestOf_29 (lv_at hl 6 rfl) ?_
      refine lv_iconst (v := 4) hx hb dX11_bestOf_31 (by decide) ?_
      refine lv_icmp_ge (tgt := 144) hx hb dX11_bestOf_32 (by decide) (fun c10 => ?_) (fun c10 => ?_)
      · have h := ite_t c10 h
        obtain ⟨rfl, rfl, rfl, rfl⟩ := ret4 h
        exact k1 H locs ls hW (lv_sub hl [4] rfl)
      · have h := ite_f c10 h
        refine lv_iload hx hb dX11_bestOf_35 (lv_at hl 6 rfl) ?_
        refine lv_iconst (v := 1) hx hb dX11_bestOf_37 (by decide) ?_
        refine lv_iand hx hb dX11_bestOf_38 ?_
        refine lv_if_eq (tgt := 47) hx hb dX11_bestOf_39 (by decide) (fun c11 => ?_) (fun c11 => ?_)
        · have h := ite_t c11 h
          obtain ⟨code35, o4_t34, o5_t34, o6_t34, y_o_t34, q36, h⟩ := bnd5_s h
          refine J47 _ _ _ _ _ _ _ H locs ls code35 o4_t34 o5_t34 o6_t34 y_o_t34 hW (lv_sub hl [0, 1, 2, 3, 4, 5, 6] rfl) q36 (fun hc H locs ls hW hl => ?_) (fun hc H locs ls hW hl => ?_)
          · have h := ite_t hc h
            exact ih _ _ _ _ _ _ _ H locs ls _ _ _ _ hW (lv_sub hl [0, 1, 2, 3, 4, 5, 6] rfl) h k1
          · have h := ite_f (by rw [hc]; decide) h
            obtain ⟨rfl, rfl, rfl, rfl⟩ := ret4 h
            exact k1 H locs ls hW hl
        · have h := ite_f c11 h
          refine lv_iload_n hx hb dX11_bestOf_42 rfl (lv_at hl 2 rfl) ?_
          refine lv_iconst (v := (-1)) hx hb dX11_bestOf_43 (by decide) ?_
          refine lv_icmp_eq (tgt := 79) hx hb dX11_bestOf_44 (by decide) (fun c37 => ?_) (fun c37 => ?_)
          · have h := ite_t c37 h
            obtain ⟨code39, o4_t38, o5_t38, o6_t38, y_o_t38, q40, h⟩ := bnd5_s h
            refine J79 _ _ _ _ _ _ _ H locs ls code39 o4_t38 o5_t38 o6_t38 y_o_t38 hW (lv_sub hl [0, 1, 2, 3, 4, 5, 6] rfl) q40 (fun hc H locs ls hW hl => ?_) (fun hc H locs ls hW hl => ?_)
            · have h := ite_t hc h
              exact ih _ _ _ _ _ _ _ H locs ls _ _ _ _ hW (lv_sub hl [0, 1, 2, 3, 4, 5, 6] rfl) h k1
            · have h := ite_f (by rw [hc]; decide) h
              obtain ⟨rfl, rfl, rfl, rfl⟩ := ret4 h
              exact k1 H locs ls hW hl
          · have h := ite_f c37 h
            obtain ⟨code42, o4_t41, o5_t41, o6_t41, y_o_t41, q43, h⟩ := bnd5_s h
            refine J47 _ _ _ _ _ _ _ H locs ls code42 o4_t41 o5_t41 o6_t41 y_o_t41 hW (lv_sub hl [0, 1, 2, 3, 4, 5, 6] rfl) q43 (fun hc H locs ls hW hl => ?_) (fun hc H locs ls hW hl => ?_)
            · have h := ite_t hc h
              exact ih _ _ _ _ _ _ _ H locs ls _ _ _ _ hW (lv_sub hl [0, 1, 2, 3, 4, 5, 6] rfl) h k1
            · have h := ite_f (by rw [hc]; decide) h
              obtain ⟨rfl, rfl, rfl, rfl⟩ := ret4 h
              exact k1 H locs ls hW hl
  rw [f_X11_bestOf] at h
  suffices hm : ∀ (H : Heap) (locs : List Loc), Wd D A s.heap (oc_X11 T a_o x_o ++ Z) H locs → W p l e (rmd 8) s m args below meth c H locs 0 0 Q (F0 m 0 ls []) from hm _ _ hW
  intro H locs hW
  refine lv_aload_n hx hb dX11_bestOf_0 rfl (lv_at hl 0 rfl) ?_
  refine lv_iload_n hx hb dX11_bestOf_1 rfl (lv_at hl 1 rfl) ?_
  refine lv_iconst (v := 0) hx hb dX11_bestOf_2 (by decide) ?_
  obtain ⟨r1, x_o2, q3, h⟩ := bnd2_s h
  refine cl_X11_342 hx hb hml hown hts hK hN hW (c_X11_mendOf l D T A a_o (Z) x_o p1 0 r1 x_o2 q3) ⟨Nat.le_of_ble_eq_true rfl, Nat.le_of_ble_eq_true rfl⟩ hl.1 rfl (Nat.le_of_ble_eq_true rfl) dX11_bestOf_3 ⟨Nat.zero_le _, Nat.zero_le _⟩ rfl (fun H locs hW => ?_)
  refine lv_istore_n (lv' := [(2, .int r1), (0, .ref (a_o 0)), (1, .int p1)]) hx hb dX11_bestOf_6 rfl hl (by decide) rfl (fun ls hl => ?_)
  refine lv_aload_n hx hb dX11_bestOf_7 rfl (lv_at hl 1 rfl) ?_
  refine lv_iload_n hx hb dX11_bestOf_8 rfl (lv_at hl 2 rfl) ?_
  refine lv_iconst (v := 1) hx hb dX11_bestOf_9 (by decide) ?_
  obtain ⟨r4, x_o5, q6, h⟩ := bnd2_s h
  refine cl_X11_342 hx hb hml hown hts hK hN hW (c_X11_mendOf l D T A a_o (Z) x_o2 p1 1 r4 x_o5 q6) ⟨Nat.le_of_ble_eq_true rfl, Nat.le_of_ble_eq_true rfl⟩ hl.1 rfl (Nat.le_of_ble_eq_true rfl) dX11_bestOf_10 ⟨Nat.zero_le _, Nat.zero_le _⟩ rfl (fun H locs hW => ?_)
  refine lv_istore_n (lv' := [(3, .int r4), (2, .int r1), (0, .ref (a_o 0)), (1, .int p1)]) hx hb dX11_bestOf_13 rfl hl (by decide) rfl (fun ls hl => ?_)
  refine lv_iconst (v := 0) hx hb dX11_bestOf_14 (by decide) ?_
  refine lv_istore (lv' := [(4, .int 0), (3, .int r4), (2, .int r1), (0, .ref (a_o 0)), (1, .int p1)]) hx hb dX11_bestOf_15 hl (by decide) rfl (fun ls hl => ?_)
  refine lv_aload_n hx hb dX11_bestOf_17 rfl (lv_at hl 3 rfl) ?_
  refine lv_iload_n hx hb dX11_bestOf_18 rfl (lv_at hl 4 rfl) ?_
  refine lv_iconst (v := (-1)) hx hb dX11_bestOf_19 (by decide) ?_
  refine lv_iconst (v := (-1)) hx hb dX11_bestOf_20 (by decide) ?_
  obtain ⟨r7, x_o8, q9, h⟩ := bnd2_s h
  refine cl_X11_339 hx hb hml hown hts hK hN hW (c_X11_costWith l D T A a_o (Z) x_o5 p1 (-1) (-1) r7 x_o8 q9) ⟨Nat.le_of_ble_eq_true rfl, Nat.le_of_ble_eq_true rfl⟩ hl.1 rfl (Nat.le_of_ble_eq_true rfl) dX11_bestOf_21 ⟨Nat.zero_le _, Nat.zero_le _⟩ rfl (fun H locs hW => ?_)
  refine lv_istore (lv' := [(5, .int r7), (4, .int 0), (3, .int r4), (2, .int r1), (0, .ref (a_o 0)), (1, .int p1)]) hx hb dX11_bestOf_24 hl (by decide) rfl (fun ls hl => ?_)
  refine lv_iconst (v := 1) hx hb dX11_bestOf_26 (by decide) ?_
  refine lv_istore (lv' := [(6, .int 1), (5, .int r7), (4, .int 0), (3, .int r4), (2, .int r1), (0, .ref (a_o 0)), (1, .int p1)]) hx hb dX11_bestOf_27 hl (by decide) rfl (fun ls hl => ?_)
  obtain ⟨o4_u44, o5_u44, o6_u44, y_o_u44, q45, h⟩ := bnd4_s h
  refine L29 200 _ _ _ _ _ _ _ H locs ls o4_u44 o5_u44 o6_u44 y_o_u44 hW (lv_sub hl [5, 6, 4, 3, 2, 1, 0] rfl) q45 (fun H locs ls hW hl => ?_)
  refine lv_iload hx hb dX11_bestOf_144 (lv_at hl 0 rfl) ?_
  obtain ⟨rfl, rfl⟩ := ret2 h
  rw [hQ]
  exact g_reti hx hb hr hlk hW dX11_bestOf_146
set_option maxHeartbeats 4000000 in
set_option maxRecDepth 100000 in
theorem c_X11_best (l : Launch) (D : va_G) (T : Nat → ClassId) (A : Nat → Prop) (a_o : Nat → Nat) (Z : va_W)  (x_o : Ob) (p1 : Int32) (r : Int32) (x_o9 : Ob) (h : f_X11_best x_o p1 = some (r, x_o9)) : Met l yX11_best (Cond.code yX11_best cX11_best 2 (some .int) :: wsL_law) (rmd 9) (Pg D T A (oc_X11 T a_o x_o ++ Z) [.ref (a_o 0), .int p1]) (Qgi D A (oc_X11 T a_o x_o9 ++ Z) r) 0 0 A := by
  refine Met.ofW (cc := cX11_best) (maxL := 2) (ret := (some .int)) (by decide +kernel) rfl ?_
  intro p e s m args below meth c s₁ B hml hv
  obtain ⟨ha, hP, hK, hD, hN⟩ := hv
  have hx := B.exec
  have hb := B.bytes
  have hr := B.returns
  have hlk := B.notSynchronized
  have hts : ∀ w ∈ wsL_law, w.before args s = true := fun w hw => atoms_spec B.pre w (List.mem_cons_of_mem _ hw)
  have hown : s.vm.findClass RX11 = some m.cls := findClass_of_methodNamed B.named
  have hW : Wd D A s.heap (oc_X11 T a_o x_o ++ Z) s.heap [] := ⟨hP, hD, va_S.rf⟩
  have hl := lv_entry [.ref (a_o 0), .int p1] (n := 2) (Nat.le_of_ble_eq_true rfl)
  refine W.eq (en_eq ha) ?_
  generalize (lg_sl [.ref (a_o 0), .int p1] ++ List.replicate (2 - (lg_sl [.ref (a_o 0), .int p1]).length) Slot.unset).toArray = ls at hl ⊢
  have hl : lv_has ls 2 [(0, .ref (a_o 0)), (1, .int p1)] := hl
  clear hP hD B ha
  obtain ⟨Q, hQ⟩ : ∃ Q, Q = MQ below (Qgi D A (oc_X11 T a_o x_o9 ++ Z) r) args s 0 0 A := ⟨_, rfl⟩
  rw [← hQ]
  change W p l e (rmd 9) s m args below meth c s.heap [] 0 0 Q (F0 m 0 ls [])
  rw [f_X11_best] at h
  suffices hm : ∀ (H : Heap) (locs : List Loc), Wd D A s.heap (oc_X11 T a_o x_o ++ Z) H locs → W p l e (rmd 9) s m args below meth c H locs 0 0 Q (F0 m 0 ls []) from hm _ _ hW
  intro H locs hW
  refine lv_aload_n hx hb dX11_best_0 rfl (lv_at hl 0 rfl) ?_
  refine lv_iload_n hx hb dX11_best_1 rfl (lv_at hl 1 rfl) ?_
  obtain ⟨r1, q2, h⟩ := bnd1_s h
  refine cl_X11_194 hx hb hml hown hts hK hN hW (c_X11_isSentence l D T A (oc_X11 T a_o x_o ++ Z) p1 r1 q2) ⟨Nat.le_of_ble_eq_true rfl, Nat.le_of_ble_eq_true rfl⟩ hl.1 rfl (Nat.le_of_ble_eq_true rfl) dX11_best_2 ⟨Nat.zero_le _, Nat.zero_le _⟩ rfl (fun H locs hW => ?_)
  obtain ⟨r3, x_o4, q5, h⟩ := bnd2_s h
  refine cl_X11_222 hx hb hml hown hts hK hN hW (c_X11_may l D T A a_o (Z) x_o r1 r3 x_o4 q5) ⟨Nat.le_of_ble_eq_true rfl, Nat.le_of_ble_eq_true rfl⟩ hl.1 rfl (Nat.le_of_ble_eq_true rfl) dX11_best_5 ⟨Nat.zero_le _, Nat.zero_le _⟩ rfl (fun H locs hW => ?_)
  refine lv_if_ne (tgt := 13) hx hb dX11_best_8 (by decide) (fun c6 => ?_) (fun c6 => ?_)
  · have h := ite_f c6 h
    refine lv_aload_n hx hb dX11_best_13 rfl (lv_at hl 0 rfl) ?_
    refine lv_iload_n hx hb dX11_best_14 rfl (lv_at hl 1 rfl) ?_
    obtain ⟨x_o7, q8, h⟩ := bnd1_s h
    refine cl_X11_317 hx hb hml hown hts hK hN hW (c_X11_need l D T A a_o (Z) x_o4 p1 x_o7 q8) ⟨Nat.le_of_ble_eq_true rfl, Nat.le_of_ble_eq_true rfl⟩ hl.1 rfl (Nat.le_of_ble_eq_true rfl) dX11_best_15 ⟨Nat.zero_le _, Nat.zero_le _⟩ rfl (fun H locs hW => ?_)
    refine lv_aload_n hx hb dX11_best_18 rfl (lv_at hl 0 rfl) ?_
    refine lv_iload_n hx hb dX11_best_19 rfl (lv_at hl 1 rfl) ?_
    obtain ⟨r9, x_o10, q11, h⟩ := bnd2_s h
    refine cl_X11_345 hx hb hml hown hts hK hN hW (c_X11_bestOf l D T A a_o (Z) x_o7 p1 r9 x_o10 q11) ⟨Nat.le_of_ble_eq_true rfl, Nat.le_of_ble_eq_true rfl⟩ hl.1 rfl (Nat.le_of_ble_eq_true rfl) dX11_best_20 ⟨Nat.zero_le _, Nat.zero_le _⟩ rfl (fun H locs hW => ?_)
    obtain ⟨rfl, rfl⟩ := ret2 h
    rw [hQ]
    exact g_reti hx hb hr hlk hW dX11_best_23
  · have h := ite_t c6 h
    refine lv_iconst (v := 0) hx hb dX11_best_11 (by decide) ?_
    obtain ⟨rfl, rfl⟩ := ret2 h
    rw [hQ]
    exact g_reti hx hb hr hlk hW dX11_best_12
set_option maxHeartbeats 4000000 in
set_option maxRecDepth 100000 in
theorem c_X11_mendAll (l : Launch) (D : va_G) (T : Nat → ClassId) (A : Nat → Prop) (a_o : Nat → Nat) (Z : va_W)  (x_o : Ob) (p1 : Int32) (r : Int32) (x_o9 : Ob) (h : f_X11_mendAll x_o p1 = some (r, x_o9)) : Met l yX11_mendAll (Cond.code yX11_mendAll cX11_mendAll 5 (some .int) :: wsL_law) (rmd 9) (Pg D T A (oc_X11 T a_o x_o ++ Z) [.ref (a_o 0), .int p1]) (Qgi D A (oc_X11 T a_o x_o9 ++ Z) r) 0 0 A := by
  refine Met.ofW (cc := cX11_mendAll) (maxL := 5) (ret := (some .int)) (by decide +kernel) rfl ?_
  intro p e s m args below meth c s₁ B hml hv
  obtain ⟨ha, hP, hK, hD, hN⟩ := hv
  have hx := B.exec
  have hb := B.bytes
  have hr := B.returns
  have hlk := B.notSynchronized
  have hts : ∀ w ∈ wsL_law, w.before args s = true := fun w hw => atoms_spec B.pre w (List.mem_cons_of_mem _ hw)
  have hown : s.vm.findClass RX11 = some m.cls := findClass_of_methodNamed B.named
  have hW : Wd D A s.heap (oc_X11 T a_o x_o ++ Z) s.heap [] := ⟨hP, hD, va_S.rf⟩
  have hl := lv_entry [.ref (a_o 0), .int p1] (n := 5) (Nat.le_of_ble_eq_true rfl)
  refine W.eq (en_eq ha) ?_
  generalize (lg_sl [.ref (a_o 0), .int p1] ++ List.replicate (5 - (lg_sl [.ref (a_o 0), .int p1]).length) Slot.unset).toArray = ls at hl ⊢
  have hl : lv_has ls 5 [(0, .ref (a_o 0)), (1, .int p1)] := hl
  clear hP hD B ha
  obtain ⟨Q, hQ⟩ : ∃ Q, Q = MQ below (Qgi D A (oc_X11 T a_o x_o9 ++ Z) r) args s 0 0 A := ⟨_, rfl⟩
  rw [← hQ]
  change W p l e (rmd 9) s m args below meth c s.heap [] 0 0 Q (F0 m 0 ls [])
  have J84 : ∀ (x_o_84 : Ob) (v1_84 : Int32) (v3_84 : Int32) (v4_84 : Int32) (H : Heap) (locs : List Loc) (ls : Array Slot), Wd D A s.heap (oc_X11 T a_o x_o_84 ++ Z) H locs → lv_has ls 5 [(0, .ref (a_o 0)), (1, .int v1_84), (3, .int v3_84), (4, .int v4_84)] → f_X11_mendAll_J84 x_o_84 v1_84 v3_84 v4_84 = some (r, x_o9) → W p l e (rmd 9) s m args below meth c H locs 0 0 Q (F0 m 84 ls []) := by
    intro x_o_84 v1_84 v3_84 v4_84 H locs ls hW hl h
    rw [f_X11_mendAll_J84] at h
    refine lv_iload hx hb dX11_mendAll_84 (lv_at hl 3 rfl) ?_
    refine lv_iconst (v := 1) hx hb dX11_mendAll_86 (by decide) ?_
    refine lv_icmp_le (tgt := 108) hx hb dX11_mendAll_87 (by decide) (fun c23 => ?_) (fun c23 => ?_)
    · have h := ite_t c23 h
      refine lv_aload_n hx hb dX11_mendAll_108 rfl (lv_at hl 0 rfl) ?_
      refine lv_iload_n hx hb dX11_mendAll_109 rfl (lv_at hl 1 rfl) ?_
      obtain ⟨x_o24, q25, h⟩ := bnd1_s h
      refine cl_X11_317 hx hb hml hown hts hK hN hW (c_X11_need l D T A a_o (Z) x_o_84 v1_84 x_o24 q25) ⟨Nat.le_of_ble_eq_true rfl, Nat.le_of_ble_eq_true rfl⟩ hl.1 rfl (Nat.le_of_ble_eq_true rfl) dX11_mendAll_110 ⟨Nat.zero_le _, Nat.zero_le _⟩ rfl (fun H locs hW => ?_)
      refine lv_aload_n hx hb dX11_mendAll_113 rfl (lv_at hl 0 rfl) ?_
      refine lv_iload_n hx hb dX11_mendAll_114 rfl (lv_at hl 1 rfl) ?_
      obtain ⟨r26, q27, h⟩ := bnd1_s h
      refine cl_X11_322 hx hb hml hown hts hK hN hW (c_X11_costNow l D T A a_o (Z) x_o24 v1_84 r26 q27) ⟨Nat.le_of_ble_eq_true rfl, Nat.le_of_ble_eq_true rfl⟩ hl.1 rfl (Nat.le_of_ble_eq_true rfl) dX11_mendAll_115 ⟨Nat.zero_le _, Nat.zero_le _⟩ rfl (fun H locs hW => ?_)
      obtain ⟨rfl, rfl⟩ := ret2 h
      rw [hQ]
      exact g_reti hx hb hr hlk hW dX11_mendAll_118
    · have h := ite_f c23 h
      refine lv_aload_n hx hb dX11_mendAll_90 rfl (lv_at hl 0 rfl) ?_
      refine fg_X11_37 (v := .ref (a_o 10)) hx hb hts hown hK hW 0 rfl rfl dX11_mendAll_91 ?_
      refine lv_bipush (v := 6) hx hb dX11_mendAll_94 (by decide) ?_
      refine lv_iload_n hx hb dX11_mendAll_96 rfl (lv_at hl 1 rfl) ?_
      refine lv_imul hx hb dX11_mendAll_97 ?_
      refine lv_iload_n hx hb dX11_mendAll_98 rfl (lv_at hl 2 rfl) ?_
      refine lv_bipush (v := 100) hx hb dX11_mendAll_99 (by decide) ?_
      refine lv_idiv hx hb dX11_mendAll_101 (by decide) ?_
      refine lv_iadd hx hb dX11_mendAll_102 ?_
      refine lv_iload_n hx hb dX11_mendAll_103 rfl (lv_at hl 2 rfl) ?_
      refine lv_bipush (v := 100) hx hb dX11_mendAll_104 (by decide) ?_
      refine lv_irem hx hb dX11_mendAll_106 (by decide) ?_
      obtain ⟨g28, h⟩ := grd_s h
      refine g_iast (ws9 := oc_X11 T a_o (upo x_o_84 10 ((6 * v1_84) + (v3_84 / 100)).toNatClampNeg (v3_84 - v3_84 / 100 * 100)) ++ Z) hx hb hK hW 10 rfl g28 sa_X11_10 dX11_mendAll_107 (fun H locs hW => ?_)
      obtain ⟨x_o29, ex_o29⟩ : ∃ y : Ob, y = upo x_o_84 10 ((6 * v1_84) + (v3_84 / 100)).toNatClampNeg (v3_84 - v3_84 / 100 * 100) := ⟨_, rfl⟩
      rw [← ex_o29] at hW
      have h := lb_at ex_o29 h
      refine lv_aload_n hx hb dX11_mendAll_108 rfl (lv_at hl 0 rfl) ?_
      refine lv_iload_n hx hb dX11_mendAll_109 rfl (lv_at hl 1 rfl) ?_
      obtain ⟨x_o30, q31, h⟩ := bnd1_s h
      refine cl_X11_317 hx hb hml hown hts hK hN hW (c_X11_need l D T A a_o (Z) x_o29 v1_84 x_o30 q31) ⟨Nat.le_of_ble_eq_true rfl, Nat.le_of_ble_eq_true rfl⟩ hl.1 rfl (Nat.le_of_ble_eq_true rfl) dX11_mendAll_110 ⟨Nat.zero_le _, Nat.zero_le _⟩ rfl (fun H locs hW => ?_)
      refine lv_aload_n hx hb dX11_mendAll_113 rfl (lv_at hl 0 rfl) ?_
      refine lv_iload_n hx hb dX11_mendAll_114 rfl (lv_at hl 1 rfl) ?_
      obtain ⟨r32, q33, h⟩ := bnd1_s h
      refine cl_X11_322 hx hb hml hown hts hK hN hW (c_X11_costNow l D T A a_o (Z) x_o30 v1_84 r32 q33) ⟨Nat.le_of_ble_eq_true rfl, Nat.le_of_ble_eq_true rfl⟩ hl.1 rfl (Nat.le_of_ble_eq_true rfl) dX11_mendAll_115 ⟨Nat.zero_le _, Nat.zero_le _⟩ rfl (fun H locs hW => ?_)
      obtain ⟨rfl, rfl⟩ := ret2 h
      rw [hQ]
      exact g_reti hx hb hr hlk hW dX11_mendAll_118
  have J56 : ∀ (x_o_56 : Ob) (v1_56 : Int32) (v2_56 : Int32) (v3_56 : Int32) (v4_56 : Int32) (s1_56 : Int32) (s2_56 : Int32) (s3_56 : Int32) (H : Heap) (locs : List Loc) (ls : Array Slot), Wd D A s.heap (oc_X11 T a_o x_o_56 ++ Z) H locs → lv_has ls 5 [(0, .ref (a_o 0)), (1, .int v1_56), (2, .int v2_56), (3, .int v3_56), (4, .int v4_56)] → f_X11_mendAll_J56 x_o_56 v1_56 v2_56 v3_56 v4_56 s1_56 s2_56 s3_56 = some (r, x_o9) → W p l e (rmd 9) s m args below meth c H locs 0 0 Q (F0 m 56 ls [.int s3_56, .int s2_56, .int s1_56, .ref (a_o 47)]) := by
    intro x_o_56 v1_56 v2_56 v3_56 v4_56 s1_56 s2_56 s3_56 H locs ls hW hl h
    rw [f_X11_mendAll_J56] at h
    refine lv_iadd hx hb dX11_mendAll_56 ?_
    obtain ⟨g20, h⟩ := grd_s h
    refine g_iast (ws9 := oc_X11 T a_o (upo x_o_56 55 s1_56.toNatClampNeg (s2_56 + s3_56)) ++ Z) hx hb hK hW 47 rfl g20 sa_X11_55 dX11_mendAll_57 (fun H locs hW => ?_)
    obtain ⟨x_o21, ex_o21⟩ : ∃ y : Ob, y = upo x_o_56 55 s1_56.toNatClampNeg (s2_56 + s3_56) := ⟨_, rfl⟩
    rw [← ex_o21] at hW
    have h := lb_at ex_o21 h
    refine lv_iload hx hb dX11_mendAll_58 (lv_at hl 4 rfl) ?_
    refine lv_iconst (v := 1) hx hb dX11_mendAll_60 (by decide) ?_
    refine lv_iand hx hb dX11_mendAll_61 ?_
    refine lv_iconst (v := 1) hx hb dX11_mendAll_62 (by decide) ?_
    refine lv_icmp_ne (tgt := 84) hx hb dX11_mendAll_63 (by decide) (fun c22 => ?_) (fun c22 => ?_)
    · have h := ite_f c22 h
      exact J84 _ _ _ _ H locs ls hW (lv_sub hl [0, 1, 3, 4] rfl) h
    · have h := ite_t c22 h
      refine lv_aload_n hx hb dX11_mendAll_66 rfl (lv_at hl 0 rfl) ?_
      refine fg_X11_37 (v := .ref (a_o 10)) hx hb hts hown hK hW 0 rfl rfl dX11_mendAll_67 ?_
      refine lv_bipush (v := 6) hx hb dX11_mendAll_70 (by decide) ?_
      refine lv_iload_n hx hb dX11_mendAll_72 rfl (lv_at hl 1 rfl) ?_
      refine lv_imul hx hb dX11_mendAll_73 ?_
      refine lv_iload_n hx hb dX11_mendAll_74 rfl (lv_at hl 2 rfl) ?_
      refine lv_bipush (v := 100) hx hb dX11_mendAll_75 (by decide) ?_
      refine lv_idiv hx hb dX11_mendAll_77 (by decide) ?_
      refine lv_iadd hx hb dX11_mendAll_78 ?_
      refine lv_iload_n hx hb dX11_mendAll_79 rfl (lv_at hl 2 rfl) ?_
      refine lv_bipush (v := 100) hx hb dX11_mendAll_80 (by decide) ?_
      refine lv_irem hx hb dX11_mendAll_82 (by decide) ?_
      obtain ⟨g34, h⟩ := grd_s h
      refine g_iast (ws9 := oc_X11 T a_o (upo x_o21 10 ((6 * v1_56) + (v2_56 / 100)).toNatClampNeg (v2_56 - v2_56 / 100 * 100)) ++ Z) hx hb hK hW 10 rfl g34 sa_X11_10 dX11_mendAll_83 (fun H locs hW => ?_)
      obtain ⟨x_o35, ex_o35⟩ : ∃ y : Ob, y = upo x_o21 10 ((6 * v1_56) + (v2_56 / 100)).toNatClampNeg (v2_56 - v2_56 / 100 * 100) := ⟨_, rfl⟩
      rw [← ex_o35] at hW
      have h := lb_at ex_o35 h
      exact J84 _ _ _ _ H locs ls hW (lv_sub hl [0, 1, 3, 4] rfl) h
  rw [f_X11_mendAll] at h
  suffices hm : ∀ (H : Heap) (locs : List Loc), Wd D A s.heap (oc_X11 T a_o x_o ++ Z) H locs → W p l e (rmd 9) s m args below meth c H locs 0 0 Q (F0 m 0 ls []) from hm _ _ hW
  intro H locs hW
  refine lv_aload_n hx hb dX11_mendAll_0 rfl (lv_at hl 0 rfl) ?_
  refine lv_iload_n hx hb dX11_mendAll_1 rfl (lv_at hl 1 rfl) ?_
  obtain ⟨r1, q2, h⟩ := bnd1_s h
  refine cl_X11_194 hx hb hml hown hts hK hN hW (c_X11_isSentence l D T A (oc_X11 T a_o x_o ++ Z) p1 r1 q2) ⟨Nat.le_of_ble_eq_true rfl, Nat.le_of_ble_eq_true rfl⟩ hl.1 rfl (Nat.le_of_ble_eq_true rfl) dX11_mendAll_2 ⟨Nat.zero_le _, Nat.zero_le _⟩ rfl (fun H locs hW => ?_)
  obtain ⟨r3, x_o4, q5, h⟩ := bnd2_s h
  refine cl_X11_222 hx hb hml hown hts hK hN hW (c_X11_may l D T A a_o (Z) x_o r1 r3 x_o4 q5) ⟨Nat.le_of_ble_eq_true rfl, Nat.le_of_ble_eq_true rfl⟩ hl.1 rfl (Nat.le_of_ble_eq_true rfl) dX11_mendAll_5 ⟨Nat.zero_le _, Nat.zero_le _⟩ rfl (fun H locs hW => ?_)
  refine lv_if_ne (tgt := 13) hx hb dX11_mendAll_8 (by decide) (fun c6 => ?_) (fun c6 => ?_)
  · have h := ite_f c6 h
    refine lv_aload_n hx hb dX11_mendAll_13 rfl (lv_at hl 0 rfl) ?_
    refine lv_iload_n hx hb dX11_mendAll_14 rfl (lv_at hl 1 rfl) ?_
    obtain ⟨x_o7, q8, h⟩ := bnd1_s h
    refine cl_X11_317 hx hb hml hown hts hK hN hW (c_X11_need l D T A a_o (Z) x_o4 p1 x_o7 q8) ⟨Nat.le_of_ble_eq_true rfl, Nat.le_of_ble_eq_true rfl⟩ hl.1 rfl (Nat.le_of_ble_eq_true rfl) dX11_mendAll_15 ⟨Nat.zero_le _, Nat.zero_le _⟩ rfl (fun H locs hW => ?_)
    refine lv_aload_n hx hb dX11_mendAll_18 rfl (lv_at hl 0 rfl) ?_
    refine lv_iload_n hx hb dX11_mendAll_19 rfl (lv_at hl 1 rfl) ?_
    refine lv_iconst (v := 0) hx hb dX11_mendAll_20 (by decide) ?_
    obtain ⟨r9, x_o10, q11, h⟩ := bnd2_s h
    refine cl_X11_342 hx hb hml hown hts hK hN hW (c_X11_mendOf l D T A a_o (Z) x_o7 p1 0 r9 x_o10 q11) ⟨Nat.le_of_ble_eq_true rfl, Nat.le_of_ble_eq_true rfl⟩ hl.1 rfl (Nat.le_of_ble_eq_true rfl) dX11_mendAll_21 ⟨Nat.zero_le _, Nat.zero_le _⟩ rfl (fun H locs hW => ?_)
    refine lv_istore_n (lv' := [(2, .int r9), (0, .ref (a_o 0)), (1, .int p1)]) hx hb dX11_mendAll_24 rfl hl (by decide) rfl (fun ls hl => ?_)
    refine lv_aload_n hx hb dX11_mendAll_25 rfl (lv_at hl 1 rfl) ?_
    refine lv_iload_n hx hb dX11_mendAll_26 rfl (lv_at hl 2 rfl) ?_
    refine lv_iconst (v := 1) hx hb dX11_mendAll_27 (by decide) ?_
    obtain ⟨r12, x_o13, q14, h⟩ := bnd2_s h
    refine cl_X11_342 hx hb hml hown hts hK hN hW (c_X11_mendOf l D T A a_o (Z) x_o10 p1 1 r12 x_o13 q14) ⟨Nat.le_of_ble_eq_true rfl, Nat.le_of_ble_eq_true rfl⟩ hl.1 rfl (Nat.le_of_ble_eq_true rfl) dX11_mendAll_28 ⟨Nat.zero_le _, Nat.zero_le _⟩ rfl (fun H locs hW => ?_)
    refine lv_istore_n (lv' := [(3, .int r12), (2, .int r9), (0, .ref (a_o 0)), (1, .int p1)]) hx hb dX11_mendAll_31 rfl hl (by decide) rfl (fun ls hl => ?_)
    refine lv_aload_n hx hb dX11_mendAll_32 rfl (lv_at hl 2 rfl) ?_
    refine lv_iload_n hx hb dX11_mendAll_33 rfl (lv_at hl 3 rfl) ?_
    obtain ⟨r15, x_o16, q17, h⟩ := bnd2_s h
    refine cl_X11_345 hx hb hml hown hts hK hN hW (c_X11_bestOf l D T A a_o (Z) x_o13 p1 r15 x_o16 q17) ⟨Nat.le_of_ble_eq_true rfl, Nat.le_of_ble_eq_true rfl⟩ hl.1 rfl (Nat.le_of_ble_eq_true rfl) dX11_mendAll_34 ⟨Nat.zero_le _, Nat.zero_le _⟩ rfl (fun H locs hW => ?_)
    refine lv_istore (lv' := [(4, .int r15), (3, .int r12), (2, .int r9), (0, .ref (a_o 0)), (1, .int p1)]) hx hb dX11_mendAll_37 hl (by decide) rfl (fun ls hl => ?_)
    refine lv_aload_n hx hb dX11_mendAll_39 rfl (lv_at hl 3 rfl) ?_
    refine fg_X11_150 (v := .ref (a_o 47)) hx hb hts hown hK hW 0 rfl rfl dX11_mendAll_40 ?_
    refine lv_iload_n hx hb dX11_mendAll_43 rfl (lv_at hl 4 rfl) ?_
    refine lv_dup2_11 hx hb dX11_mendAll_44 rfl rfl ?_
    obtain ⟨g18, h⟩ := grd_s h
    refine g_iald hx hb hK hW 47 rfl g18 dX11_mendAll_45 ?_
    refine lv_iload hx hb dX11_mendAll_46 (lv_at hl 0 rfl) ?_
    refine lv_if_ne (tgt := 55) hx hb dX11_mendAll_48 (by decide) (fun c19 => ?_) (fun c19 => ?_)
    · have h := ite_f c19 h
      refine lv_iconst (v := 1) hx hb dX11_mendAll_55 (by decide) ?_
      exact J56 _ _ _ _ _ _ _ _ H locs ls hW (lv_sub hl [3, 4, 2, 1, 0] rfl) h
    · have h := ite_t c19 h
      refine lv_iconst (v := 0) hx hb dX11_mendAll_51 (by decide) ?_
      refine lv_goto (tgt := 56) hx hb dX11_mendAll_52 (by decide) ?_
      exact J56 _ _ _ _ _ _ _ _ H locs ls hW (lv_sub hl [3, 4, 2, 1, 0] rfl) h
  · have h := ite_t c6 h
    refine lv_iconst (v := 0) hx hb dX11_mendAll_11 (by decide) ?_
    obtain ⟨rfl, rfl⟩ := ret2 h
    rw [hQ]
    exact g_reti hx hb hr hlk hW dX11_mendAll_12
set_option maxHeartbeats 4000000 in
set_option maxRecDepth 100000 in
theorem c_X11_reads (l : Launch) (D : va_G) (T : Nat → ClassId) (A : Nat → Prop) (a_o : Nat → Nat) (Z : va_W)  (x_o : Ob) (r : Int32) (x_o9 : Ob) (h : f_X11_reads x_o = some (r, x_o9)) : Met l yX11_reads (Cond.code yX11_reads cX11_reads 1 (some .int) :: wsL_law) (rmd 0) (Pg D T A (oc_X11 T a_o x_o ++ Z) [.ref (a_o 0)]) (Qgi D A (oc_X11 T a_o x_o9 ++ Z) r) 0 0 A := by
  refine Met.ofW (cc := cX11_reads) (maxL := 1) (ret := (some .int)) (by decide +kernel) rfl ?_
  intro p e s m args below meth c s₁ B hml hv
  obtain ⟨ha, hP, hK, hD, hN⟩ := hv
  have hx := B.exec
  have hb := B.bytes
  have hr := B.returns
  have hlk := B.notSynchronized
  have hts : ∀ w ∈ wsL_law, w.before args s = true := fun w hw => atoms_spec B.pre w (List.mem_cons_of_mem _ hw)
  have hown : s.vm.findClass RX11 = some m.cls := findClass_of_methodNamed B.named
  have hW : Wd D A s.heap (oc_X11 T a_o x_o ++ Z) s.heap [] := ⟨hP, hD, va_S.rf⟩
  have hl := lv_entry [.ref (a_o 0)] (n := 1) (Nat.le_of_ble_eq_true rfl)
  refine W.eq (en_eq ha) ?_
  generalize (lg_sl [.ref (a_o 0)] ++ List.replicate (1 - (lg_sl [.ref (a_o 0)]).length) Slot.unset).toArray = ls at hl ⊢
  have hl : lv_has ls 1 [(0, .ref (a_o 0))] := hl
  clear hP hD B ha
  obtain ⟨Q, hQ⟩ : ∃ Q, Q = MQ below (Qgi D A (oc_X11 T a_o x_o9 ++ Z) r) args s 0 0 A := ⟨_, rfl⟩
  rw [← hQ]
  change W p l e (rmd 0) s m args below meth c s.heap [] 0 0 Q (F0 m 0 ls [])
  rw [f_X11_reads] at h
  suffices hm : ∀ (H : Heap) (locs : List Loc), Wd D A s.heap (oc_X11 T a_o x_o ++ Z) H locs → W p l e (rmd 0) s m args below meth c H locs 0 0 Q (F0 m 0 ls []) from hm _ _ hW
  intro H locs hW
  refine lv_aload_n hx hb dX11_reads_0 rfl (lv_at hl 0 rfl) ?_
  refine lv_iconst (v := 0) hx hb dX11_reads_1 (by decide) ?_
  refine fp_X11_183 (ws9 := oc_X11 T a_o (upo x_o 67 0 0) ++ Z) hx hb hts hown hK hW 0 rfl (Nat.le_of_ble_eq_true rfl) sf_X11_67 dX11_reads_2 (fun H locs hW => ?_)
  obtain ⟨x_o1, ex_o1⟩ : ∃ y : Ob, y = upo x_o 67 0 0 := ⟨_, rfl⟩
  rw [← ex_o1] at hW
  have h := lb_at ex_o1 h
  refine lv_aload_n hx hb dX11_reads_5 rfl (lv_at hl 0 rfl) ?_
  refine fg_X11_298 (v := .int (x_o1 53 0)) hx hb hts hown hK hW 0 rfl rfl dX11_reads_6 ?_
  obtain ⟨rfl, rfl⟩ := ret2 h
  rw [hQ]
  exact g_reti hx hb hr hlk hW dX11_reads_9
set_option maxHeartbeats 4000000 in
set_option maxRecDepth 100000 in
theorem c_X11_append (l : Launch) (D : va_G) (T : Nat → ClassId) (A : Nat → Prop) (a_o : Nat → Nat) (Z : va_W)  (x_o : Ob) (p1 : Int32) (p2 : Int32) (r : Int32) (x_o9 : Ob) (h : f_X11_append x_o p1 p2 = some (r, x_o9)) : Met l yX11_append (Cond.code yX11_append cX11_append 4 (some .int) :: wsL_law) (rmd 2) (Pg D T A (oc_X11 T a_o x_o ++ Z) [.ref (a_o 0), .int p1, .int p2]) (Qgi D A (oc_X11 T a_o x_o9 ++ Z) r) 0 0 A := by
  refine Met.ofW (cc := cX11_append) (maxL := 4) (ret := (some .int)) (by decide +kernel) rfl ?_
  intro p e s m args below meth c s₁ B hml hv
  obtain ⟨ha, hP, hK, hD, hN⟩ := hv
  have hx := B.exec
  have hb := B.bytes
  have hr := B.returns
  have hlk := B.notSynchronized
  have hts : ∀ w ∈ wsL_law, w.before args s = true := fun w hw => atoms_spec B.pre w (List.mem_cons_of_mem _ hw)
  have hown : s.vm.findClass RX11 = some m.cls := findClass_of_methodNamed B.named
  have hW : Wd D A s.heap (oc_X11 T a_o x_o ++ Z) s.heap [] := ⟨hP, hD, va_S.rf⟩
  have hl := lv_entry [.ref (a_o 0), .int p1, .int p2] (n := 4) (Nat.le_of_ble_eq_true rfl)
  refine W.eq (en_eq ha) ?_
  generalize (lg_sl [.ref (a_o 0), .int p1, .int p2] ++ List.replicate (4 - (lg_sl [.ref (a_o 0), .int p1, .int p2]).length) Slot.unset).toArray = ls at hl ⊢
  have hl : lv_has ls 4 [(0, .ref (a_o 0)), (1, .int p1), (2, .int p2)] := hl
  clear hP hD B ha
  obtain ⟨Q, hQ⟩ : ∃ Q, Q = MQ below (Qgi D A (oc_X11 T a_o x_o9 ++ Z) r) args s 0 0 A := ⟨_, rfl⟩
  rw [← hQ]
  change W p l e (rmd 2) s m args below meth c s.heap [] 0 0 Q (F0 m 0 ls [])
  have J43 : ∀ (x_o_43 : Ob) (v1_43 : Int32) (v2_43 : Int32) (s1_43 : Int32) (s2_43 : Int32) (H : Heap) (locs : List Loc) (ls : Array Slot), Wd D A s.heap (oc_X11 T a_o x_o_43 ++ Z) H locs → lv_has ls 4 [(0, .ref (a_o 0)), (1, .int v1_43), (2, .int v2_43)] → f_X11_append_J43 x_o_43 v1_43 v2_43 s1_43 s2_43 = some (r, x_o9) → W p l e (rmd 2) s m args below meth c H locs 0 0 Q (F0 m 43 ls [.int s2_43, .int s1_43, .ref (a_o 0)]) := by
    intro x_o_43 v1_43 v2_43 s1_43 s2_43 H locs ls hW hl h
    rw [f_X11_append_J43] at h
    obtain ⟨r5, x_o6, q7, h⟩ := bnd2_s h
    refine cl_X11_205 hx hb hml hown hts hK hN hW (c_X11_mayBoth l D T A a_o (Z) x_o_43 s1_43 s2_43 r5 x_o6 q7) ⟨Nat.le_of_ble_eq_true rfl, Nat.le_of_ble_eq_true rfl⟩ hl.1 rfl (Nat.le_of_ble_eq_true rfl) dX11_append_43 ⟨Nat.zero_le _, Nat.zero_le _⟩ rfl (fun H locs hW => ?_)
    refine lv_if_ne (tgt := 51) hx hb dX11_append_46 (by decide) (fun c8 => ?_) (fun c8 => ?_)
    · have h := ite_f c8 h
      refine lv_aload_n hx hb dX11_append_51 rfl (lv_at hl 0 rfl) ?_
      refine fg_X11_37 (v := .ref (a_o 10)) hx hb hts hown hK hW 0 rfl rfl dX11_append_52 ?_
      refine lv_bipush (v := 6) hx hb dX11_append_55 (by decide) ?_
      refine lv_iload_n hx hb dX11_append_57 rfl (lv_at hl 1 rfl) ?_
      refine lv_imul hx hb dX11_append_58 ?_
      refine lv_aload_n hx hb dX11_append_59 rfl (lv_at hl 0 rfl) ?_
      refine fg_X11_34 (v := .ref (a_o 9)) hx hb hts hown hK hW 0 rfl rfl dX11_append_60 ?_
      refine lv_iload_n hx hb dX11_append_63 rfl (lv_at hl 1 rfl) ?_
      obtain ⟨g9, h⟩ := grd_s h
      refine g_iald hx hb hK hW 9 rfl g9 dX11_append_64 ?_
      refine lv_iadd hx hb dX11_append_65 ?_
      refine lv_iload_n hx hb dX11_append_66 rfl (lv_at hl 2 rfl) ?_
      obtain ⟨g10, h⟩ := grd_s h
      refine g_iast (ws9 := oc_X11 T a_o (upo x_o6 10 ((6 * v1_43) + (x_o6 9 v1_43.toNatClampNeg)).toNatClampNeg v2_43) ++ Z) hx hb hK hW 10 rfl g10 sa_X11_10 dX11_append_67 (fun H locs hW => ?_)
      obtain ⟨x_o11, ex_o11⟩ : ∃ y : Ob, y = upo x_o6 10 ((6 * v1_43) + (x_o6 9 v1_43.toNatClampNeg)).toNatClampNeg v2_43 := ⟨_, rfl⟩
      rw [← ex_o11] at hW
      have h := lb_at ex_o11 h
      refine lv_aload_n hx hb dX11_append_68 rfl (lv_at hl 0 rfl) ?_
      refine fg_X11_34 (v := .ref (a_o 9)) hx hb hts hown hK hW 0 rfl rfl dX11_append_69 ?_
      refine lv_iload_n hx hb dX11_append_72 rfl (lv_at hl 1 rfl) ?_
      refine lv_dup2_11 hx hb dX11_append_73 rfl rfl ?_
      obtain ⟨g12, h⟩ := grd_s h
      refine g_iald hx hb hK hW 9 rfl g12 dX11_append_74 ?_
      refine lv_iconst (v := 1) hx hb dX11_append_75 (by decide) ?_
      refine lv_iadd hx hb dX11_append_76 ?_
      obtain ⟨g13, h⟩ := grd_s h
      refine g_iast (ws9 := oc_X11 T a_o (upo x_o11 9 v1_43.toNatClampNeg ((x_o11 9 v1_43.toNatClampNeg) + 1)) ++ Z) hx hb hK hW 9 rfl g13 sa_X11_9 dX11_append_77 (fun H locs hW => ?_)
      obtain ⟨x_o14, ex_o14⟩ : ∃ y : Ob, y = upo x_o11 9 v1_43.toNatClampNeg ((x_o11 9 v1_43.toNatClampNeg) + 1) := ⟨_, rfl⟩
      rw [← ex_o14] at hW
      have h := lb_at ex_o14 h
      refine lv_aload_n hx hb dX11_append_78 rfl (lv_at hl 0 rfl) ?_
      refine fg_X11_150 (v := .ref (a_o 47)) hx hb hts hown hK hW 0 rfl rfl dX11_append_79 ?_
      refine lv_iload_n hx hb dX11_append_82 rfl (lv_at hl 1 rfl) ?_
      refine lv_dup2_11 hx hb dX11_append_83 rfl rfl ?_
      obtain ⟨g15, h⟩ := grd_s h
      refine g_iald hx hb hK hW 47 rfl g15 dX11_append_84 ?_
      refine lv_iconst (v := 1) hx hb dX11_append_85 (by decide) ?_
      refine lv_iadd hx hb dX11_append_86 ?_
      obtain ⟨g16, h⟩ := grd_s h
      refine g_iast (ws9 := oc_X11 T a_o (upo x_o14 55 v1_43.toNatClampNeg ((x_o14 55 v1_43.toNatClampNeg) + 1)) ++ Z) hx hb hK hW 47 rfl g16 sa_X11_55 dX11_append_87 (fun H locs hW => ?_)
      obtain ⟨x_o17, ex_o17⟩ : ∃ y : Ob, y = upo x_o14 55 v1_43.toNatClampNeg ((x_o14 55 v1_43.toNatClampNeg) + 1) := ⟨_, rfl⟩
      rw [← ex_o17] at hW
      have h := lb_at ex_o17 h
      refine lv_aload_n hx hb dX11_append_88 rfl (lv_at hl 0 rfl) ?_
      refine fg_X11_34 (v := .ref (a_o 9)) hx hb hts hown hK hW 0 rfl rfl dX11_append_89 ?_
      refine lv_iload_n hx hb dX11_append_92 rfl (lv_at hl 1 rfl) ?_
      obtain ⟨g18, h⟩ := grd_s h
      refine g_iald hx hb hK hW 9 rfl g18 dX11_append_93 ?_
      obtain ⟨rfl, rfl⟩ := ret2 h
      rw [hQ]
      exact g_reti hx hb hr hlk hW dX11_append_94
    · have h := ite_t c8 h
      refine lv_iconst (v := 0) hx hb dX11_append_49 (by decide) ?_
      obtain ⟨rfl, rfl⟩ := ret2 h
      rw [hQ]
      exact g_reti hx hb hr hlk hW dX11_append_50
  have J42 : ∀ (x_o_42 : Ob) (v1_42 : Int32) (v2_42 : Int32) (s1_42 : Int32) (H : Heap) (locs : List Loc) (ls : Array Slot), Wd D A s.heap (oc_X11 T a_o x_o_42 ++ Z) H locs → lv_has ls 4 [(0, .ref (a_o 0)), (1, .int v1_42), (2, .int v2_42)] → f_X11_append_J42 x_o_42 v1_42 v2_42 s1_42 = some (r, x_o9) → W p l e (rmd 2) s m args below meth c H locs 0 0 Q (F0 m 42 ls [.int s1_42, .ref (a_o 0)]) := by
    intro x_o_42 v1_42 v2_42 s1_42 H locs ls hW hl h
    rw [f_X11_append_J42] at h
    refine lv_iconst (v := 0) hx hb dX11_append_42 (by decide) ?_
    exact J43 _ _ _ _ _ H locs ls hW (lv_sub hl [0, 1, 2] rfl) h
  have J20 : ∀ (x_o_20 : Ob) (v1_20 : Int32) (v2_20 : Int32) (s0_20 : Int32) (H : Heap) (locs : List Loc) (ls : Array Slot), Wd D A s.heap (oc_X11 T a_o x_o_20 ++ Z) H locs → lv_has ls 4 [(0, .ref (a_o 0)), (1, .int v1_20), (2, .int v2_20)] → f_X11_append_J20 x_o_20 v1_20 v2_20 s0_20 = some (r, x_o9) → W p l e (rmd 2) s m args below meth c H locs 0 0 Q (F0 m 20 ls [.int s0_20]) := by
    intro x_o_20 v1_20 v2_20 s0_20 H locs ls hW hl h
    rw [f_X11_append_J20] at h
    refine lv_istore_n (lv' := [(3, .int s0_20), (0, .ref (a_o 0)), (1, .int v1_20), (2, .int v2_20)]) hx hb dX11_append_20 rfl hl (by decide) rfl (fun ls hl => ?_)
    refine lv_aload_n hx hb dX11_append_21 rfl (lv_at hl 1 rfl) ?_
    refine lv_iload_n hx hb dX11_append_22 rfl (lv_at hl 0 rfl) ?_
    refine lv_iload_n hx hb dX11_append_23 rfl (lv_at hl 0 rfl) ?_
    refine lv_if_eq (tgt := 42) hx hb dX11_append_24 (by decide) (fun c4 => ?_) (fun c4 => ?_)
    · have h := ite_t c4 h
      exact J42 _ _ _ _ H locs ls hW (lv_sub hl [1, 2, 3] rfl) h
    · have h := ite_f c4 h
      refine lv_aload_n hx hb dX11_append_27 rfl (lv_at hl 1 rfl) ?_
      refine fg_X11_34 (v := .ref (a_o 9)) hx hb hts hown hK hW 0 rfl rfl dX11_append_28 ?_
      refine lv_iload_n hx hb dX11_append_31 rfl (lv_at hl 2 rfl) ?_
      obtain ⟨g19, h⟩ := grd_s h
      refine g_iald hx hb hK hW 9 rfl g19 dX11_append_32 ?_
      refine lv_bipush (v := 6) hx hb dX11_append_33 (by decide) ?_
      refine lv_icmp_ge (tgt := 42) hx hb dX11_append_35 (by decide) (fun c20 => ?_) (fun c20 => ?_)
      · have h := ite_t c20 h
        exact J42 _ _ _ _ H locs ls hW (lv_sub hl [1, 2, 3] rfl) h
      · have h := ite_f c20 h
        refine lv_iconst (v := 1) hx hb dX11_append_38 (by decide) ?_
        refine lv_goto (tgt := 43) hx hb dX11_append_39 (by decide) ?_
        exact J43 _ _ _ _ _ H locs ls hW (lv_sub hl [1, 2, 3] rfl) h
  have J19 : ∀ (x_o_19 : Ob) (v1_19 : Int32) (v2_19 : Int32) (H : Heap) (locs : List Loc) (ls : Array Slot), Wd D A s.heap (oc_X11 T a_o x_o_19 ++ Z) H locs → lv_has ls 4 [(0, .ref (a_o 0)), (1, .int v1_19), (2, .int v2_19)] → f_X11_append_J19 x_o_19 v1_19 v2_19 = some (r, x_o9) → W p l e (rmd 2) s m args below meth c H locs 0 0 Q (F0 m 19 ls []) := by
    intro x_o_19 v1_19 v2_19 H locs ls hW hl h
    rw [f_X11_append_J19] at h
    refine lv_iconst (v := 0) hx hb dX11_append_19 (by decide) ?_
    exact J20 _ _ _ _ H locs ls hW (lv_sub hl [0, 1, 2] rfl) h
  rw [f_X11_append] at h
  suffices hm : ∀ (H : Heap) (locs : List Loc), Wd D A s.heap (oc_X11 T a_o x_o ++ Z) H locs → W p l e (rmd 2) s m args below meth c H locs 0 0 Q (F0 m 0 ls []) from hm _ _ hW
  intro H locs hW
  refine lv_iload_n hx hb dX11_append_0 rfl (lv_at hl 1 rfl) ?_
  obtain ⟨r1, q2, h⟩ := bnd1_s h
  refine cl_X11_194 hx hb hml hown hts hK hN hW (c_X11_isSentence l D T A (oc_X11 T a_o x_o ++ Z) p1 r1 q2) ⟨Nat.le_of_ble_eq_true rfl, Nat.le_of_ble_eq_true rfl⟩ hl.1 rfl (Nat.le_of_ble_eq_true rfl) dX11_append_1 ⟨Nat.zero_le _, Nat.zero_le _⟩ rfl (fun H locs hW => ?_)
  refine lv_if_eq (tgt := 19) hx hb dX11_append_4 (by decide) (fun c3 => ?_) (fun c3 => ?_)
  · have h := ite_t c3 h
    exact J19 _ _ _ H locs ls hW (lv_sub hl [0, 1, 2] rfl) h
  · have h := ite_f c3 h
    refine lv_aload_n hx hb dX11_append_7 rfl (lv_at hl 0 rfl) ?_
    refine lv_iload_n hx hb dX11_append_8 rfl (lv_at hl 2 rfl) ?_
    obtain ⟨r21, q22, h⟩ := bnd1_s h
    refine cl_X11_209 hx hb hml hown hts hK hN hW (c_X11_isWord l D T A a_o (Z) x_o p2 r21 q22) ⟨Nat.le_of_ble_eq_true rfl, Nat.le_of_ble_eq_true rfl⟩ hl.1 rfl (Nat.le_of_ble_eq_true rfl) dX11_append_9 ⟨Nat.zero_le _, Nat.zero_le _⟩ rfl (fun H locs hW => ?_)
    refine lv_if_eq (tgt := 19) hx hb dX11_append_12 (by decide) (fun c23 => ?_) (fun c23 => ?_)
    · have h := ite_t c23 h
      exact J19 _ _ _ H locs ls hW (lv_sub hl [0, 1, 2] rfl) h
    · have h := ite_f c23 h
      refine lv_iconst (v := 1) hx hb dX11_append_15 (by decide) ?_
      refine lv_goto (tgt := 20) hx hb dX11_append_16 (by decide) ?_
      exact J20 _ _ _ _ H locs ls hW (lv_sub hl [0, 1, 2] rfl) h
set_option maxHeartbeats 4000000 in
set_option maxRecDepth 100000 in
theorem c_X11_change (l : Launch) (D : va_G) (T : Nat → ClassId) (A : Nat → Prop) (a_o : Nat → Nat) (Z : va_W)  (x_o : Ob) (p1 : Int32) (p2 : Int32) (p3 : Int32) (r : Int32) (x_o9 : Ob) (h : f_X11_change x_o p1 p2 p3 = some (r, x_o9)) : Met l yX11_change (Cond.code yX11_change cX11_change 5 (some .int) :: wsL_law) (rmd 3) (Pg D T A (oc_X11 T a_o x_o ++ Z) [.ref (a_o 0), .int p1, .int p2, .int p3]) (Qgi D A (oc_X11 T a_o x_o9 ++ Z) r) 0 0 A := by
  refine Met.ofW (cc := cX11_change) (maxL := 5) (ret := (some .int)) (by decide +kernel) rfl ?_
  intro p e s m args below meth c s₁ B hml hv
  obtain ⟨ha, hP, hK, hD, hN⟩ := hv
  have hx := B.exec
  have hb := B.bytes
  have hr := B.returns
  have hlk := B.notSynchronized
  have hts : ∀ w ∈ wsL_law, w.before args s = true := fun w hw => atoms_spec B.pre w (List.mem_cons_of_mem _ hw)
  have hown : s.vm.findClass RX11 = some m.cls := findClass_of_methodNamed B.named
  have hW : Wd D A s.heap (oc_X11 T a_o x_o ++ Z) s.heap [] := ⟨hP, hD, va_S.rf⟩
  have hl := lv_entry [.ref (a_o 0), .int p1, .int p2, .int p3] (n := 5) (Nat.le_of_ble_eq_true rfl)
  refine W.eq (en_eq ha) ?_
  generalize (lg_sl [.ref (a_o 0), .int p1, .int p2, .int p3] ++ List.replicate (5 - (lg_sl [.ref (a_o 0), .int p1, .int p2, .int p3]).length) Slot.unset).toArray = ls at hl ⊢
  have hl : lv_has ls 5 [(0, .ref (a_o 0)), (1, .int p1), (2, .int p2), (3, .int p3)] := hl
  clear hP hD B ha
  obtain ⟨Q, hQ⟩ : ∃ Q, Q = MQ below (Qgi D A (oc_X11 T a_o x_o9 ++ Z) r) args s 0 0 A := ⟨_, rfl⟩
  rw [← hQ]
  change W p l e (rmd 3) s m args below meth c s.heap [] 0 0 Q (F0 m 0 ls [])
  have J23 : ∀ (x_o_23 : Ob) (v1_23 : Int32) (v2_23 : Int32) (v3_23 : Int32) (s1_23 : Int32) (H : Heap) (locs : List Loc) (ls : Array Slot), Wd D A s.heap (oc_X11 T a_o x_o_23 ++ Z) H locs → lv_has ls 5 [(0, .ref (a_o 0)), (1, .int v1_23), (2, .int v2_23), (3, .int v3_23)] → f_X11_change_J23 x_o_23 v1_23 v2_23 v3_23 s1_23 = some (r, x_o9) → W p l e (rmd 3) s m args below meth c H locs 0 0 Q (F0 m 23 ls [.int s1_23, .ref (a_o 0)]) := by
    intro x_o_23 v1_23 v2_23 v3_23 s1_23 H locs ls hW hl h
    rw [f_X11_change_J23] at h
    obtain ⟨r4, x_o5, q6, h⟩ := bnd2_s h
    refine cl_X11_222 hx hb hml hown hts hK hN hW (c_X11_may l D T A a_o (Z) x_o_23 s1_23 r4 x_o5 q6) ⟨Nat.le_of_ble_eq_true rfl, Nat.le_of_ble_eq_true rfl⟩ hl.1 rfl (Nat.le_of_ble_eq_true rfl) dX11_change_23 ⟨Nat.zero_le _, Nat.zero_le _⟩ rfl (fun H locs hW => ?_)
    refine lv_if_ne (tgt := 31) hx hb dX11_change_26 (by decide) (fun c7 => ?_) (fun c7 => ?_)
    · have h := ite_f c7 h
      refine lv_aload_n hx hb dX11_change_31 rfl (lv_at hl 0 rfl) ?_
      refine fg_X11_37 (v := .ref (a_o 10)) hx hb hts hown hK hW 0 rfl rfl dX11_change_32 ?_
      refine lv_bipush (v := 6) hx hb dX11_change_35 (by decide) ?_
      refine lv_iload_n hx hb dX11_change_37 rfl (lv_at hl 1 rfl) ?_
      refine lv_imul hx hb dX11_change_38 ?_
      refine lv_iload_n hx hb dX11_change_39 rfl (lv_at hl 2 rfl) ?_
      refine lv_iadd hx hb dX11_change_40 ?_
      obtain ⟨g8, h⟩ := grd_s h
      refine g_iald hx hb hK hW 10 rfl g8 dX11_change_41 ?_
      refine lv_topi (fun w4_9 ew4_9 => ?_)
      have h := lb_at ew4_9 h
      refine lv_istore (lv' := [(4, .int w4_9), (0, .ref (a_o 0)), (1, .int v1_23), (2, .int v2_23), (3, .int v3_23)]) hx hb dX11_change_42 hl (by decide) rfl (fun ls hl => ?_)
      refine lv_aload_n hx hb dX11_change_44 rfl (lv_at hl 1 rfl) ?_
      refine fg_X11_37 (v := .ref (a_o 10)) hx hb hts hown hK hW 0 rfl rfl dX11_change_45 ?_
      refine lv_bipush (v := 6) hx hb dX11_change_48 (by decide) ?_
      refine lv_iload_n hx hb dX11_change_50 rfl (lv_at hl 2 rfl) ?_
      refine lv_imul hx hb dX11_change_51 ?_
      refine lv_iload_n hx hb dX11_change_52 rfl (lv_at hl 3 rfl) ?_
      refine lv_iadd hx hb dX11_change_53 ?_
      refine lv_iload_n hx hb dX11_change_54 rfl (lv_at hl 4 rfl) ?_
      obtain ⟨g10, h⟩ := grd_s h
      refine g_iast (ws9 := oc_X11 T a_o (upo x_o5 10 ((6 * v1_23) + v2_23).toNatClampNeg v3_23) ++ Z) hx hb hK hW 10 rfl g10 sa_X11_10 dX11_change_55 (fun H locs hW => ?_)
      obtain ⟨x_o11, ex_o11⟩ : ∃ y : Ob, y = upo x_o5 10 ((6 * v1_23) + v2_23).toNatClampNeg v3_23 := ⟨_, rfl⟩
      rw [← ex_o11] at hW
      have h := lb_at ex_o11 h
      refine lv_aload_n hx hb dX11_change_56 rfl (lv_at hl 1 rfl) ?_
      refine fg_X11_150 (v := .ref (a_o 47)) hx hb hts hown hK hW 0 rfl rfl dX11_change_57 ?_
      refine lv_iload_n hx hb dX11_change_60 rfl (lv_at hl 2 rfl) ?_
      refine lv_dup2_11 hx hb dX11_change_61 rfl rfl ?_
      obtain ⟨g12, h⟩ := grd_s h
      refine g_iald hx hb hK hW 47 rfl g12 dX11_change_62 ?_
      refine lv_iload hx hb dX11_change_63 (lv_at hl 0 rfl) ?_
      refine lv_iload_n hx hb dX11_change_65 rfl (lv_at hl 4 rfl) ?_
      refine lv_icmp_ne (tgt := 73) hx hb dX11_change_66 (by decide) (fun c13 => ?_) (fun c13 => ?_)
      · have h := ite_f c13 h
        refine lv_iconst (v := 1) hx hb dX11_change_73 (by decide) ?_
        refine lv_iadd hx hb dX11_change_74 ?_
        obtain ⟨g14, h⟩ := grd_s h
        refine g_iast (ws9 := oc_X11 T a_o (upo x_o11 55 v1_23.toNatClampNeg ((x_o11 55 v1_23.toNatClampNeg) + 1)) ++ Z) hx hb hK hW 47 rfl g14 sa_X11_55 dX11_change_75 (fun H locs hW => ?_)
        obtain ⟨x_o15, ex_o15⟩ : ∃ y : Ob, y = upo x_o11 55 v1_23.toNatClampNeg ((x_o11 55 v1_23.toNatClampNeg) + 1) := ⟨_, rfl⟩
        rw [← ex_o15] at hW
        have h := lb_at ex_o15 h
        refine lv_iload hx hb dX11_change_76 (lv_at hl 0 rfl) ?_
        obtain ⟨rfl, rfl⟩ := ret2 h
        rw [hQ]
        exact g_reti hx hb hr hlk hW dX11_change_78
      · have h := ite_t c13 h
        refine lv_iconst (v := 0) hx hb dX11_change_69 (by decide) ?_
        refine lv_goto (tgt := 74) hx hb dX11_change_70 (by decide) ?_
        refine lv_iadd hx hb dX11_change_74 ?_
        obtain ⟨g16, h⟩ := grd_s h
        refine g_iast (ws9 := oc_X11 T a_o (upo x_o11 55 v1_23.toNatClampNeg ((x_o11 55 v1_23.toNatClampNeg) + 0)) ++ Z) hx hb hK hW 47 rfl g16 sa_X11_55 dX11_change_75 (fun H locs hW => ?_)
        obtain ⟨x_o17, ex_o17⟩ : ∃ y : Ob, y = upo x_o11 55 v1_23.toNatClampNeg ((x_o11 55 v1_23.toNatClampNeg) + 0) := ⟨_, rfl⟩
        rw [← ex_o17] at hW
        have h := lb_at ex_o17 h
        refine lv_iload hx hb dX11_change_76 (lv_at hl 0 rfl) ?_
        obtain ⟨rfl, rfl⟩ := ret2 h
        rw [hQ]
        exact g_reti hx hb hr hlk hW dX11_change_78
    · have h := ite_t c7 h
      refine lv_iconst (v := 0) hx hb dX11_change_29 (by decide) ?_
      obtain ⟨rfl, rfl⟩ := ret2 h
      rw [hQ]
      exact g_reti hx hb hr hlk hW dX11_change_30
  have J22 : ∀ (x_o_22 : Ob) (v1_22 : Int32) (v2_22 : Int32) (v3_22 : Int32) (H : Heap) (locs : List Loc) (ls : Array Slot), Wd D A s.heap (oc_X11 T a_o x_o_22 ++ Z) H locs → lv_has ls 5 [(0, .ref (a_o 0)), (1, .int v1_22), (2, .int v2_22), (3, .int v3_22)] → f_X11_change_J22 x_o_22 v1_22 v2_22 v3_22 = some (r, x_o9) → W p l e (rmd 3) s m args below meth c H locs 0 0 Q (F0 m 22 ls [.ref (a_o 0)]) := by
    intro x_o_22 v1_22 v2_22 v3_22 H locs ls hW hl h
    rw [f_X11_change_J22] at h
    refine lv_iconst (v := 0) hx hb dX11_change_22 (by decide) ?_
    exact J23 _ _ _ _ _ H locs ls hW (lv_sub hl [0, 1, 2, 3] rfl) h
  rw [f_X11_change] at h
  suffices hm : ∀ (H : Heap) (locs : List Loc), Wd D A s.heap (oc_X11 T a_o x_o ++ Z) H locs → W p l e (rmd 3) s m args below meth c H locs 0 0 Q (F0 m 0 ls []) from hm _ _ hW
  intro H locs hW
  refine lv_aload_n hx hb dX11_change_0 rfl (lv_at hl 0 rfl) ?_
  refine lv_aload_n hx hb dX11_change_1 rfl (lv_at hl 0 rfl) ?_
  refine lv_iload_n hx hb dX11_change_2 rfl (lv_at hl 1 rfl) ?_
  refine lv_iload_n hx hb dX11_change_3 rfl (lv_at hl 2 rfl) ?_
  obtain ⟨r1, q2, h⟩ := bnd1_s h
  refine cl_X11_198 hx hb hml hown hts hK hN hW (c_X11_isPlace l D T A a_o (Z) x_o p1 p2 r1 q2) ⟨Nat.le_of_ble_eq_true rfl, Nat.le_of_ble_eq_true rfl⟩ hl.1 rfl (Nat.le_of_ble_eq_true rfl) dX11_change_4 ⟨Nat.zero_le _, Nat.zero_le _⟩ rfl (fun H locs hW => ?_)
  refine lv_if_eq (tgt := 22) hx hb dX11_change_7 (by decide) (fun c3 => ?_) (fun c3 => ?_)
  · have h := ite_t c3 h
    exact J22 _ _ _ _ H locs ls hW (lv_sub hl [0, 1, 2, 3] rfl) h
  · have h := ite_f c3 h
    refine lv_aload_n hx hb dX11_change_10 rfl (lv_at hl 0 rfl) ?_
    refine lv_iload_n hx hb dX11_change_11 rfl (lv_at hl 3 rfl) ?_
    obtain ⟨r18, q19, h⟩ := bnd1_s h
    refine cl_X11_209 hx hb hml hown hts hK hN hW (c_X11_isWord l D T A a_o (Z) x_o p3 r18 q19) ⟨Nat.le_of_ble_eq_true rfl, Nat.le_of_ble_eq_true rfl⟩ hl.1 rfl (Nat.le_of_ble_eq_true rfl) dX11_change_12 ⟨Nat.zero_le _, Nat.zero_le _⟩ rfl (fun H locs hW => ?_)
    refine lv_if_eq (tgt := 22) hx hb dX11_change_15 (by decide) (fun c20 => ?_) (fun c20 => ?_)
    · have h := ite_t c20 h
      exact J22 _ _ _ _ H locs ls hW (lv_sub hl [0, 1, 2, 3] rfl) h
    · have h := ite_f c20 h
      refine lv_iconst (v := 1) hx hb dX11_change_18 (by decide) ?_
      refine lv_goto (tgt := 23) hx hb dX11_change_19 (by decide) ?_
      exact J23 _ _ _ _ _ H locs ls hW (lv_sub hl [0, 1, 2, 3] rfl) h
set_option maxHeartbeats 4000000 in
set_option maxRecDepth 100000 in
theorem c_X11_remove (l : Launch) (D : va_G) (T : Nat → ClassId) (A : Nat → Prop) (a_o : Nat → Nat) (Z : va_W)  (x_o : Ob) (p1 : Int32) (p2 : Int32) (r : Int32) (x_o9 : Ob) (h : f_X11_remove x_o p1 p2 = some (r, x_o9)) : Met l yX11_remove (Cond.code yX11_remove cX11_remove 5 (some .int) :: wsL_law) (rmd 3) (Pg D T A (oc_X11 T a_o x_o ++ Z) [.ref (a_o 0), .int p1, .int p2]) (Qgi D A (oc_X11 T a_o x_o9 ++ Z) r) 0 0 A := by
  refine Met.ofW (cc := cX11_remove) (maxL := 5) (ret := (some .int)) (by decide +kernel) rfl ?_
  intro p e s m args below meth c s₁ B hml hv
  obtain ⟨ha, hP, hK, hD, hN⟩ := hv
  have hx := B.exec
  have hb := B.bytes
  have hr := B.returns
  have hlk := B.notSynchronized
  have hts : ∀ w ∈ wsL_law, w.before args s = true := fun w hw => atoms_spec B.pre w (List.mem_cons_of_mem _ hw)
  have hown : s.vm.findClass RX11 = some m.cls := findClass_of_methodNamed B.named
  have hW : Wd D A s.heap (oc_X11 T a_o x_o ++ Z) s.heap [] := ⟨hP, hD, va_S.rf⟩
  have hl := lv_entry [.ref (a_o 0), .int p1, .int p2] (n := 5) (Nat.le_of_ble_eq_true rfl)
  refine W.eq (en_eq ha) ?_
  generalize (lg_sl [.ref (a_o 0), .int p1, .int p2] ++ List.replicate (5 - (lg_sl [.ref (a_o 0), .int p1, .int p2]).length) Slot.unset).toArray = ls at hl ⊢
  have hl : lv_has ls 5 [(0, .ref (a_o 0)), (1, .int p1), (2, .int p2)] := hl
  clear hP hD B ha
  obtain ⟨Q, hQ⟩ : ∃ Q, Q = MQ below (Qgi D A (oc_X11 T a_o x_o9 ++ Z) r) args s 0 0 A := ⟨_, rfl⟩
  rw [← hQ]
  change W p l e (rmd 3) s m args below meth c s.heap [] 0 0 Q (F0 m 0 ls [])
  have L30 : ∀ (n : Nat) (x_o_30 : Ob) (v1_30 : Int32) (v3_30 : Int32) (v4_30 : Int32) (H : Heap) (locs : List Loc) (ls : Array Slot) (o4_30r : Int32) (y_o_30r : Ob), Wd D A s.heap (oc_X11 T a_o x_o_30 ++ Z) H locs → lv_has ls 5 [(0, .ref (a_o 0)), (1, .int v1_30), (3, .int v3_30), (4, .int v4_30)] → f_X11_remove_L30 n x_o_30 v1_30 v3_30 v4_30 = some (o4_30r, y_o_30r) → (∀ (H : Heap) (locs : List Loc) (ls : Array Slot), Wd D A s.heap (oc_X11 T a_o y_o_30r ++ Z) H locs → lv_has ls 5 [(0, .ref (a_o 0)), (1, .int v1_30), (3, .int v3_30)] → W p l e (rmd 3) s m args below meth c H locs 0 0 Q (F0 m 75 ls [])) → W p l e (rmd 3) s m args below meth c H locs 0 0 Q (F0 m 30 ls []) := by
    intro n
    induction n with
    | zero =>
      intro x_o_30 v1_30 v3_30 v4_30 H locs ls o4_30r y_o_30r hW hl h k1
      rw [f_X11_remove_L30] at h
      cases h
    | succ n ih =>
      intro x_o_30 v1_30 v3_30 v4_30 H locs ls o4_30r y_o_30r hW hl h k1
      rw [f_X11_remove_L30] at h
      refine lv_iload hx hb dX11_remove_30 (lv_at hl 3 rfl) ?_
      refine lv_iconst (v := 1) hx hb dX11_remove_32 (by decide) ?_
      refine lv_iadd hx hb dX11_remove_33 ?_
      refine lv_aload_n hx hb dX11_remove_34 rfl (lv_at hl 0 rfl) ?_
      refine fg_X11_34 (v := .ref (a_o 9)) hx hb hts hown hK hW 0 rfl rfl dX11_remove_35 ?_
      refine lv_iload_n hx hb dX11_remove_38 rfl (lv_at hl 1 rfl) ?_
      obtain ⟨g9, h⟩ := grd_s h
      refine g_iald hx hb hK hW 9 rfl g9 dX11_remove_39 ?_
      refine lv_icmp_ge (tgt := 75) hx hb dX11_remove_40 (by decide) (fun c10 => ?_) (fun c10 => ?_)
      · have h := ite_t c10 h
        obtain ⟨rfl, rfl⟩ := ret2 h
        exact k1 H locs ls hW (lv_sub hl [0, 1, 2] rfl)
      · have h := ite_f c10 h
        refine lv_aload_n hx hb dX11_remove_43 rfl (lv_at hl 0 rfl) ?_
        refine fg_X11_37 (v := .ref (a_o 10)) hx hb hts hown hK hW 0 rfl rfl dX11_remove_44 ?_
        refine lv_bipush (v := 6) hx hb dX11_remove_47 (by decide) ?_
        refine lv_iload_n hx hb dX11_remove_49 rfl (lv_at hl 1 rfl) ?_
        refine lv_imul hx hb dX11_remove_50 ?_
        refine lv_iload hx hb dX11_remove_51 (lv_at hl 3 rfl) ?_
        refine lv_iadd hx hb dX11_remove_53 ?_
        refine lv_aload_n hx hb dX11_remove_54 rfl (lv_at hl 0 rfl) ?_
        refine fg_X11_37 (v := .ref (a_o 10)) hx hb hts hown hK hW 0 rfl rfl dX11_remove_55 ?_
        refine lv_bipush (v := 6) hx hb dX11_remove_58 (by decide) ?_
        refine lv_iload_n hx hb dX11_remove_60 rfl (lv_at hl 1 rfl) ?_
        refine lv_imul hx hb dX11_remove_61 ?_
        refine lv_iload hx hb dX11_remove_62 (lv_at hl 3 rfl) ?_
        refine lv_iadd hx hb dX11_remove_64 ?_
        refine lv_iconst (v := 1) hx hb dX11_remove_65 (by decide) ?_
        refine lv_iadd hx hb dX11_remove_66 ?_
        obtain ⟨g11, h⟩ := grd_s h
        refine g_iald hx hb hK hW 10 rfl g11 dX11_remove_67 ?_
        obtain ⟨g12, h⟩ := grd_s h
        refine g_iast (ws9 := oc_X11 T a_o (upo x_o_30 10 ((6 * v1_30) + v4_30).toNatClampNeg (x_o_30 10 (((6 * v1_30) + v4_30) + 1).toNatClampNeg)) ++ Z) hx hb hK hW 10 rfl g12 sa_X11_10 dX11_remove_68 (fun H locs hW => ?_)
        obtain ⟨x_o13, ex_o13⟩ : ∃ y : Ob, y = upo x_o_30 10 ((6 * v1_30) + v4_30).toNatClampNeg (x_o_30 10 (((6 * v1_30) + v4_30) + 1).toNatClampNeg) := ⟨_, rfl⟩
        rw [← ex_o13] at hW
        have h := lb_at ex_o13 h
        obtain ⟨w4_14, ew4_14⟩ : ∃ y : Int32, y = v4_30 + 1 := ⟨_, rfl⟩
        have h := lb_at ew4_14 h
        refine lv_iinc (v := w4_14) (lv' := [(4, .int w4_14), (0, .ref (a_o 0)), (1, .int v1_30), (3, .int v3_30)]) hx hb dX11_remove_69 hl (k := 3) rfl (by rw [ew4_14]; rfl) (by decide) rfl (fun ls hl => ?_)
        refine lv_goto (tgt := 30) hx hb dX11_remove_72 (by decide) ?_
        exact ih _ _ _ _ H locs ls _ _ hW (lv_sub hl [1, 2, 3, 0] rfl) h k1
  rw [f_X11_remove] at h
  suffices hm : ∀ (H : Heap) (locs : List Loc), Wd D A s.heap (oc_X11 T a_o x_o ++ Z) H locs → W p l e (rmd 3) s m args below meth c H locs 0 0 Q (F0 m 0 ls []) from hm _ _ hW
  intro H locs hW
  refine lv_aload_n hx hb dX11_remove_0 rfl (lv_at hl 0 rfl) ?_
  refine lv_aload_n hx hb dX11_remove_1 rfl (lv_at hl 0 rfl) ?_
  refine lv_iload_n hx hb dX11_remove_2 rfl (lv_at hl 1 rfl) ?_
  refine lv_iload_n hx hb dX11_remove_3 rfl (lv_at hl 2 rfl) ?_
  obtain ⟨r1, q2, h⟩ := bnd1_s h
  refine cl_X11_198 hx hb hml hown hts hK hN hW (c_X11_isPlace l D T A a_o (Z) x_o p1 p2 r1 q2) ⟨Nat.le_of_ble_eq_true rfl, Nat.le_of_ble_eq_true rfl⟩ hl.1 rfl (Nat.le_of_ble_eq_true rfl) dX11_remove_4 ⟨Nat.zero_le _, Nat.zero_le _⟩ rfl (fun H locs hW => ?_)
  obtain ⟨r3, x_o4, q5, h⟩ := bnd2_s h
  refine cl_X11_222 hx hb hml hown hts hK hN hW (c_X11_may l D T A a_o (Z) x_o r1 r3 x_o4 q5) ⟨Nat.le_of_ble_eq_true rfl, Nat.le_of_ble_eq_true rfl⟩ hl.1 rfl (Nat.le_of_ble_eq_true rfl) dX11_remove_7 ⟨Nat.zero_le _, Nat.zero_le _⟩ rfl (fun H locs hW => ?_)
  refine lv_if_ne (tgt := 15) hx hb dX11_remove_10 (by decide) (fun c6 => ?_) (fun c6 => ?_)
  · have h := ite_f c6 h
    refine lv_aload_n hx hb dX11_remove_15 rfl (lv_at hl 0 rfl) ?_
    refine fg_X11_37 (v := .ref (a_o 10)) hx hb hts hown hK hW 0 rfl rfl dX11_remove_16 ?_
    refine lv_bipush (v := 6) hx hb dX11_remove_19 (by decide) ?_
    refine lv_iload_n hx hb dX11_remove_21 rfl (lv_at hl 1 rfl) ?_
    refine lv_imul hx hb dX11_remove_22 ?_
    refine lv_iload_n hx hb dX11_remove_23 rfl (lv_at hl 2 rfl) ?_
    refine lv_iadd hx hb dX11_remove_24 ?_
    obtain ⟨g7, h⟩ := grd_s h
    refine g_iald hx hb hK hW 10 rfl g7 dX11_remove_25 ?_
    refine lv_topi (fun w3_8 ew3_8 => ?_)
    have h := lb_at ew3_8 h
    refine lv_istore_n (lv' := [(3, .int w3_8), (0, .ref (a_o 0)), (1, .int p1), (2, .int p2)]) hx hb dX11_remove_26 rfl hl (by decide) rfl (fun ls hl => ?_)
    refine lv_iload_n hx hb dX11_remove_27 rfl (lv_at hl 3 rfl) ?_
    refine lv_istore (lv' := [(4, .int p2), (3, .int w3_8), (0, .ref (a_o 0)), (1, .int p1), (2, .int p2)]) hx hb dX11_remove_28 hl (by decide) rfl (fun ls hl => ?_)
    obtain ⟨o4_u15, y_o_u15, q16, h⟩ := bnd2_s h
    refine L30 200 _ _ _ _ H locs ls o4_u15 y_o_u15 hW (lv_sub hl [2, 3, 1, 0] rfl) q16 (fun H locs ls hW hl => ?_)
    refine lv_aload_n hx hb dX11_remove_75 rfl (lv_at hl 0 rfl) ?_
    refine fg_X11_34 (v := .ref (a_o 9)) hx hb hts hown hK hW 0 rfl rfl dX11_remove_76 ?_
    refine lv_iload_n hx hb dX11_remove_79 rfl (lv_at hl 1 rfl) ?_
    refine lv_dup2_11 hx hb dX11_remove_80 rfl rfl ?_
    obtain ⟨g17, h⟩ := grd_s h
    refine g_iald hx hb hK hW 9 rfl g17 dX11_remove_81 ?_
    refine lv_iconst (v := 1) hx hb dX11_remove_82 (by decide) ?_
    refine lv_isub hx hb dX11_remove_83 ?_
    obtain ⟨g18, h⟩ := grd_s h
    refine g_iast (ws9 := oc_X11 T a_o (upo y_o_u15 9 p1.toNatClampNeg ((y_o_u15 9 p1.toNatClampNeg) - 1)) ++ Z) hx hb hK hW 9 rfl g18 sa_X11_9 dX11_remove_84 (fun H locs hW => ?_)
    obtain ⟨x_o19, ex_o19⟩ : ∃ y : Ob, y = upo y_o_u15 9 p1.toNatClampNeg ((y_o_u15 9 p1.toNatClampNeg) - 1) := ⟨_, rfl⟩
    rw [← ex_o19] at hW
    have h := lb_at ex_o19 h
    refine lv_aload_n hx hb dX11_remove_85 rfl (lv_at hl 0 rfl) ?_
    refine fg_X11_150 (v := .ref (a_o 47)) hx hb hts hown hK hW 0 rfl rfl dX11_remove_86 ?_
    refine lv_iload_n hx hb dX11_remove_89 rfl (lv_at hl 1 rfl) ?_
    refine lv_dup2_11 hx hb dX11_remove_90 rfl rfl ?_
    obtain ⟨g20, h⟩ := grd_s h
    refine g_iald hx hb hK hW 47 rfl g20 dX11_remove_91 ?_
    refine lv_iconst (v := 1) hx hb dX11_remove_92 (by decide) ?_
    refine lv_iadd hx hb dX11_remove_93 ?_
    obtain ⟨g21, h⟩ := grd_s h
    refine g_iast (ws9 := oc_X11 T a_o (upo x_o19 55 p1.toNatClampNeg ((x_o19 55 p1.toNatClampNeg) + 1)) ++ Z) hx hb hK hW 47 rfl g21 sa_X11_55 dX11_remove_94 (fun H locs hW => ?_)
    obtain ⟨x_o22, ex_o22⟩ : ∃ y : Ob, y = upo x_o19 55 p1.toNatClampNeg ((x_o19 55 p1.toNatClampNeg) + 1) := ⟨_, rfl⟩
    rw [← ex_o22] at hW
    have h := lb_at ex_o22 h
    refine lv_iload_n hx hb dX11_remove_95 rfl (lv_at hl 2 rfl) ?_
    obtain ⟨rfl, rfl⟩ := ret2 h
    rw [hQ]
    exact g_reti hx hb hr hlk hW dX11_remove_96
  · have h := ite_t c6 h
    refine lv_iconst (v := 0) hx hb dX11_remove_13 (by decide) ?_
    obtain ⟨rfl, rfl⟩ := ret2 h
    rw [hQ]
    exact g_reti hx hb hr hlk hW dX11_remove_14
set_option maxHeartbeats 4000000 in
set_option maxRecDepth 100000 in
theorem c_X11_length (l : Launch) (D : va_G) (T : Nat → ClassId) (A : Nat → Prop) (a_o : Nat → Nat) (Z : va_W)  (x_o : Ob) (p1 : Int32) (r : Int32) (x_o9 : Ob) (h : f_X11_length x_o p1 = some (r, x_o9)) : Met l yX11_length (Cond.code yX11_length cX11_length 2 (some .int) :: wsL_law) (rmd 2) (Pg D T A (oc_X11 T a_o x_o ++ Z) [.ref (a_o 0), .int p1]) (Qgi D A (oc_X11 T a_o x_o9 ++ Z) r) 0 0 A := by
  refine Met.ofW (cc := cX11_length) (maxL := 2) (ret := (some .int)) (by decide +kernel) rfl ?_
  intro p e s m args below meth c s₁ B hml hv
  obtain ⟨ha, hP, hK, hD, hN⟩ := hv
  have hx := B.exec
  have hb := B.bytes
  have hr := B.returns
  have hlk := B.notSynchronized
  have hts : ∀ w ∈ wsL_law, w.before args s = true := fun w hw => atoms_spec B.pre w (List.mem_cons_of_mem _ hw)
  have hown : s.vm.findClass RX11 = some m.cls := findClass_of_methodNamed B.named
  have hW : Wd D A s.heap (oc_X11 T a_o x_o ++ Z) s.heap [] := ⟨hP, hD, va_S.rf⟩
  have hl := lv_entry [.ref (a_o 0), .int p1] (n := 2) (Nat.le_of_ble_eq_true rfl)
  refine W.eq (en_eq ha) ?_
  generalize (lg_sl [.ref (a_o 0), .int p1] ++ List.replicate (2 - (lg_sl [.ref (a_o 0), .int p1]).length) Slot.unset).toArray = ls at hl ⊢
  have hl : lv_has ls 2 [(0, .ref (a_o 0)), (1, .int p1)] := hl
  clear hP hD B ha
  obtain ⟨Q, hQ⟩ : ∃ Q, Q = MQ below (Qgi D A (oc_X11 T a_o x_o9 ++ Z) r) args s 0 0 A := ⟨_, rfl⟩
  rw [← hQ]
  change W p l e (rmd 2) s m args below meth c s.heap [] 0 0 Q (F0 m 0 ls [])
  rw [f_X11_length] at h
  suffices hm : ∀ (H : Heap) (locs : List Loc), Wd D A s.heap (oc_X11 T a_o x_o ++ Z) H locs → W p l e (rmd 2) s m args below meth c H locs 0 0 Q (F0 m 0 ls []) from hm _ _ hW
  intro H locs hW
  refine lv_aload_n hx hb dX11_length_0 rfl (lv_at hl 0 rfl) ?_
  refine lv_iload_n hx hb dX11_length_1 rfl (lv_at hl 1 rfl) ?_
  obtain ⟨r1, q2, h⟩ := bnd1_s h
  refine cl_X11_194 hx hb hml hown hts hK hN hW (c_X11_isSentence l D T A (oc_X11 T a_o x_o ++ Z) p1 r1 q2) ⟨Nat.le_of_ble_eq_true rfl, Nat.le_of_ble_eq_true rfl⟩ hl.1 rfl (Nat.le_of_ble_eq_true rfl) dX11_length_2 ⟨Nat.zero_le _, Nat.zero_le _⟩ rfl (fun H locs hW => ?_)
  obtain ⟨r3, x_o4, q5, h⟩ := bnd2_s h
  refine cl_X11_222 hx hb hml hown hts hK hN hW (c_X11_may l D T A a_o (Z) x_o r1 r3 x_o4 q5) ⟨Nat.le_of_ble_eq_true rfl, Nat.le_of_ble_eq_true rfl⟩ hl.1 rfl (Nat.le_of_ble_eq_true rfl) dX11_length_5 ⟨Nat.zero_le _, Nat.zero_le _⟩ rfl (fun H locs hW => ?_)
  refine lv_if_eq (tgt := 20) hx hb dX11_length_8 (by decide) (fun c6 => ?_) (fun c6 => ?_)
  · have h := ite_t c6 h
    refine lv_iconst (v := 0) hx hb dX11_length_20 (by decide) ?_
    obtain ⟨rfl, rfl⟩ := ret2 h
    rw [hQ]
    exact g_reti hx hb hr hlk hW dX11_length_21
  · have h := ite_f c6 h
    refine lv_aload_n hx hb dX11_length_11 rfl (lv_at hl 0 rfl) ?_
    refine fg_X11_34 (v := .ref (a_o 9)) hx hb hts hown hK hW 0 rfl rfl dX11_length_12 ?_
    refine lv_iload_n hx hb dX11_length_15 rfl (lv_at hl 1 rfl) ?_
    obtain ⟨g7, h⟩ := grd_s h
    refine g_iald hx hb hK hW 9 rfl g7 dX11_length_16 ?_
    refine lv_goto (tgt := 21) hx hb dX11_length_17 (by decide) ?_
    obtain ⟨rfl, rfl⟩ := ret2 h
    rw [hQ]
    exact g_reti hx hb hr hlk hW dX11_length_21
set_option maxHeartbeats 4000000 in
set_option maxRecDepth 100000 in
theorem c_X11_wordAt (l : Launch) (D : va_G) (T : Nat → ClassId) (A : Nat → Prop) (a_o : Nat → Nat) (Z : va_W)  (x_o : Ob) (p1 : Int32) (p2 : Int32) (r : Int32) (x_o9 : Ob) (h : f_X11_wordAt x_o p1 p2 = some (r, x_o9)) : Met l yX11_wordAt (Cond.code yX11_wordAt cX11_wordAt 3 (some .int) :: wsL_law) (rmd 3) (Pg D T A (oc_X11 T a_o x_o ++ Z) [.ref (a_o 0), .int p1, .int p2]) (Qgi D A (oc_X11 T a_o x_o9 ++ Z) r) 0 0 A := by
  refine Met.ofW (cc := cX11_wordAt) (maxL := 3) (ret := (some .int)) (by decide +kernel) rfl ?_
  intro p e s m args below meth c s₁ B hml hv
  obtain ⟨ha, hP, hK, hD, hN⟩ := hv
  have hx := B.exec
  have hb := B.bytes
  have hr := B.returns
  have hlk := B.notSynchronized
  have hts : ∀ w ∈ wsL_law, w.before args s = true := fun w hw => atoms_spec B.pre w (List.mem_cons_of_mem _ hw)
  have hown : s.vm.findClass RX11 = some m.cls := findClass_of_methodNamed B.named
  have hW : Wd D A s.heap (oc_X11 T a_o x_o ++ Z) s.heap [] := ⟨hP, hD, va_S.rf⟩
  have hl := lv_entry [.ref (a_o 0), .int p1, .int p2] (n := 3) (Nat.le_of_ble_eq_true rfl)
  refine W.eq (en_eq ha) ?_
  generalize (lg_sl [.ref (a_o 0), .int p1, .int p2] ++ List.replicate (3 - (lg_sl [.ref (a_o 0), .int p1, .int p2]).length) Slot.unset).toArray = ls at hl ⊢
  have hl : lv_has ls 3 [(0, .ref (a_o 0)), (1, .int p1), (2, .int p2)] := hl
  clear hP hD B ha
  obtain ⟨Q, hQ⟩ : ∃ Q, Q = MQ below (Qgi D A (oc_X11 T a_o x_o9 ++ Z) r) args s 0 0 A := ⟨_, rfl⟩
  rw [← hQ]
  change W p l e (rmd 3) s m args below meth c s.heap [] 0 0 Q (F0 m 0 ls [])
  rw [f_X11_wordAt] at h
  suffices hm : ∀ (H : Heap) (locs : List Loc), Wd D A s.heap (oc_X11 T a_o x_o ++ Z) H locs → W p l e (rmd 3) s m args below meth c H locs 0 0 Q (F0 m 0 ls []) from hm _ _ hW
  intro H locs hW
  refine lv_aload_n hx hb dX11_wordAt_0 rfl (lv_at hl 0 rfl) ?_
  refine lv_aload_n hx hb dX11_wordAt_1 rfl (lv_at hl 0 rfl) ?_
  refine lv_iload_n hx hb dX11_wordAt_2 rfl (lv_at hl 1 rfl) ?_
  refine lv_iload_n hx hb dX11_wordAt_3 rfl (lv_at hl 2 rfl) ?_
  obtain ⟨r1, q2, h⟩ := bnd1_s h
  refine cl_X11_198 hx hb hml hown hts hK hN hW (c_X11_isPlace l D T A a_o (Z) x_o p1 p2 r1 q2) ⟨Nat.le_of_ble_eq_true rfl, Nat.le_of_ble_eq_true rfl⟩ hl.1 rfl (Nat.le_of_ble_eq_true rfl) dX11_wordAt_4 ⟨Nat.zero_le _, Nat.zero_le _⟩ rfl (fun H locs hW => ?_)
  obtain ⟨r3, x_o4, q5, h⟩ := bnd2_s h
  refine cl_X11_222 hx hb hml hown hts hK hN hW (c_X11_may l D T A a_o (Z) x_o r1 r3 x_o4 q5) ⟨Nat.le_of_ble_eq_true rfl, Nat.le_of_ble_eq_true rfl⟩ hl.1 rfl (Nat.le_of_ble_eq_true rfl) dX11_wordAt_7 ⟨Nat.zero_le _, Nat.zero_le _⟩ rfl (fun H locs hW => ?_)
  refine lv_if_eq (tgt := 27) hx hb dX11_wordAt_10 (by decide) (fun c6 => ?_) (fun c6 => ?_)
  · have h := ite_t c6 h
    refine lv_iconst (v := 0) hx hb dX11_wordAt_27 (by decide) ?_
    obtain ⟨rfl, rfl⟩ := ret2 h
    rw [hQ]
    exact g_reti hx hb hr hlk hW dX11_wordAt_28
  · have h := ite_f c6 h
    refine lv_aload_n hx hb dX11_wordAt_13 rfl (lv_at hl 0 rfl) ?_
    refine fg_X11_37 (v := .ref (a_o 10)) hx hb hts hown hK hW 0 rfl rfl dX11_wordAt_14 ?_
    refine lv_bipush (v := 6) hx hb dX11_wordAt_17 (by decide) ?_
    refine lv_iload_n hx hb dX11_wordAt_19 rfl (lv_at hl 1 rfl) ?_
    refine lv_imul hx hb dX11_wordAt_20 ?_
    refine lv_iload_n hx hb dX11_wordAt_21 rfl (lv_at hl 2 rfl) ?_
    refine lv_iadd hx hb dX11_wordAt_22 ?_
    obtain ⟨g7, h⟩ := grd_s h
    refine g_iald hx hb hK hW 10 rfl g7 dX11_wordAt_23 ?_
    refine lv_goto (tgt := 28) hx hb dX11_wordAt_24 (by decide) ?_
    obtain ⟨rfl, rfl⟩ := ret2 h
    rw [hQ]
    exact g_reti hx hb hr hlk hW dX11_wordAt_28
set_option maxHeartbeats 4000000 in
set_option maxRecDepth 100000 in
theorem c_X11_left (l : Launch) (D : va_G) (T : Nat → ClassId) (A : Nat → Prop) (a_o : Nat → Nat) (Z : va_W)  (x_o : Ob) (p1 : Int32) (p2 : Int32) (r : Int32) (x_o9 : Ob) (h : f_X11_left x_o p1 p2 = some (r, x_o9)) : Met l yX11_left (Cond.code yX11_left cX11_left 3 (some .int) :: wsL_law) (rmd 5) (Pg D T A (oc_X11 T a_o x_o ++ Z) [.ref (a_o 0), .int p1, .int p2]) (Qgi D A (oc_X11 T a_o x_o9 ++ Z) r) 0 0 A := by
  refine Met.ofW (cc := cX11_left) (maxL := 3) (ret := (some .int)) (by decide +kernel) rfl ?_
  intro p e s m args below meth c s₁ B hml hv
  obtain ⟨ha, hP, hK, hD, hN⟩ := hv
  have hx := B.exec
  have hb := B.bytes
  have hr := B.returns
  have hlk := B.notSynchronized
  have hts : ∀ w ∈ wsL_law, w.before args s = true := fun w hw => atoms_spec B.pre w (List.mem_cons_of_mem _ hw)
  have hown : s.vm.findClass RX11 = some m.cls := findClass_of_methodNamed B.named
  have hW : Wd D A s.heap (oc_X11 T a_o x_o ++ Z) s.heap [] := ⟨hP, hD, va_S.rf⟩
  have hl := lv_entry [.ref (a_o 0), .int p1, .int p2] (n := 3) (Nat.le_of_ble_eq_true rfl)
  refine W.eq (en_eq ha) ?_
  generalize (lg_sl [.ref (a_o 0), .int p1, .int p2] ++ List.replicate (3 - (lg_sl [.ref (a_o 0), .int p1, .int p2]).length) Slot.unset).toArray = ls at hl ⊢
  have hl : lv_has ls 3 [(0, .ref (a_o 0)), (1, .int p1), (2, .int p2)] := hl
  clear hP hD B ha
  obtain ⟨Q, hQ⟩ : ∃ Q, Q = MQ below (Qgi D A (oc_X11 T a_o x_o9 ++ Z) r) args s 0 0 A := ⟨_, rfl⟩
  rw [← hQ]
  change W p l e (rmd 5) s m args below meth c s.heap [] 0 0 Q (F0 m 0 ls [])
  rw [f_X11_left] at h
  suffices hm : ∀ (H : Heap) (locs : List Loc), Wd D A s.heap (oc_X11 T a_o x_o ++ Z) H locs → W p l e (rmd 5) s m args below meth c H locs 0 0 Q (F0 m 0 ls []) from hm _ _ hW
  intro H locs hW
  refine lv_aload_n hx hb dX11_left_0 rfl (lv_at hl 0 rfl) ?_
  refine lv_aload_n hx hb dX11_left_1 rfl (lv_at hl 0 rfl) ?_
  refine lv_iload_n hx hb dX11_left_2 rfl (lv_at hl 1 rfl) ?_
  refine lv_iload_n hx hb dX11_left_3 rfl (lv_at hl 2 rfl) ?_
  obtain ⟨r1, q2, h⟩ := bnd1_s h
  refine cl_X11_198 hx hb hml hown hts hK hN hW (c_X11_isPlace l D T A a_o (Z) x_o p1 p2 r1 q2) ⟨Nat.le_of_ble_eq_true rfl, Nat.le_of_ble_eq_true rfl⟩ hl.1 rfl (Nat.le_of_ble_eq_true rfl) dX11_left_4 ⟨Nat.zero_le _, Nat.zero_le _⟩ rfl (fun H locs hW => ?_)
  obtain ⟨r3, x_o4, q5, h⟩ := bnd2_s h
  refine cl_X11_222 hx hb hml hown hts hK hN hW (c_X11_may l D T A a_o (Z) x_o r1 r3 x_o4 q5) ⟨Nat.le_of_ble_eq_true rfl, Nat.le_of_ble_eq_true rfl⟩ hl.1 rfl (Nat.le_of_ble_eq_true rfl) dX11_left_7 ⟨Nat.zero_le _, Nat.zero_le _⟩ rfl (fun H locs hW => ?_)
  refine lv_if_ne (tgt := 15) hx hb dX11_left_10 (by decide) (fun c6 => ?_) (fun c6 => ?_)
  · have h := ite_f c6 h
    refine lv_aload_n hx hb dX11_left_15 rfl (lv_at hl 0 rfl) ?_
    refine lv_iload_n hx hb dX11_left_16 rfl (lv_at hl 1 rfl) ?_
    obtain ⟨x_o7, q8, h⟩ := bnd1_s h
    refine cl_X11_286 hx hb hml hown hts hK hN hW (c_X11_look l D T A a_o (Z) x_o4 p1 x_o7 q8) ⟨Nat.le_of_ble_eq_true rfl, Nat.le_of_ble_eq_true rfl⟩ hl.1 rfl (Nat.le_of_ble_eq_true rfl) dX11_left_17 ⟨Nat.zero_le _, Nat.zero_le _⟩ rfl (fun H locs hW => ?_)
    refine lv_aload_n hx hb dX11_left_20 rfl (lv_at hl 0 rfl) ?_
    refine fg_X11_40 (v := .ref (a_o 11)) hx hb hts hown hK hW 0 rfl rfl dX11_left_21 ?_
    refine lv_bipush (v := 6) hx hb dX11_left_24 (by decide) ?_
    refine lv_iload_n hx hb dX11_left_26 rfl (lv_at hl 1 rfl) ?_
    refine lv_imul hx hb dX11_left_27 ?_
    refine lv_iload_n hx hb dX11_left_28 rfl (lv_at hl 2 rfl) ?_
    refine lv_iadd hx hb dX11_left_29 ?_
    obtain ⟨g9, h⟩ := grd_s h
    refine g_iald hx hb hK hW 11 rfl g9 dX11_left_30 ?_
    obtain ⟨rfl, rfl⟩ := ret2 h
    rw [hQ]
    exact g_reti hx hb hr hlk hW dX11_left_31
  · have h := ite_t c6 h
    refine lv_iconst (v := 0) hx hb dX11_left_13 (by decide) ?_
    obtain ⟨rfl, rfl⟩ := ret2 h
    rw [hQ]
    exact g_reti hx hb hr hlk hW dX11_left_14
set_option maxHeartbeats 4000000 in
set_option maxRecDepth 100000 in
theorem c_X11_referent (l : Launch) (D : va_G) (T : Nat → ClassId) (A : Nat → Prop) (a_o : Nat → Nat) (Z : va_W)  (x_o : Ob) (p1 : Int32) (p2 : Int32) (r : Int32) (x_o9 : Ob) (h : f_X11_referent x_o p1 p2 = some (r, x_o9)) : Met l yX11_referent (Cond.code yX11_referent cX11_referent 3 (some .int) :: wsL_law) (rmd 5) (Pg D T A (oc_X11 T a_o x_o ++ Z) [.ref (a_o 0), .int p1, .int p2]) (Qgi D A (oc_X11 T a_o x_o9 ++ Z) r) 0 0 A := by
  refine Met.ofW (cc := cX11_referent) (maxL := 3) (ret := (some .int)) (by decide +kernel) rfl ?_
  intro p e s m args below meth c s₁ B hml hv
  obtain ⟨ha, hP, hK, hD, hN⟩ := hv
  have hx := B.exec
  have hb := B.bytes
  have hr := B.returns
  have hlk := B.notSynchronized
  have hts : ∀ w ∈ wsL_law, w.before args s = true := fun w hw => atoms_spec B.pre w (List.mem_cons_of_mem _ hw)
  have hown : s.vm.findClass RX11 = some m.cls := findClass_of_methodNamed B.named
  have hW : Wd D A s.heap (oc_X11 T a_o x_o ++ Z) s.heap [] := ⟨hP, hD, va_S.rf⟩
  have hl := lv_entry [.ref (a_o 0), .int p1, .int p2] (n := 3) (Nat.le_of_ble_eq_true rfl)
  refine W.eq (en_eq ha) ?_
  generalize (lg_sl [.ref (a_o 0), .int p1, .int p2] ++ List.replicate (3 - (lg_sl [.ref (a_o 0), .int p1, .int p2]).length) Slot.unset).toArray = ls at hl ⊢
  have hl : lv_has ls 3 [(0, .ref (a_o 0)), (1, .int p1), (2, .int p2)] := hl
  clear hP hD B ha
  obtain ⟨Q, hQ⟩ : ∃ Q, Q = MQ below (Qgi D A (oc_X11 T a_o x_o9 ++ Z) r) args s 0 0 A := ⟨_, rfl⟩
  rw [← hQ]
  change W p l e (rmd 5) s m args below meth c s.heap [] 0 0 Q (F0 m 0 ls [])
  rw [f_X11_referent] at h
  suffices hm : ∀ (H : Heap) (locs : List Loc), Wd D A s.heap (oc_X11 T a_o x_o ++ Z) H locs → W p l e (rmd 5) s m args below meth c H locs 0 0 Q (F0 m 0 ls []) from hm _ _ hW
  intro H locs hW
  refine lv_aload_n hx hb dX11_referent_0 rfl (lv_at hl 0 rfl) ?_
  refine lv_aload_n hx hb dX11_referent_1 rfl (lv_at hl 0 rfl) ?_
  refine lv_iload_n hx hb dX11_referent_2 rfl (lv_at hl 1 rfl) ?_
  refine lv_iload_n hx hb dX11_referent_3 rfl (lv_at hl 2 rfl) ?_
  obtain ⟨r1, q2, h⟩ := bnd1_s h
  refine cl_X11_198 hx hb hml hown hts hK hN hW (c_X11_isPlace l D T A a_o (Z) x_o p1 p2 r1 q2) ⟨Nat.le_of_ble_eq_true rfl, Nat.le_of_ble_eq_true rfl⟩ hl.1 rfl (Nat.le_of_ble_eq_true rfl) dX11_referent_4 ⟨Nat.zero_le _, Nat.zero_le _⟩ rfl (fun H locs hW => ?_)
  obtain ⟨r3, x_o4, q5, h⟩ := bnd2_s h
  refine cl_X11_222 hx hb hml hown hts hK hN hW (c_X11_may l D T A a_o (Z) x_o r1 r3 x_o4 q5) ⟨Nat.le_of_ble_eq_true rfl, Nat.le_of_ble_eq_true rfl⟩ hl.1 rfl (Nat.le_of_ble_eq_true rfl) dX11_referent_7 ⟨Nat.zero_le _, Nat.zero_le _⟩ rfl (fun H locs hW => ?_)
  refine lv_if_ne (tgt := 15) hx hb dX11_referent_10 (by decide) (fun c6 => ?_) (fun c6 => ?_)
  · have h := ite_f c6 h
    refine lv_aload_n hx hb dX11_referent_15 rfl (lv_at hl 0 rfl) ?_
    refine lv_iload_n hx hb dX11_referent_16 rfl (lv_at hl 1 rfl) ?_
    obtain ⟨x_o7, q8, h⟩ := bnd1_s h
    refine cl_X11_286 hx hb hml hown hts hK hN hW (c_X11_look l D T A a_o (Z) x_o4 p1 x_o7 q8) ⟨Nat.le_of_ble_eq_true rfl, Nat.le_of_ble_eq_true rfl⟩ hl.1 rfl (Nat.le_of_ble_eq_true rfl) dX11_referent_17 ⟨Nat.zero_le _, Nat.zero_le _⟩ rfl (fun H locs hW => ?_)
    refine lv_aload_n hx hb dX11_referent_20 rfl (lv_at hl 0 rfl) ?_
    refine fg_X11_43 (v := .ref (a_o 12)) hx hb hts hown hK hW 0 rfl rfl dX11_referent_21 ?_
    refine lv_bipush (v := 6) hx hb dX11_referent_24 (by decide) ?_
    refine lv_iload_n hx hb dX11_referent_26 rfl (lv_at hl 1 rfl) ?_
    refine lv_imul hx hb dX11_referent_27 ?_
    refine lv_iload_n hx hb dX11_referent_28 rfl (lv_at hl 2 rfl) ?_
    refine lv_iadd hx hb dX11_referent_29 ?_
    obtain ⟨g9, h⟩ := grd_s h
    refine g_iald hx hb hK hW 12 rfl g9 dX11_referent_30 ?_
    obtain ⟨rfl, rfl⟩ := ret2 h
    rw [hQ]
    exact g_reti hx hb hr hlk hW dX11_referent_31
  · have h := ite_t c6 h
    refine lv_iconst (v := 0) hx hb dX11_referent_13 (by decide) ?_
    obtain ⟨rfl, rfl⟩ := ret2 h
    rw [hQ]
    exact g_reti hx hb hr hlk hW dX11_referent_14
set_option maxHeartbeats 4000000 in
set_option maxRecDepth 100000 in
theorem c_X11_isPart (l : Launch) (D : va_G) (T : Nat → ClassId) (A : Nat → Prop)  (Z : va_W)  (p1 : Int32) (r : Int32) (h : f_X11_isPart p1 = some r) : Met l yX11_isPart (Cond.code yX11_isPart cX11_isPart 1 (some .boolean) :: wsL_law) (rmd 2) (Pg D T A (Z) [.int p1]) (Qgi D A (Z) r) 0 0 A := by
  refine Met.ofW (cc := cX11_isPart) (maxL := 1) (ret := (some .boolean)) (by decide +kernel) rfl ?_
  intro p e s m args below meth c s₁ B hml hv
  obtain ⟨ha, hP, hK, hD, hN⟩ := hv
  have hx := B.exec
  have hb := B.bytes
  have hr := B.returns
  have hlk := B.notSynchronized
  have hts : ∀ w ∈ wsL_law, w.before args s = true := fun w hw => atoms_spec B.pre w (List.mem_cons_of_mem _ hw)
  have hown : s.vm.findClass RX11 = some m.cls := findClass_of_methodNamed B.named
  have hW : Wd D A s.heap (Z) s.heap [] := ⟨hP, hD, va_S.rf⟩
  have hl := lv_entry [.int p1] (n := 1) (Nat.le_of_ble_eq_true rfl)
  refine W.eq (en_eq ha) ?_
  generalize (lg_sl [.int p1] ++ List.replicate (1 - (lg_sl [.int p1]).length) Slot.unset).toArray = ls at hl ⊢
  have hl : lv_has ls 1 [(0, .int p1)] := hl
  clear hP hD B ha
  obtain ⟨Q, hQ⟩ : ∃ Q, Q = MQ below (Qgi D A (Z) r) args s 0 0 A := ⟨_, rfl⟩
  rw [← hQ]
  change W p l e (rmd 2) s m args below meth c s.heap [] 0 0 Q (F0 m 0 ls [])
  rw [f_X11_isPart] at h
  suffices hm : ∀ (H : Heap) (locs : List Loc), Wd D A s.heap (Z) H locs → W p l e (rmd 2) s m args below meth c H locs 0 0 Q (F0 m 0 ls []) from hm _ _ hW
  intro H locs hW
  refine lv_iload_n hx hb dX11_isPart_0 rfl (lv_at hl 0 rfl) ?_
  refine lv_iconst (v := (-1)) hx hb dX11_isPart_1 (by decide) ?_
  refine lv_icmp_eq (tgt := 12) hx hb dX11_isPart_2 (by decide) (fun c1 => ?_) (fun c1 => ?_)
  · have h := ite_t c1 h
    refine lv_iconst (v := 1) hx hb dX11_isPart_12 (by decide) ?_
    refine lv_goto (tgt := 17) hx hb dX11_isPart_13 (by decide) ?_
    obtain rfl := ret1 h
    rw [hQ]
    exact g_retz hx hb hr hlk hW (by decide) dX11_isPart_17
  · have h := ite_f c1 h
    refine lv_iload_n hx hb dX11_isPart_5 rfl (lv_at hl 0 rfl) ?_
    obtain ⟨r2, q3, h⟩ := bnd1_s h
    refine cl_X11_202 hx hb hml hown hts hK hN hW (c_X11_isDigit l D T A (Z) p1 r2 q3) ⟨Nat.le_of_ble_eq_true rfl, Nat.le_of_ble_eq_true rfl⟩ hl.1 rfl (Nat.le_of_ble_eq_true rfl) dX11_isPart_6 ⟨Nat.zero_le _, Nat.zero_le _⟩ rfl (fun H locs hW => ?_)
    refine lv_if_eq (tgt := 16) hx hb dX11_isPart_9 (by decide) (fun c4 => ?_) (fun c4 => ?_)
    · have h := ite_t c4 h
      refine lv_iconst (v := 0) hx hb dX11_isPart_16 (by decide) ?_
      obtain rfl := ret1 h
      rw [hQ]
      exact g_retz hx hb hr hlk hW (by decide) dX11_isPart_17
    · have h := ite_f c4 h
      refine lv_iconst (v := 1) hx hb dX11_isPart_12 (by decide) ?_
      refine lv_goto (tgt := 17) hx hb dX11_isPart_13 (by decide) ?_
      obtain rfl := ret1 h
      rw [hQ]
      exact g_retz hx hb hr hlk hW (by decide) dX11_isPart_17
set_option maxHeartbeats 4000000 in
set_option maxRecDepth 100000 in
theorem c_X11_pattern (l : Launch) (D : va_G) (T : Nat → ClassId) (A : Nat → Prop) (a_o : Nat → Nat) (Z : va_W)  (x_o : Ob) (p1 : Int32) (p2 : Int32) (p3 : Int32) (p4 : Int32) (r : Int32) (x_o9 : Ob) (h : f_X11_pattern x_o p1 p2 p3 p4 = some (r, x_o9)) : Met l yX11_pattern (Cond.code yX11_pattern cX11_pattern 6 (some .int) :: wsL_law) (rmd 3) (Pg D T A (oc_X11 T a_o x_o ++ Z) [.ref (a_o 0), .int p1, .int p2, .int p3, .int p4]) (Qgi D A (oc_X11 T a_o x_o9 ++ Z) r) 0 0 A := by
  refine Met.ofW (cc := cX11_pattern) (maxL := 6) (ret := (some .int)) (by decide +kernel) rfl ?_
  intro p e s m args below meth c s₁ B hml hv
  obtain ⟨ha, hP, hK, hD, hN⟩ := hv
  have hx := B.exec
  have hb := B.bytes
  have hr := B.returns
  have hlk := B.notSynchronized
  have hts : ∀ w ∈ wsL_law, w.before args s = true := fun w hw => atoms_spec B.pre w (List.mem_cons_of_mem _ hw)
  have hown : s.vm.findClass RX11 = some m.cls := findClass_of_methodNamed B.named
  have hW : Wd D A s.heap (oc_X11 T a_o x_o ++ Z) s.heap [] := ⟨hP, hD, va_S.rf⟩
  have hl := lv_entry [.ref (a_o 0), .int p1, .int p2, .int p3, .int p4] (n := 6) (Nat.le_of_ble_eq_true rfl)
  refine W.eq (en_eq ha) ?_
  generalize (lg_sl [.ref (a_o 0), .int p1, .int p2, .int p3, .int p4] ++ List.replicate (6 - (lg_sl [.ref (a_o 0), .int p1, .int p2, .int p3, .int p4]).length) Slot.unset).toArray = ls at hl ⊢
  have hl : lv_has ls 6 [(0, .ref (a_o 0)), (1, .int p1), (2, .int p2), (3, .int p3), (4, .int p4)] := hl
  clear hP hD B ha
  obtain ⟨Q, hQ⟩ : ∃ Q, Q = MQ below (Qgi D A (oc_X11 T a_o x_o9 ++ Z) r) args s 0 0 A := ⟨_, rfl⟩
  rw [← hQ]
  change W p l e (rmd 3) s m args below meth c s.heap [] 0 0 Q (F0 m 0 ls [])
  have J81 : ∀ (x_o_81 : Ob) (v1_81 : Int32) (v2_81 : Int32) (v3_81 : Int32) (v4_81 : Int32) (s1_81 : Int32) (s2_81 : Int32) (s3_81 : Int32) (H : Heap) (locs : List Loc) (ls : Array Slot), Wd D A s.heap (oc_X11 T a_o x_o_81 ++ Z) H locs → lv_has ls 6 [(0, .ref (a_o 0)), (1, .int v1_81), (2, .int v2_81), (3, .int v3_81), (4, .int v4_81)] → f_X11_pattern_J81 x_o_81 v1_81 v2_81 v3_81 v4_81 s1_81 s2_81 s3_81 = some (r, x_o9) → W p l e (rmd 3) s m args below meth c H locs 0 0 Q (F0 m 81 ls [.int s3_81, .int s2_81, .int s1_81, .ref (a_o 0)]) := by
    intro x_o_81 v1_81 v2_81 v3_81 v4_81 s1_81 s2_81 s3_81 H locs ls hW hl h
    rw [f_X11_pattern_J81] at h
    obtain ⟨r6, x_o7, q8, h⟩ := bnd2_s h
    refine cl_X11_215 hx hb hml hown hts hK hN hW (c_X11_mayAll l D T A a_o (Z) x_o_81 s1_81 s2_81 s3_81 r6 x_o7 q8) ⟨Nat.le_of_ble_eq_true rfl, Nat.le_of_ble_eq_true rfl⟩ hl.1 rfl (Nat.le_of_ble_eq_true rfl) dX11_pattern_81 ⟨Nat.zero_le _, Nat.zero_le _⟩ rfl (fun H locs hW => ?_)
    refine lv_if_ne (tgt := 89) hx hb dX11_pattern_84 (by decide) (fun c9 => ?_) (fun c9 => ?_)
    · have h := ite_f c9 h
      refine lv_aload_n hx hb dX11_pattern_89 rfl (lv_at hl 0 rfl) ?_
      refine fg_X11_162 (v := .ref (a_o 51)) hx hb hts hown hK hW 0 rfl rfl dX11_pattern_90 ?_
      refine lv_aload_n hx hb dX11_pattern_93 rfl (lv_at hl 0 rfl) ?_
      refine fg_X11_351 (v := .int (x_o7 59 0)) hx hb hts hown hK hW 0 rfl rfl dX11_pattern_94 ?_
      refine lv_iload_n hx hb dX11_pattern_97 rfl (lv_at hl 1 rfl) ?_
      obtain ⟨g10, h⟩ := grd_s h
      refine g_iast (ws9 := oc_X11 T a_o (upo x_o7 60 (x_o7 59 0).toNatClampNeg v1_81) ++ Z) hx hb hK hW 51 rfl g10 sa_X11_60 dX11_pattern_98 (fun H locs hW => ?_)
      obtain ⟨x_o11, ex_o11⟩ : ∃ y : Ob, y = upo x_o7 60 (x_o7 59 0).toNatClampNeg v1_81 := ⟨_, rfl⟩
      rw [← ex_o11] at hW
      have h := lb_at ex_o11 h
      refine lv_aload_n hx hb dX11_pattern_99 rfl (lv_at hl 0 rfl) ?_
      refine fg_X11_165 (v := .ref (a_o 52)) hx hb hts hown hK hW 0 rfl rfl dX11_pattern_100 ?_
      refine lv_aload_n hx hb dX11_pattern_103 rfl (lv_at hl 0 rfl) ?_
      refine fg_X11_351 (v := .int (x_o11 59 0)) hx hb hts hown hK hW 0 rfl rfl dX11_pattern_104 ?_
      refine lv_iload_n hx hb dX11_pattern_107 rfl (lv_at hl 2 rfl) ?_
      obtain ⟨g12, h⟩ := grd_s h
      refine g_iast (ws9 := oc_X11 T a_o (upo x_o11 61 (x_o11 59 0).toNatClampNeg v2_81) ++ Z) hx hb hK hW 52 rfl g12 sa_X11_61 dX11_pattern_108 (fun H locs hW => ?_)
      obtain ⟨x_o13, ex_o13⟩ : ∃ y : Ob, y = upo x_o11 61 (x_o11 59 0).toNatClampNeg v2_81 := ⟨_, rfl⟩
      rw [← ex_o13] at hW
      have h := lb_at ex_o13 h
      refine lv_aload_n hx hb dX11_pattern_109 rfl (lv_at hl 0 rfl) ?_
      refine fg_X11_168 (v := .ref (a_o 53)) hx hb hts hown hK hW 0 rfl rfl dX11_pattern_110 ?_
      refine lv_aload_n hx hb dX11_pattern_113 rfl (lv_at hl 0 rfl) ?_
      refine fg_X11_351 (v := .int (x_o13 59 0)) hx hb hts hown hK hW 0 rfl rfl dX11_pattern_114 ?_
      refine lv_iload_n hx hb dX11_pattern_117 rfl (lv_at hl 3 rfl) ?_
      obtain ⟨g14, h⟩ := grd_s h
      refine g_iast (ws9 := oc_X11 T a_o (upo x_o13 62 (x_o13 59 0).toNatClampNeg v3_81) ++ Z) hx hb hK hW 53 rfl g14 sa_X11_62 dX11_pattern_118 (fun H locs hW => ?_)
      obtain ⟨x_o15, ex_o15⟩ : ∃ y : Ob, y = upo x_o13 62 (x_o13 59 0).toNatClampNeg v3_81 := ⟨_, rfl⟩
      rw [← ex_o15] at hW
      have h := lb_at ex_o15 h
      refine lv_aload_n hx hb dX11_pattern_119 rfl (lv_at hl 0 rfl) ?_
      refine fg_X11_171 (v := .ref (a_o 54)) hx hb hts hown hK hW 0 rfl rfl dX11_pattern_120 ?_
      refine lv_aload_n hx hb dX11_pattern_123 rfl (lv_at hl 0 rfl) ?_
      refine fg_X11_351 (v := .int (x_o15 59 0)) hx hb hts hown hK hW 0 rfl rfl dX11_pattern_124 ?_
      refine lv_iload hx hb dX11_pattern_127 (lv_at hl 4 rfl) ?_
      obtain ⟨g16, h⟩ := grd_s h
      refine g_iast (ws9 := oc_X11 T a_o (upo x_o15 63 (x_o15 59 0).toNatClampNeg v4_81) ++ Z) hx hb hK hW 54 rfl g16 sa_X11_63 dX11_pattern_129 (fun H locs hW => ?_)
      obtain ⟨x_o17, ex_o17⟩ : ∃ y : Ob, y = upo x_o15 63 (x_o15 59 0).toNatClampNeg v4_81 := ⟨_, rfl⟩
      rw [← ex_o17] at hW
      have h := lb_at ex_o17 h
      refine lv_aload_n hx hb dX11_pattern_130 rfl (lv_at hl 0 rfl) ?_
      refine lv_dup hx hb dX11_pattern_131 rfl ?_
      refine fg_X11_351 (v := .int (x_o17 59 0)) hx hb hts hown hK hW 0 rfl rfl dX11_pattern_132 ?_
      refine lv_iconst (v := 1) hx hb dX11_pattern_135 (by decide) ?_
      refine lv_iadd hx hb dX11_pattern_136 ?_
      refine fp_X11_351 (ws9 := oc_X11 T a_o (upo x_o17 59 0 ((x_o17 59 0) + 1)) ++ Z) hx hb hts hown hK hW 0 rfl (Nat.le_of_ble_eq_true rfl) sf_X11_59 dX11_pattern_137 (fun H locs hW => ?_)
      obtain ⟨x_o18, ex_o18⟩ : ∃ y : Ob, y = upo x_o17 59 0 ((x_o17 59 0) + 1) := ⟨_, rfl⟩
      rw [← ex_o18] at hW
      have h := lb_at ex_o18 h
      refine lv_aload_n hx hb dX11_pattern_140 rfl (lv_at hl 0 rfl) ?_
      refine fg_X11_351 (v := .int (x_o18 59 0)) hx hb hts hown hK hW 0 rfl rfl dX11_pattern_141 ?_
      refine lv_iconst (v := 1) hx hb dX11_pattern_144 (by decide) ?_
      refine lv_isub hx hb dX11_pattern_145 ?_
      obtain ⟨rfl, rfl⟩ := ret2 h
      rw [hQ]
      exact g_reti hx hb hr hlk hW dX11_pattern_146
    · have h := ite_t c9 h
      refine lv_iconst (v := 0) hx hb dX11_pattern_87 (by decide) ?_
      obtain ⟨rfl, rfl⟩ := ret2 h
      rw [hQ]
      exact g_reti hx hb hr hlk hW dX11_pattern_88
  have J65 : ∀ (x_o_65 : Ob) (v1_65 : Int32) (v2_65 : Int32) (v3_65 : Int32) (v4_65 : Int32) (v5_65 : Int32) (s1_65 : Int32) (H : Heap) (locs : List Loc) (ls : Array Slot), Wd D A s.heap (oc_X11 T a_o x_o_65 ++ Z) H locs → lv_has ls 6 [(0, .ref (a_o 0)), (1, .int v1_65), (2, .int v2_65), (3, .int v3_65), (4, .int v4_65), (5, .int v5_65)] → f_X11_pattern_J65 x_o_65 v1_65 v2_65 v3_65 v4_65 v5_65 s1_65 = some (r, x_o9) → W p l e (rmd 3) s m args below meth c H locs 0 0 Q (F0 m 65 ls [.int s1_65, .ref (a_o 0)]) := by
    intro x_o_65 v1_65 v2_65 v3_65 v4_65 v5_65 s1_65 H locs ls hW hl h
    rw [f_X11_pattern_J65] at h
    refine lv_iload hx hb dX11_pattern_65 (lv_at hl 5 rfl) ?_
    refine lv_aload_n hx hb dX11_pattern_67 rfl (lv_at hl 0 rfl) ?_
    refine fg_X11_351 (v := .int (x_o_65 59 0)) hx hb hts hown hK hW 0 rfl rfl dX11_pattern_68 ?_
    refine lv_bipush (v := 12) hx hb dX11_pattern_71 (by decide) ?_
    refine lv_icmp_ge (tgt := 80) hx hb dX11_pattern_73 (by decide) (fun c5 => ?_) (fun c5 => ?_)
    · have h := ite_t c5 h
      refine lv_iconst (v := 0) hx hb dX11_pattern_80 (by decide) ?_
      exact J81 _ _ _ _ _ _ _ _ H locs ls hW (lv_sub hl [0, 1, 2, 3, 4] rfl) h
    · have h := ite_f c5 h
      refine lv_iconst (v := 1) hx hb dX11_pattern_76 (by decide) ?_
      refine lv_goto (tgt := 81) hx hb dX11_pattern_77 (by decide) ?_
      exact J81 _ _ _ _ _ _ _ _ H locs ls hW (lv_sub hl [0, 1, 2, 3, 4] rfl) h
  have J60 : ∀ (x_o_60 : Ob) (v1_60 : Int32) (v2_60 : Int32) (v3_60 : Int32) (v4_60 : Int32) (v5_60 : Int32) (H : Heap) (locs : List Loc) (ls : Array Slot), Wd D A s.heap (oc_X11 T a_o x_o_60 ++ Z) H locs → lv_has ls 6 [(0, .ref (a_o 0)), (1, .int v1_60), (2, .int v2_60), (3, .int v3_60), (4, .int v4_60), (5, .int v5_60)] → f_X11_pattern_J60 x_o_60 v1_60 v2_60 v3_60 v4_60 v5_60 = some (r, x_o9) → W p l e (rmd 3) s m args below meth c H locs 0 0 Q (F0 m 60 ls [.ref (a_o 0)]) := by
    intro x_o_60 v1_60 v2_60 v3_60 v4_60 v5_60 H locs ls hW hl h
    rw [f_X11_pattern_J60] at h
    refine lv_iconst (v := 1) hx hb dX11_pattern_60 (by decide) ?_
    refine lv_goto (tgt := 65) hx hb dX11_pattern_61 (by decide) ?_
    exact J65 _ _ _ _ _ _ _ H locs ls hW (lv_sub hl [0, 1, 2, 3, 4, 5] rfl) h
  have J36 : ∀ (x_o_36 : Ob) (v1_36 : Int32) (v2_36 : Int32) (v3_36 : Int32) (v4_36 : Int32) (s0_36 : Int32) (H : Heap) (locs : List Loc) (ls : Array Slot), Wd D A s.heap (oc_X11 T a_o x_o_36 ++ Z) H locs → lv_has ls 6 [(0, .ref (a_o 0)), (1, .int v1_36), (2, .int v2_36), (3, .int v3_36), (4, .int v4_36)] → f_X11_pattern_J36 x_o_36 v1_36 v2_36 v3_36 v4_36 s0_36 = some (r, x_o9) → W p l e (rmd 3) s m args below meth c H locs 0 0 Q (F0 m 36 ls [.int s0_36]) := by
    intro x_o_36 v1_36 v2_36 v3_36 v4_36 s0_36 H locs ls hW hl h
    rw [f_X11_pattern_J36] at h
    refine lv_istore (lv' := [(5, .int s0_36), (0, .ref (a_o 0)), (1, .int v1_36), (2, .int v2_36), (3, .int v3_36), (4, .int v4_36)]) hx hb dX11_pattern_36 hl (by decide) rfl (fun ls hl => ?_)
    refine lv_aload_n hx hb dX11_pattern_38 rfl (lv_at hl 1 rfl) ?_
    refine lv_iload hx hb dX11_pattern_39 (lv_at hl 5 rfl) ?_
    refine lv_iconst (v := (-1)) hx hb dX11_pattern_41 (by decide) ?_
    refine lv_icmp_eq (tgt := 60) hx hb dX11_pattern_42 (by decide) (fun c4 => ?_) (fun c4 => ?_)
    · have h := ite_t c4 h
      exact J60 _ _ _ _ _ _ H locs ls hW (lv_sub hl [1, 2, 3, 4, 5, 0] rfl) h
    · have h := ite_f c4 h
      refine lv_iload hx hb dX11_pattern_45 (lv_at hl 5 rfl) ?_
      refine lv_iconst (v := 0) hx hb dX11_pattern_47 (by decide) ?_
      refine lv_aload_n hx hb dX11_pattern_48 rfl (lv_at hl 1 rfl) ?_
      refine fg_X11_351 (v := .int (x_o_36 59 0)) hx hb hts hown hK hW 0 rfl rfl dX11_pattern_49 ?_
      refine lv_iconst (v := 1) hx hb dX11_pattern_52 (by decide) ?_
      refine lv_isub hx hb dX11_pattern_53 ?_
      obtain ⟨r19, q20, h⟩ := bnd1_s h
      refine cl_X11_187 hx hb hml hown hts hK hN hW (c_X11_isIn l D T A (oc_X11 T a_o x_o_36 ++ Z) v4_36 0 ((x_o_36 59 0) - 1) r19 q20) ⟨Nat.le_of_ble_eq_true rfl, Nat.le_of_ble_eq_true rfl⟩ hl.1 rfl (Nat.le_of_ble_eq_true rfl) dX11_pattern_54 ⟨Nat.zero_le _, Nat.zero_le _⟩ rfl (fun H locs hW => ?_)
      refine lv_if_eq (tgt := 64) hx hb dX11_pattern_57 (by decide) (fun c21 => ?_) (fun c21 => ?_)
      · have h := ite_t c21 h
        refine lv_iconst (v := 0) hx hb dX11_pattern_64 (by decide) ?_
        exact J65 _ _ _ _ _ _ _ H locs ls hW (lv_sub hl [1, 2, 3, 4, 5, 0] rfl) h
      · have h := ite_f c21 h
        exact J60 _ _ _ _ _ _ H locs ls hW (lv_sub hl [1, 2, 3, 4, 5, 0] rfl) h
  have J35 : ∀ (x_o_35 : Ob) (v1_35 : Int32) (v2_35 : Int32) (v3_35 : Int32) (v4_35 : Int32) (H : Heap) (locs : List Loc) (ls : Array Slot), Wd D A s.heap (oc_X11 T a_o x_o_35 ++ Z) H locs → lv_has ls 6 [(0, .ref (a_o 0)), (1, .int v1_35), (2, .int v2_35), (3, .int v3_35), (4, .int v4_35)] → f_X11_pattern_J35 x_o_35 v1_35 v2_35 v3_35 v4_35 = some (r, x_o9) → W p l e (rmd 3) s m args below meth c H locs 0 0 Q (F0 m 35 ls []) := by
    intro x_o_35 v1_35 v2_35 v3_35 v4_35 H locs ls hW hl h
    rw [f_X11_pattern_J35] at h
    refine lv_iconst (v := 0) hx hb dX11_pattern_35 (by decide) ?_
    exact J36 _ _ _ _ _ _ H locs ls hW (lv_sub hl [0, 1, 2, 3, 4] rfl) h
  have J31 : ∀ (x_o_31 : Ob) (v1_31 : Int32) (v2_31 : Int32) (v3_31 : Int32) (v4_31 : Int32) (H : Heap) (locs : List Loc) (ls : Array Slot), Wd D A s.heap (oc_X11 T a_o x_o_31 ++ Z) H locs → lv_has ls 6 [(0, .ref (a_o 0)), (1, .int v1_31), (2, .int v2_31), (3, .int v3_31), (4, .int v4_31)] → f_X11_pattern_J31 x_o_31 v1_31 v2_31 v3_31 v4_31 = some (r, x_o9) → W p l e (rmd 3) s m args below meth c H locs 0 0 Q (F0 m 31 ls []) := by
    intro x_o_31 v1_31 v2_31 v3_31 v4_31 H locs ls hW hl h
    rw [f_X11_pattern_J31] at h
    refine lv_iconst (v := 1) hx hb dX11_pattern_31 (by decide) ?_
    refine lv_goto (tgt := 36) hx hb dX11_pattern_32 (by decide) ?_
    exact J36 _ _ _ _ _ _ H locs ls hW (lv_sub hl [0, 1, 2, 3, 4] rfl) h
  rw [f_X11_pattern] at h
  suffices hm : ∀ (H : Heap) (locs : List Loc), Wd D A s.heap (oc_X11 T a_o x_o ++ Z) H locs → W p l e (rmd 3) s m args below meth c H locs 0 0 Q (F0 m 0 ls []) from hm _ _ hW
  intro H locs hW
  refine lv_iload_n hx hb dX11_pattern_0 rfl (lv_at hl 1 rfl) ?_
  obtain ⟨r1, q2, h⟩ := bnd1_s h
  refine cl_X11_202 hx hb hml hown hts hK hN hW (c_X11_isDigit l D T A (oc_X11 T a_o x_o ++ Z) p1 r1 q2) ⟨Nat.le_of_ble_eq_true rfl, Nat.le_of_ble_eq_true rfl⟩ hl.1 rfl (Nat.le_of_ble_eq_true rfl) dX11_pattern_1 ⟨Nat.zero_le _, Nat.zero_le _⟩ rfl (fun H locs hW => ?_)
  refine lv_if_eq (tgt := 35) hx hb dX11_pattern_4 (by decide) (fun c3 => ?_) (fun c3 => ?_)
  · have h := ite_t c3 h
    exact J35 _ _ _ _ _ H locs ls hW (lv_sub hl [0, 1, 2, 3, 4] rfl) h
  · have h := ite_f c3 h
    refine lv_iload_n hx hb dX11_pattern_7 rfl (lv_at hl 2 rfl) ?_
    obtain ⟨r22, q23, h⟩ := bnd1_s h
    refine cl_X11_348 hx hb hml hown hts hK hN hW (c_X11_isPart l D T A (oc_X11 T a_o x_o ++ Z) p2 r22 q23) ⟨Nat.le_of_ble_eq_true rfl, Nat.le_of_ble_eq_true rfl⟩ hl.1 rfl (Nat.le_of_ble_eq_true rfl) dX11_pattern_8 ⟨Nat.zero_le _, Nat.zero_le _⟩ rfl (fun H locs hW => ?_)
    refine lv_if_eq (tgt := 35) hx hb dX11_pattern_11 (by decide) (fun c24 => ?_) (fun c24 => ?_)
    · have h := ite_t c24 h
      exact J35 _ _ _ _ _ H locs ls hW (lv_sub hl [0, 1, 2, 3, 4] rfl) h
    · have h := ite_f c24 h
      refine lv_iload_n hx hb dX11_pattern_14 rfl (lv_at hl 3 rfl) ?_
      obtain ⟨r25, q26, h⟩ := bnd1_s h
      refine cl_X11_348 hx hb hml hown hts hK hN hW (c_X11_isPart l D T A (oc_X11 T a_o x_o ++ Z) p3 r25 q26) ⟨Nat.le_of_ble_eq_true rfl, Nat.le_of_ble_eq_true rfl⟩ hl.1 rfl (Nat.le_of_ble_eq_true rfl) dX11_pattern_15 ⟨Nat.zero_le _, Nat.zero_le _⟩ rfl (fun H locs hW => ?_)
      refine lv_if_eq (tgt := 35) hx hb dX11_pattern_18 (by decide) (fun c27 => ?_) (fun c27 => ?_)
      · have h := ite_t c27 h
        exact J35 _ _ _ _ _ H locs ls hW (lv_sub hl [0, 1, 2, 3, 4] rfl) h
      · have h := ite_f c27 h
        refine lv_iload_n hx hb dX11_pattern_21 rfl (lv_at hl 2 rfl) ?_
        refine lv_iconst (v := (-1)) hx hb dX11_pattern_22 (by decide) ?_
        refine lv_icmp_ne (tgt := 31) hx hb dX11_pattern_23 (by decide) (fun c28 => ?_) (fun c28 => ?_)
        · have h := ite_f c28 h
          exact J31 _ _ _ _ _ H locs ls hW (lv_sub hl [0, 1, 2, 3, 4] rfl) h
        · have h := ite_t c28 h
          refine lv_iload_n hx hb dX11_pattern_26 rfl (lv_at hl 3 rfl) ?_
          refine lv_iconst (v := (-1)) hx hb dX11_pattern_27 (by decide) ?_
          refine lv_icmp_ne (tgt := 35) hx hb dX11_pattern_28 (by decide) (fun c29 => ?_) (fun c29 => ?_)
          · have h := ite_f c29 h
            exact J35 _ _ _ _ _ H locs ls hW (lv_sub hl [0, 1, 2, 3, 4] rfl) h
          · have h := ite_t c29 h
            exact J31 _ _ _ _ _ H locs ls hW (lv_sub hl [0, 1, 2, 3, 4] rfl) h
set_option maxHeartbeats 4000000 in
set_option maxRecDepth 100000 in
theorem c_X11_off (l : Launch) (D : va_G) (T : Nat → ClassId) (A : Nat → Prop) (a_o : Nat → Nat) (Z : va_W)  (x_o : Ob) (p1 : Int32) (p2 : Int32) (r : Int32) (x_o9 : Ob) (h : f_X11_off x_o p1 p2 = some (r, x_o9)) : Met l yX11_off (Cond.code yX11_off cX11_off 3 (some .boolean) :: wsL_law) (rmd 2) (Pg D T A (oc_X11 T a_o x_o ++ Z) [.ref (a_o 0), .int p1, .int p2]) (Qgi D A (oc_X11 T a_o x_o9 ++ Z) r) 0 0 A := by
  refine Met.ofW (cc := cX11_off) (maxL := 3) (ret := (some .boolean)) (by decide +kernel) rfl ?_
  intro p e s m args below meth c s₁ B hml hv
  obtain ⟨ha, hP, hK, hD, hN⟩ := hv
  have hx := B.exec
  have hb := B.bytes
  have hr := B.returns
  have hlk := B.notSynchronized
  have hts : ∀ w ∈ wsL_law, w.before args s = true := fun w hw => atoms_spec B.pre w (List.mem_cons_of_mem _ hw)
  have hown : s.vm.findClass RX11 = some m.cls := findClass_of_methodNamed B.named
  have hW : Wd D A s.heap (oc_X11 T a_o x_o ++ Z) s.heap [] := ⟨hP, hD, va_S.rf⟩
  have hl := lv_entry [.ref (a_o 0), .int p1, .int p2] (n := 3) (Nat.le_of_ble_eq_true rfl)
  refine W.eq (en_eq ha) ?_
  generalize (lg_sl [.ref (a_o 0), .int p1, .int p2] ++ List.replicate (3 - (lg_sl [.ref (a_o 0), .int p1, .int p2]).length) Slot.unset).toArray = ls at hl ⊢
  have hl : lv_has ls 3 [(0, .ref (a_o 0)), (1, .int p1), (2, .int p2)] := hl
  clear hP hD B ha
  obtain ⟨Q, hQ⟩ : ∃ Q, Q = MQ below (Qgi D A (oc_X11 T a_o x_o9 ++ Z) r) args s 0 0 A := ⟨_, rfl⟩
  rw [← hQ]
  change W p l e (rmd 2) s m args below meth c s.heap [] 0 0 Q (F0 m 0 ls [])
  have J33 : ∀ (x_o_33 : Ob) (v1_33 : Int32) (v2_33 : Int32) (s1_33 : Int32) (H : Heap) (locs : List Loc) (ls : Array Slot), Wd D A s.heap (oc_X11 T a_o x_o_33 ++ Z) H locs → lv_has ls 3 [(0, .ref (a_o 0)), (1, .int v1_33), (2, .int v2_33)] → f_X11_off_J33 x_o_33 v1_33 v2_33 s1_33 = some (r, x_o9) → W p l e (rmd 2) s m args below meth c H locs 0 0 Q (F0 m 33 ls [.int s1_33, .ref (a_o 0)]) := by
    intro x_o_33 v1_33 v2_33 s1_33 H locs ls hW hl h
    rw [f_X11_off_J33] at h
    obtain ⟨r4, x_o5, q6, h⟩ := bnd2_s h
    refine cl_X11_222 hx hb hml hown hts hK hN hW (c_X11_may l D T A a_o (Z) x_o_33 s1_33 r4 x_o5 q6) ⟨Nat.le_of_ble_eq_true rfl, Nat.le_of_ble_eq_true rfl⟩ hl.1 rfl (Nat.le_of_ble_eq_true rfl) dX11_off_33 ⟨Nat.zero_le _, Nat.zero_le _⟩ rfl (fun H locs hW => ?_)
    refine lv_if_ne (tgt := 41) hx hb dX11_off_36 (by decide) (fun c7 => ?_) (fun c7 => ?_)
    · have h := ite_f c7 h
      refine lv_iload_n hx hb dX11_off_41 rfl (lv_at hl 2 rfl) ?_
      refine lv_iconst (v := (-1)) hx hb dX11_off_42 (by decide) ?_
      refine lv_icmp_ne (tgt := 73) hx hb dX11_off_43 (by decide) (fun c8 => ?_) (fun c8 => ?_)
      · have h := ite_f c8 h
        refine lv_aload_n hx hb dX11_off_73 rfl (lv_at hl 0 rfl) ?_
        refine fg_X11_177 (v := .ref (a_o 56)) hx hb hts hown hK hW 0 rfl rfl dX11_off_74 ?_
        refine lv_bipush (v := 40) hx hb dX11_off_77 (by decide) ?_
        refine lv_iload_n hx hb dX11_off_79 rfl (lv_at hl 1 rfl) ?_
        refine lv_imul hx hb dX11_off_80 ?_
        refine lv_iload_n hx hb dX11_off_81 rfl (lv_at hl 2 rfl) ?_
        refine lv_iadd hx hb dX11_off_82 ?_
        refine lv_aload_n hx hb dX11_off_83 rfl (lv_at hl 0 rfl) ?_
        refine fg_X11_177 (v := .ref (a_o 56)) hx hb hts hown hK hW 0 rfl rfl dX11_off_84 ?_
        refine lv_bipush (v := 40) hx hb dX11_off_87 (by decide) ?_
        refine lv_iload_n hx hb dX11_off_89 rfl (lv_at hl 1 rfl) ?_
        refine lv_imul hx hb dX11_off_90 ?_
        refine lv_iload_n hx hb dX11_off_91 rfl (lv_at hl 2 rfl) ?_
        refine lv_iadd hx hb dX11_off_92 ?_
        obtain ⟨g9, h⟩ := grd_s h
        refine g_zald hx hb hK hW 56 rfl g9 dX11_off_93 ?_
        refine lv_if_ne (tgt := 101) hx hb dX11_off_94 (by decide) (fun c10 => ?_) (fun c10 => ?_)
        · have h := ite_f c10 h
          refine lv_iconst (v := 0) hx hb dX11_off_101 (by decide) ?_
          obtain ⟨g11, h⟩ := grd_s h
          refine g_zast (ws9 := oc_X11 T a_o (upo x_o5 65 ((40 * v1_33) + v2_33).toNatClampNeg 0) ++ Z) hx hb hK hW 56 rfl g11 (by decide) sa_X11_65 dX11_off_102 (fun H locs hW => ?_)
          obtain ⟨x_o12, ex_o12⟩ : ∃ y : Ob, y = upo x_o5 65 ((40 * v1_33) + v2_33).toNatClampNeg 0 := ⟨_, rfl⟩
          rw [← ex_o12] at hW
          have h := lb_at ex_o12 h
          refine lv_aload_n hx hb dX11_off_103 rfl (lv_at hl 0 rfl) ?_
          refine fg_X11_177 (v := .ref (a_o 56)) hx hb hts hown hK hW 0 rfl rfl dX11_off_104 ?_
          refine lv_bipush (v := 40) hx hb dX11_off_107 (by decide) ?_
          refine lv_iload_n hx hb dX11_off_109 rfl (lv_at hl 1 rfl) ?_
          refine lv_imul hx hb dX11_off_110 ?_
          refine lv_iload_n hx hb dX11_off_111 rfl (lv_at hl 2 rfl) ?_
          refine lv_iadd hx hb dX11_off_112 ?_
          obtain ⟨g13, h⟩ := grd_s h
          refine g_zald hx hb hK hW 56 rfl g13 dX11_off_113 ?_
          obtain ⟨g14, h⟩ := grd_s h
          obtain ⟨rfl, rfl⟩ := ret2 h
          rw [hQ]
          exact g_retz hx hb hr hlk hW g14 dX11_off_114
        · have h := ite_t c10 h
          refine lv_iconst (v := 1) hx hb dX11_off_97 (by decide) ?_
          refine lv_goto (tgt := 102) hx hb dX11_off_98 (by decide) ?_
          obtain ⟨g15, h⟩ := grd_s h
          refine g_zast (ws9 := oc_X11 T a_o (upo x_o5 65 ((40 * v1_33) + v2_33).toNatClampNeg 1) ++ Z) hx hb hK hW 56 rfl g15 (by decide) sa_X11_65 dX11_off_102 (fun H locs hW => ?_)
          obtain ⟨x_o16, ex_o16⟩ : ∃ y : Ob, y = upo x_o5 65 ((40 * v1_33) + v2_33).toNatClampNeg 1 := ⟨_, rfl⟩
          rw [← ex_o16] at hW
          have h := lb_at ex_o16 h
          refine lv_aload_n hx hb dX11_off_103 rfl (lv_at hl 0 rfl) ?_
          refine fg_X11_177 (v := .ref (a_o 56)) hx hb hts hown hK hW 0 rfl rfl dX11_off_104 ?_
          refine lv_bipush (v := 40) hx hb dX11_off_107 (by decide) ?_
          refine lv_iload_n hx hb dX11_off_109 rfl (lv_at hl 1 rfl) ?_
          refine lv_imul hx hb dX11_off_110 ?_
          refine lv_iload_n hx hb dX11_off_111 rfl (lv_at hl 2 rfl) ?_
          refine lv_iadd hx hb dX11_off_112 ?_
          obtain ⟨g17, h⟩ := grd_s h
          refine g_zald hx hb hK hW 56 rfl g17 dX11_off_113 ?_
          obtain ⟨g18, h⟩ := grd_s h
          obtain ⟨rfl, rfl⟩ := ret2 h
          rw [hQ]
          exact g_retz hx hb hr hlk hW g18 dX11_off_114
      · have h := ite_t c8 h
        refine lv_aload_n hx hb dX11_off_46 rfl (lv_at hl 0 rfl) ?_
        refine fg_X11_174 (v := .ref (a_o 55)) hx hb hts hown hK hW 0 rfl rfl dX11_off_47 ?_
        refine lv_iload_n hx hb dX11_off_50 rfl (lv_at hl 1 rfl) ?_
        refine lv_aload_n hx hb dX11_off_51 rfl (lv_at hl 0 rfl) ?_
        refine fg_X11_174 (v := .ref (a_o 55)) hx hb hts hown hK hW 0 rfl rfl dX11_off_52 ?_
        refine lv_iload_n hx hb dX11_off_55 rfl (lv_at hl 1 rfl) ?_
        obtain ⟨g19, h⟩ := grd_s h
        refine g_zald hx hb hK hW 55 rfl g19 dX11_off_56 ?_
        refine lv_if_ne (tgt := 64) hx hb dX11_off_57 (by decide) (fun c20 => ?_) (fun c20 => ?_)
        · have h := ite_f c20 h
          refine lv_iconst (v := 0) hx hb dX11_off_64 (by decide) ?_
          obtain ⟨g21, h⟩ := grd_s h
          refine g_zast (ws9 := oc_X11 T a_o (upo x_o5 64 v1_33.toNatClampNeg 0) ++ Z) hx hb hK hW 55 rfl g21 (by decide) sa_X11_64 dX11_off_65 (fun H locs hW => ?_)
          obtain ⟨x_o22, ex_o22⟩ : ∃ y : Ob, y = upo x_o5 64 v1_33.toNatClampNeg 0 := ⟨_, rfl⟩
          rw [← ex_o22] at hW
          have h := lb_at ex_o22 h
          refine lv_aload_n hx hb dX11_off_66 rfl (lv_at hl 0 rfl) ?_
          refine fg_X11_174 (v := .ref (a_o 55)) hx hb hts hown hK hW 0 rfl rfl dX11_off_67 ?_
          refine lv_iload_n hx hb dX11_off_70 rfl (lv_at hl 1 rfl) ?_
          obtain ⟨g23, h⟩ := grd_s h
          refine g_zald hx hb hK hW 55 rfl g23 dX11_off_71 ?_
          obtain ⟨g24, h⟩ := grd_s h
          obtain ⟨rfl, rfl⟩ := ret2 h
          rw [hQ]
          exact g_retz hx hb hr hlk hW g24 dX11_off_72
        · have h := ite_t c20 h
          refine lv_iconst (v := 1) hx hb dX11_off_60 (by decide) ?_
          refine lv_goto (tgt := 65) hx hb dX11_off_61 (by decide) ?_
          obtain ⟨g25, h⟩ := grd_s h
          refine g_zast (ws9 := oc_X11 T a_o (upo x_o5 64 v1_33.toNatClampNeg 1) ++ Z) hx hb hK hW 55 rfl g25 (by decide) sa_X11_64 dX11_off_65 (fun H locs hW => ?_)
          obtain ⟨x_o26, ex_o26⟩ : ∃ y : Ob, y = upo x_o5 64 v1_33.toNatClampNeg 1 := ⟨_, rfl⟩
          rw [← ex_o26] at hW
          have h := lb_at ex_o26 h
          refine lv_aload_n hx hb dX11_off_66 rfl (lv_at hl 0 rfl) ?_
          refine fg_X11_174 (v := .ref (a_o 55)) hx hb hts hown hK hW 0 rfl rfl dX11_off_67 ?_
          refine lv_iload_n hx hb dX11_off_70 rfl (lv_at hl 1 rfl) ?_
          obtain ⟨g27, h⟩ := grd_s h
          refine g_zald hx hb hK hW 55 rfl g27 dX11_off_71 ?_
          obtain ⟨g28, h⟩ := grd_s h
          obtain ⟨rfl, rfl⟩ := ret2 h
          rw [hQ]
          exact g_retz hx hb hr hlk hW g28 dX11_off_72
    · have h := ite_t c7 h
      refine lv_iconst (v := 0) hx hb dX11_off_39 (by decide) ?_
      obtain ⟨rfl, rfl⟩ := ret2 h
      rw [hQ]
      exact g_retz hx hb hr hlk hW (by decide) dX11_off_40
  have J32 : ∀ (x_o_32 : Ob) (v1_32 : Int32) (v2_32 : Int32) (H : Heap) (locs : List Loc) (ls : Array Slot), Wd D A s.heap (oc_X11 T a_o x_o_32 ++ Z) H locs → lv_has ls 3 [(0, .ref (a_o 0)), (1, .int v1_32), (2, .int v2_32)] → f_X11_off_J32 x_o_32 v1_32 v2_32 = some (r, x_o9) → W p l e (rmd 2) s m args below meth c H locs 0 0 Q (F0 m 32 ls [.ref (a_o 0)]) := by
    intro x_o_32 v1_32 v2_32 H locs ls hW hl h
    rw [f_X11_off_J32] at h
    refine lv_iconst (v := 0) hx hb dX11_off_32 (by decide) ?_
    exact J33 _ _ _ _ H locs ls hW (lv_sub hl [0, 1, 2] rfl) h
  have J28 : ∀ (x_o_28 : Ob) (v1_28 : Int32) (v2_28 : Int32) (H : Heap) (locs : List Loc) (ls : Array Slot), Wd D A s.heap (oc_X11 T a_o x_o_28 ++ Z) H locs → lv_has ls 3 [(0, .ref (a_o 0)), (1, .int v1_28), (2, .int v2_28)] → f_X11_off_J28 x_o_28 v1_28 v2_28 = some (r, x_o9) → W p l e (rmd 2) s m args below meth c H locs 0 0 Q (F0 m 28 ls [.ref (a_o 0)]) := by
    intro x_o_28 v1_28 v2_28 H locs ls hW hl h
    rw [f_X11_off_J28] at h
    refine lv_iconst (v := 1) hx hb dX11_off_28 (by decide) ?_
    refine lv_goto (tgt := 33) hx hb dX11_off_29 (by decide) ?_
    exact J33 _ _ _ _ H locs ls hW (lv_sub hl [0, 1, 2] rfl) h
  rw [f_X11_off] at h
  suffices hm : ∀ (H : Heap) (locs : List Loc), Wd D A s.heap (oc_X11 T a_o x_o ++ Z) H locs → W p l e (rmd 2) s m args below meth c H locs 0 0 Q (F0 m 0 ls []) from hm _ _ hW
  intro H locs hW
  refine lv_aload_n hx hb dX11_off_0 rfl (lv_at hl 0 rfl) ?_
  refine lv_iload_n hx hb dX11_off_1 rfl (lv_at hl 1 rfl) ?_
  refine lv_iconst (v := 0) hx hb dX11_off_2 (by decide) ?_
  refine lv_aload_n hx hb dX11_off_3 rfl (lv_at hl 0 rfl) ?_
  refine fg_X11_351 (v := .int (x_o 59 0)) hx hb hts hown hK hW 0 rfl rfl dX11_off_4 ?_
  refine lv_iconst (v := 1) hx hb dX11_off_7 (by decide) ?_
  refine lv_isub hx hb dX11_off_8 ?_
  obtain ⟨r1, q2, h⟩ := bnd1_s h
  refine cl_X11_187 hx hb hml hown hts hK hN hW (c_X11_isIn l D T A (oc_X11 T a_o x_o ++ Z) p1 0 ((x_o 59 0) - 1) r1 q2) ⟨Nat.le_of_ble_eq_true rfl, Nat.le_of_ble_eq_true rfl⟩ hl.1 rfl (Nat.le_of_ble_eq_true rfl) dX11_off_9 ⟨Nat.zero_le _, Nat.zero_le _⟩ rfl (fun H locs hW => ?_)
  refine lv_if_eq (tgt := 32) hx hb dX11_off_12 (by decide) (fun c3 => ?_) (fun c3 => ?_)
  · have h := ite_t c3 h
    exact J32 _ _ _ H locs ls hW (lv_sub hl [0, 1, 2] rfl) h
  · have h := ite_f c3 h
    refine lv_iload_n hx hb dX11_off_15 rfl (lv_at hl 2 rfl) ?_
    refine lv_iconst (v := (-1)) hx hb dX11_off_16 (by decide) ?_
    refine lv_icmp_eq (tgt := 28) hx hb dX11_off_17 (by decide) (fun c29 => ?_) (fun c29 => ?_)
    · have h := ite_t c29 h
      exact J28 _ _ _ H locs ls hW (lv_sub hl [0, 1, 2] rfl) h
    · have h := ite_f c29 h
      refine lv_aload_n hx hb dX11_off_20 rfl (lv_at hl 0 rfl) ?_
      refine lv_iload_n hx hb dX11_off_21 rfl (lv_at hl 2 rfl) ?_
      obtain ⟨r30, q31, h⟩ := bnd1_s h
      refine cl_X11_209 hx hb hml hown hts hK hN hW (c_X11_isWord l D T A a_o (Z) x_o p2 r30 q31) ⟨Nat.le_of_ble_eq_true rfl, Nat.le_of_ble_eq_true rfl⟩ hl.1 rfl (Nat.le_of_ble_eq_true rfl) dX11_off_22 ⟨Nat.zero_le _, Nat.zero_le _⟩ rfl (fun H locs hW => ?_)
      refine lv_if_eq (tgt := 32) hx hb dX11_off_25 (by decide) (fun c32 => ?_) (fun c32 => ?_)
      · have h := ite_t c32 h
        exact J32 _ _ _ H locs ls hW (lv_sub hl [0, 1, 2] rfl) h
      · have h := ite_f c32 h
        exact J28 _ _ _ H locs ls hW (lv_sub hl [0, 1, 2] rfl) h
set_option maxHeartbeats 4000000 in
set_option maxRecDepth 100000 in
theorem c_X11_hasLeft (l : Launch) (D : va_G) (T : Nat → ClassId) (A : Nat → Prop) (a_o : Nat → Nat) (Z : va_W)  (x_o : Ob) (p1 : Int32) (p2 : Int32) (p3 : Int32) (r : Int32) (h : f_X11_hasLeft x_o p1 p2 p3 = some r) : Met l yX11_hasLeft (Cond.code yX11_hasLeft cX11_hasLeft 4 (some .boolean) :: wsL_law) (rmd 2) (Pg D T A (oc_X11 T a_o x_o ++ Z) [.ref (a_o 0), .int p1, .int p2, .int p3]) (Qgi D A (oc_X11 T a_o x_o ++ Z) r) 0 0 A := by
  refine Met.ofW (cc := cX11_hasLeft) (maxL := 4) (ret := (some .boolean)) (by decide +kernel) rfl ?_
  intro p e s m args below meth c s₁ B hml hv
  obtain ⟨ha, hP, hK, hD, hN⟩ := hv
  have hx := B.exec
  have hb := B.bytes
  have hr := B.returns
  have hlk := B.notSynchronized
  have hts : ∀ w ∈ wsL_law, w.before args s = true := fun w hw => atoms_spec B.pre w (List.mem_cons_of_mem _ hw)
  have hown : s.vm.findClass RX11 = some m.cls := findClass_of_methodNamed B.named
  have hW : Wd D A s.heap (oc_X11 T a_o x_o ++ Z) s.heap [] := ⟨hP, hD, va_S.rf⟩
  have hl := lv_entry [.ref (a_o 0), .int p1, .int p2, .int p3] (n := 4) (Nat.le_of_ble_eq_true rfl)
  refine W.eq (en_eq ha) ?_
  generalize (lg_sl [.ref (a_o 0), .int p1, .int p2, .int p3] ++ List.replicate (4 - (lg_sl [.ref (a_o 0), .int p1, .int p2, .int p3]).length) Slot.unset).toArray = ls at hl ⊢
  have hl : lv_has ls 4 [(0, .ref (a_o 0)), (1, .int p1), (2, .int p2), (3, .int p3)] := hl
  clear hP hD B ha
  obtain ⟨Q, hQ⟩ : ∃ Q, Q = MQ below (Qgi D A (oc_X11 T a_o x_o ++ Z) r) args s 0 0 A := ⟨_, rfl⟩
  rw [← hQ]
  change W p l e (rmd 2) s m args below meth c s.heap [] 0 0 Q (F0 m 0 ls [])
  rw [f_X11_hasLeft] at h
  suffices hm : ∀ (H : Heap) (locs : List Loc), Wd D A s.heap (oc_X11 T a_o x_o ++ Z) H locs → W p l e (rmd 2) s m args below meth c H locs 0 0 Q (F0 m 0 ls []) from hm _ _ hW
  intro H locs hW
  refine lv_iload_n hx hb dX11_hasLeft_0 rfl (lv_at hl 3 rfl) ?_
  refine lv_iconst (v := (-1)) hx hb dX11_hasLeft_1 (by decide) ?_
  refine lv_icmp_eq (tgt := 29) hx hb dX11_hasLeft_2 (by decide) (fun c1 => ?_) (fun c1 => ?_)
  · have h := ite_t c1 h
    refine lv_iconst (v := 1) hx hb dX11_hasLeft_29 (by decide) ?_
    refine lv_goto (tgt := 34) hx hb dX11_hasLeft_30 (by decide) ?_
    obtain rfl := ret1 h
    rw [hQ]
    exact g_retz hx hb hr hlk hW (by decide) dX11_hasLeft_34
  · have h := ite_f c1 h
    refine lv_iload_n hx hb dX11_hasLeft_5 rfl (lv_at hl 2 rfl) ?_
    refine lv_aload_n hx hb dX11_hasLeft_6 rfl (lv_at hl 0 rfl) ?_
    refine fg_X11_34 (v := .ref (a_o 9)) hx hb hts hown hK hW 0 rfl rfl dX11_hasLeft_7 ?_
    refine lv_iload_n hx hb dX11_hasLeft_10 rfl (lv_at hl 1 rfl) ?_
    obtain ⟨g2, h⟩ := grd_s h
    refine g_iald hx hb hK hW 9 rfl g2 dX11_hasLeft_11 ?_
    refine lv_icmp_ge (tgt := 33) hx hb dX11_hasLeft_12 (by decide) (fun c3 => ?_) (fun c3 => ?_)
    · have h := ite_t c3 h
      refine lv_iconst (v := 0) hx hb dX11_hasLeft_33 (by decide) ?_
      obtain rfl := ret1 h
      rw [hQ]
      exact g_retz hx hb hr hlk hW (by decide) dX11_hasLeft_34
    · have h := ite_f c3 h
      refine lv_aload_n hx hb dX11_hasLeft_15 rfl (lv_at hl 0 rfl) ?_
      refine lv_bipush (v := 6) hx hb dX11_hasLeft_16 (by decide) ?_
      refine lv_iload_n hx hb dX11_hasLeft_18 rfl (lv_at hl 1 rfl) ?_
      refine lv_imul hx hb dX11_hasLeft_19 ?_
      refine lv_iload_n hx hb dX11_hasLeft_20 rfl (lv_at hl 2 rfl) ?_
      refine lv_iadd hx hb dX11_hasLeft_21 ?_
      refine lv_iload_n hx hb dX11_hasLeft_22 rfl (lv_at hl 3 rfl) ?_
      obtain ⟨r4, q5, h⟩ := bnd1_s h
      refine cl_X11_241 hx hb hml hown hts hK hN hW (c_X11_leftOf l D T A a_o (Z) x_o ((6 * p1) + p2) p3 r4 q5) ⟨Nat.le_of_ble_eq_true rfl, Nat.le_of_ble_eq_true rfl⟩ hl.1 rfl (Nat.le_of_ble_eq_true rfl) dX11_hasLeft_23 ⟨Nat.zero_le _, Nat.zero_le _⟩ rfl (fun H locs hW => ?_)
      refine lv_if_eq (tgt := 33) hx hb dX11_hasLeft_26 (by decide) (fun c6 => ?_) (fun c6 => ?_)
      · have h := ite_t c6 h
        refine lv_iconst (v := 0) hx hb dX11_hasLeft_33 (by decide) ?_
        obtain rfl := ret1 h
        rw [hQ]
        exact g_retz hx hb hr hlk hW (by decide) dX11_hasLeft_34
      · have h := ite_f c6 h
        refine lv_iconst (v := 1) hx hb dX11_hasLeft_29 (by decide) ?_
        refine lv_goto (tgt := 34) hx hb dX11_hasLeft_30 (by decide) ?_
        obtain rfl := ret1 h
        rw [hQ]
        exact g_retz hx hb hr hlk hW (by decide) dX11_hasLeft_34
set_option maxHeartbeats 4000000 in
set_option maxRecDepth 100000 in
theorem c_X11_findStanding (l : Launch) (D : va_G) (T : Nat → ClassId) (A : Nat → Prop) (a_o : Nat → Nat) (Z : va_W)  (x_o : Ob) (p1 : Int32) (p2 : Int32) (x_o9 : Ob) (h : f_X11_findStanding x_o p1 p2 = some x_o9) : Met l yX11_findStanding (Cond.code yX11_findStanding cX11_findStanding 6 none :: wsL_law) (rmd 3) (Pg D T A (oc_X11 T a_o x_o ++ Z) [.ref (a_o 0), .int p1, .int p2]) (Qgv D A (oc_X11 T a_o x_o9 ++ Z)) 0 0 A := by
  refine Met.ofW (cc := cX11_findStanding) (maxL := 6) (ret := none) (by decide +kernel) rfl ?_
  intro p e s m args below meth c s₁ B hml hv
  obtain ⟨ha, hP, hK, hD, hN⟩ := hv
  have hx := B.exec
  have hb := B.bytes
  have hr := B.returns
  have hlk := B.notSynchronized
  have hts : ∀ w ∈ wsL_law, w.before args s = true := fun w hw => atoms_spec B.pre w (List.mem_cons_of_mem _ hw)
  have hown : s.vm.findClass RX11 = some m.cls := findClass_of_methodNamed B.named
  have hW : Wd D A s.heap (oc_X11 T a_o x_o ++ Z) s.heap [] := ⟨hP, hD, va_S.rf⟩
  have hl := lv_entry [.ref (a_o 0), .int p1, .int p2] (n := 6) (Nat.le_of_ble_eq_true rfl)
  refine W.eq (en_eq ha) ?_
  generalize (lg_sl [.ref (a_o 0), .int p1, .int p2] ++ List.replicate (6 - (lg_sl [.ref (a_o 0), .int p1, .int p2]).length) Slot.unset).toArray = ls at hl ⊢
  have hl : lv_has ls 6 [(0, .ref (a_o 0)), (1, .int p1), (2, .int p2)] := hl
  clear hP hD B ha
  obtain ⟨Q, hQ⟩ : ∃ Q, Q = MQ below (Qgv D A (oc_X11 T a_o x_o9 ++ Z)) args s 0 0 A := ⟨_, rfl⟩
  rw [← hQ]
  change W p l e (rmd 3) s m args below meth c s.heap [] 0 0 Q (F0 m 0 ls [])
  have L121 : ∀ (n : Nat) (x_o_121 : Ob) (v1_121 : Int32) (v2_121 : Int32) (v3_121 : Int32) (v5_121 : Int32) (H : Heap) (locs : List Loc) (ls : Array Slot) (o5_121r : Int32) (y_o_121r : Ob), Wd D A s.heap (oc_X11 T a_o x_o_121 ++ Z) H locs → lv_has ls 6 [(0, .ref (a_o 0)), (1, .int v1_121), (2, .int v2_121), (3, .int v3_121), (5, .int v5_121)] → f_X11_findStanding_L121 n x_o_121 v1_121 v2_121 v3_121 v5_121 = some (o5_121r, y_o_121r) → (∀ (H : Heap) (locs : List Loc) (ls : Array Slot), Wd D A s.heap (oc_X11 T a_o y_o_121r ++ Z) H locs → lv_has ls 6 [(0, .ref (a_o 0)), (1, .int v1_121), (2, .int v2_121), (3, .int v3_121)] → W p l e (rmd 3) s m args below meth c H locs 0 0 Q (F0 m 177 ls [])) → W p l e (rmd 3) s m args below meth c H locs 0 0 Q (F0 m 121 ls []) := by
    intro n
    induction n with
    | zero =>
      intro x_o_121 v1_121 v2_121 v3_121 v5_121 H locs ls o5_121r y_o_121r hW hl h k1
      rw [f_X11_findStanding_L121] at h
      cases h
    | succ n ih =>
      intro x_o_121 v1_121 v2_121 v3_121 v5_121 H locs ls o5_121r y_o_121r hW hl h k1
      rw [f_X11_findStanding_L121] at h
      refine lv_iload hx hb dX11_findStanding_121 (lv_at hl 4 rfl) ?_
      refine lv_aload_n hx hb dX11_findStanding_123 rfl (lv_at hl 0 rfl) ?_
      refine fg_X11_351 (v := .int (x_o_121 59 0)) hx hb hts hown hK hW 0 rfl rfl dX11_findStanding_124 ?_
      refine lv_icmp_ge (tgt := 177) hx hb dX11_findStanding_127 (by decide) (fun c12 => ?_) (fun c12 => ?_)
      · have h := ite_t c12 h
        obtain ⟨rfl, rfl⟩ := ret2 h
        exact k1 H locs ls hW (lv_sub hl [0, 1, 2, 3] rfl)
      · have h := ite_f c12 h
        refine lv_aload_n hx hb dX11_findStanding_130 rfl (lv_at hl 0 rfl) ?_
        refine fg_X11_180 (v := .ref (a_o 57)) hx hb hts hown hK hW 0 rfl rfl dX11_findStanding_131 ?_
        refine lv_iload_n hx hb dX11_findStanding_134 rfl (lv_at hl 3 rfl) ?_
        refine lv_aload_n hx hb dX11_findStanding_135 rfl (lv_at hl 0 rfl) ?_
        refine fg_X11_180 (v := .ref (a_o 57)) hx hb hts hown hK hW 0 rfl rfl dX11_findStanding_136 ?_
        refine lv_iload_n hx hb dX11_findStanding_139 rfl (lv_at hl 3 rfl) ?_
        obtain ⟨g13, h⟩ := grd_s h
        refine g_zald hx hb hK hW 57 rfl g13 dX11_findStanding_140 ?_
        refine lv_if_eq (tgt := 169) hx hb dX11_findStanding_141 (by decide) (fun c14 => ?_) (fun c14 => ?_)
        · have h := ite_t c14 h
          refine lv_iconst (v := 0) hx hb dX11_findStanding_169 (by decide) ?_
          obtain ⟨g15, h⟩ := grd_s h
          refine g_zast (ws9 := oc_X11 T a_o (upo x_o_121 66 v3_121.toNatClampNeg 0) ++ Z) hx hb hK hW 57 rfl g15 (by decide) sa_X11_66 dX11_findStanding_170 (fun H locs hW => ?_)
          obtain ⟨x_o16, ex_o16⟩ : ∃ y : Ob, y = upo x_o_121 66 v3_121.toNatClampNeg 0 := ⟨_, rfl⟩
          rw [← ex_o16] at hW
          have h := lb_at ex_o16 h
          obtain ⟨w5_17, ew5_17⟩ : ∃ y : Int32, y = v5_121 + 1 := ⟨_, rfl⟩
          have h := lb_at ew5_17 h
          refine lv_iinc (v := w5_17) (lv' := [(5, .int w5_17), (0, .ref (a_o 0)), (1, .int v1_121), (2, .int v2_121), (3, .int v3_121)]) hx hb dX11_findStanding_171 hl (k := 4) rfl (by rw [ew5_17]; rfl) (by decide) rfl (fun ls hl => ?_)
          refine lv_goto (tgt := 121) hx hb dX11_findStanding_174 (by decide) ?_
          exact ih _ _ _ _ _ H locs ls _ _ hW (lv_sub hl [1, 2, 3, 4, 0] rfl) h k1
        · have h := ite_f c14 h
          refine lv_aload_n hx hb dX11_findStanding_144 rfl (lv_at hl 0 rfl) ?_
          refine fg_X11_171 (v := .ref (a_o 54)) hx hb hts hown hK hW 0 rfl rfl dX11_findStanding_145 ?_
          refine lv_iload hx hb dX11_findStanding_148 (lv_at hl 4 rfl) ?_
          obtain ⟨g18, h⟩ := grd_s h
          refine g_iald hx hb hK hW 54 rfl g18 dX11_findStanding_150 ?_
          refine lv_iload_n hx hb dX11_findStanding_151 rfl (lv_at hl 3 rfl) ?_
          refine lv_icmp_ne (tgt := 165) hx hb dX11_findStanding_152 (by decide) (fun c19 => ?_) (fun c19 => ?_)
          · have h := ite_f c19 h
            refine lv_iconst (v := 1) hx hb dX11_findStanding_165 (by decide) ?_
            refine lv_goto (tgt := 170) hx hb dX11_findStanding_166 (by decide) ?_
            obtain ⟨g20, h⟩ := grd_s h
            refine g_zast (ws9 := oc_X11 T a_o (upo x_o_121 66 v3_121.toNatClampNeg 1) ++ Z) hx hb hK hW 57 rfl g20 (by decide) sa_X11_66 dX11_findStanding_170 (fun H locs hW => ?_)
            obtain ⟨x_o21, ex_o21⟩ : ∃ y : Ob, y = upo x_o_121 66 v3_121.toNatClampNeg 1 := ⟨_, rfl⟩
            rw [← ex_o21] at hW
            have h := lb_at ex_o21 h
            obtain ⟨w5_22, ew5_22⟩ : ∃ y : Int32, y = v5_121 + 1 := ⟨_, rfl⟩
            have h := lb_at ew5_22 h
            refine lv_iinc (v := w5_22) (lv' := [(5, .int w5_22), (0, .ref (a_o 0)), (1, .int v1_121), (2, .int v2_121), (3, .int v3_121)]) hx hb dX11_findStanding_171 hl (k := 4) rfl (by rw [ew5_22]; rfl) (by decide) rfl (fun ls hl => ?_)
            refine lv_goto (tgt := 121) hx hb dX11_findStanding_174 (by decide) ?_
            exact ih _ _ _ _ _ H locs ls _ _ hW (lv_sub hl [1, 2, 3, 4, 0] rfl) h k1
          · have h := ite_t c19 h
            refine lv_aload_n hx hb dX11_findStanding_155 rfl (lv_at hl 0 rfl) ?_
            refine fg_X11_180 (v := .ref (a_o 57)) hx hb hts hown hK hW 0 rfl rfl dX11_findStanding_156 ?_
            refine lv_iload hx hb dX11_findStanding_159 (lv_at hl 4 rfl) ?_
            obtain ⟨g23, h⟩ := grd_s h
            refine g_zald hx hb hK hW 57 rfl g23 dX11_findStanding_161 ?_
            refine lv_if_ne (tgt := 169) hx hb dX11_findStanding_162 (by decide) (fun c24 => ?_) (fun c24 => ?_)
            · have h := ite_f c24 h
              refine lv_iconst (v := 0) hx hb dX11_findStanding_169 (by decide) ?_
              obtain ⟨g25, h⟩ := grd_s h
              refine g_zast (ws9 := oc_X11 T a_o (upo x_o_121 66 v3_121.toNatClampNeg 0) ++ Z) hx hb hK hW 57 rfl g25 (by decide) sa_X11_66 dX11_findStanding_170 (fun H locs hW => ?_)
              obtain ⟨x_o26, ex_o26⟩ : ∃ y : Ob, y = upo x_o_121 66 v3_121.toNatClampNeg 0 := ⟨_, rfl⟩
              rw [← ex_o26] at hW
              have h := lb_at ex_o26 h
              obtain ⟨w5_27, ew5_27⟩ : ∃ y : Int32, y = v5_121 + 1 := ⟨_, rfl⟩
              have h := lb_at ew5_27 h
              refine lv_iinc (v := w5_27) (lv' := [(5, .int w5_27), (0, .ref (a_o 0)), (1, .int v1_121), (2, .int v2_121), (3, .int v3_121)]) hx hb dX11_findStanding_171 hl (k := 4) rfl (by rw [ew5_27]; rfl) (by decide) rfl (fun ls hl => ?_)
              refine lv_goto (tgt := 121) hx hb dX11_findStanding_174 (by decide) ?_
              exact ih _ _ _ _ _ H locs ls _ _ hW (lv_sub hl [1, 2, 3, 4, 0] rfl) h k1
            · have h := ite_t c24 h
              refine lv_iconst (v := 1) hx hb dX11_findStanding_165 (by decide) ?_
              refine lv_goto (tgt := 170) hx hb dX11_findStanding_166 (by decide) ?_
              obtain ⟨g28, h⟩ := grd_s h
              refine g_zast (ws9 := oc_X11 T a_o (upo x_o_121 66 v3_121.toNatClampNeg 1) ++ Z) hx hb hK hW 57 rfl g28 (by decide) sa_X11_66 dX11_findStanding_170 (fun H locs hW => ?_)
              obtain ⟨x_o29, ex_o29⟩ : ∃ y : Ob, y = upo x_o_121 66 v3_121.toNatClampNeg 1 := ⟨_, rfl⟩
              rw [← ex_o29] at hW
              have h := lb_at ex_o29 h
              obtain ⟨w5_30, ew5_30⟩ : ∃ y : Int32, y = v5_121 + 1 := ⟨_, rfl⟩
              have h := lb_at ew5_30 h
              refine lv_iinc (v := w5_30) (lv' := [(5, .int w5_30), (0, .ref (a_o 0)), (1, .int v1_121), (2, .int v2_121), (3, .int v3_121)]) hx hb dX11_findStanding_171 hl (k := 4) rfl (by rw [ew5_30]; rfl) (by decide) rfl (fun ls hl => ?_)
              refine lv_goto (tgt := 121) hx hb dX11_findStanding_174 (by decide) ?_
              exact ih _ _ _ _ _ H locs ls _ _ hW (lv_sub hl [1, 2, 3, 4, 0] rfl) h k1
  have J115 : ∀ (x_o_115 : Ob) (v1_115 : Int32) (v2_115 : Int32) (v3_115 : Int32) (s1_115 : Int32) (s2_115 : Int32) (H : Heap) (locs : List Loc) (ls : Array Slot) (code : Nat) (o3j : Int32) (y_oj : Ob), Wd D A s.heap (oc_X11 T a_o x_o_115 ++ Z) H locs → lv_has ls 6 [(0, .ref (a_o 0)), (1, .int v1_115), (2, .int v2_115), (3, .int v3_115)] → f_X11_findStanding_J115 x_o_115 v1_115 v2_115 v3_115 s1_115 s2_115 = some (code, o3j, y_oj) → (code = 0 → ∀ (H : Heap) (locs : List Loc) (ls : Array Slot), Wd D A s.heap (oc_X11 T a_o y_oj ++ Z) H locs → lv_has ls 6 [(0, .ref (a_o 0)), (1, .int v1_115), (2, .int v2_115), (3, .int o3j)] → W p l e (rmd 3) s m args below meth c H locs 0 0 Q (F0 m 7 ls [])) → (code = 1 → ∀ (H : Heap) (locs : List Loc) (ls : Array Slot), Wd D A s.heap (oc_X11 T a_o y_oj ++ Z) H locs → lv_has ls 6 [] → W p l e (rmd 3) s m args below meth c H locs 0 0 Q (F0 m 183 ls [])) → W p l e (rmd 3) s m args below meth c H locs 0 0 Q (F0 m 115 ls [.int s2_115, .int s1_115, .ref (a_o 57)]) := by
    intro x_o_115 v1_115 v2_115 v3_115 s1_115 s2_115 H locs ls code o3j y_oj hW hl h k0 k1
    rw [f_X11_findStanding_J115] at h
    obtain ⟨g8, h⟩ := grd_s h
    obtain ⟨g9, h⟩ := grd_s h
    refine g_zast (ws9 := oc_X11 T a_o (upo x_o_115 66 s1_115.toNatClampNeg s2_115) ++ Z) hx hb hK hW 57 rfl g8 g9 sa_X11_66 dX11_findStanding_115 (fun H locs hW => ?_)
    obtain ⟨x_o10, ex_o10⟩ : ∃ y : Ob, y = upo x_o_115 66 s1_115.toNatClampNeg s2_115 := ⟨_, rfl⟩
    rw [← ex_o10] at hW
    have h := lb_at ex_o10 h
    refine lv_iload_n hx hb dX11_findStanding_116 rfl (lv_at hl 3 rfl) ?_
    refine lv_iconst (v := 1) hx hb dX11_findStanding_117 (by decide) ?_
    refine lv_iadd hx hb dX11_findStanding_118 ?_
    refine lv_topi (fun w5_11 ew5_11 => ?_)
    have h := lb_at ew5_11 h
    refine lv_istore (lv' := [(5, .int w5_11), (0, .ref (a_o 0)), (1, .int v1_115), (2, .int v2_115), (3, .int v3_115)]) hx hb dX11_findStanding_119 hl (by decide) rfl (fun ls hl => ?_)
    obtain ⟨o5_u31, y_o_u31, q32, h⟩ := bnd2_s h
    refine L121 200 _ _ _ _ _ H locs ls o5_u31 y_o_u31 hW (lv_sub hl [1, 2, 3, 4, 0] rfl) q32 (fun H locs ls hW hl => ?_)
    obtain ⟨w3_33, ew3_33⟩ : ∃ y : Int32, y = v3_115 + (-1) := ⟨_, rfl⟩
    have h := lb_at ew3_33 h
    refine lv_iinc (v := w3_33) (lv' := [(3, .int w3_33), (0, .ref (a_o 0)), (1, .int v1_115), (2, .int v2_115)]) hx hb dX11_findStanding_177 hl (k := 3) rfl (by rw [ew3_33]; rfl) (by decide) rfl (fun ls hl => ?_)
    refine lv_goto (tgt := 7) hx hb dX11_findStanding_180 (by decide) ?_
    obtain ⟨rfl, rfl, rfl⟩ := ret3 h
    exact k0 rfl H locs ls hW (lv_sub hl [1, 2, 3, 0] rfl)
  have J114 : ∀ (x_o_114 : Ob) (v1_114 : Int32) (v2_114 : Int32) (v3_114 : Int32) (s1_114 : Int32) (H : Heap) (locs : List Loc) (ls : Array Slot) (code : Nat) (o3j : Int32) (y_oj : Ob), Wd D A s.heap (oc_X11 T a_o x_o_114 ++ Z) H locs → lv_has ls 6 [(0, .ref (a_o 0)), (1, .int v1_114), (2, .int v2_114), (3, .int v3_114)] → f_X11_findStanding_J114 x_o_114 v1_114 v2_114 v3_114 s1_114 = some (code, o3j, y_oj) → (code = 0 → ∀ (H : Heap) (locs : List Loc) (ls : Array Slot), Wd D A s.heap (oc_X11 T a_o y_oj ++ Z) H locs → lv_has ls 6 [(0, .ref (a_o 0)), (1, .int v1_114), (2, .int v2_114), (3, .int o3j)] → W p l e (rmd 3) s m args below meth c H locs 0 0 Q (F0 m 7 ls [])) → (code = 1 → ∀ (H : Heap) (locs : List Loc) (ls : Array Slot), Wd D A s.heap (oc_X11 T a_o y_oj ++ Z) H locs → lv_has ls 6 [] → W p l e (rmd 3) s m args below meth c H locs 0 0 Q (F0 m 183 ls [])) → W p l e (rmd 3) s m args below meth c H locs 0 0 Q (F0 m 114 ls [.int s1_114, .ref (a_o 57)]) := by
    intro x_o_114 v1_114 v2_114 v3_114 s1_114 H locs ls code o3j y_oj hW hl h k0 k1
    rw [f_X11_findStanding_J114] at h
    refine lv_iconst (v := 0) hx hb dX11_findStanding_114 (by decide) ?_
    exact J115 _ _ _ _ _ _ H locs ls _ _ _ hW (lv_sub hl [0, 1, 2, 3] rfl) h k0 k1
  have J65 : ∀ (x_o_65 : Ob) (v1_65 : Int32) (v2_65 : Int32) (v3_65 : Int32) (s0_65 : Int32) (H : Heap) (locs : List Loc) (ls : Array Slot) (code : Nat) (o3j : Int32) (y_oj : Ob), Wd D A s.heap (oc_X11 T a_o x_o_65 ++ Z) H locs → lv_has ls 6 [(0, .ref (a_o 0)), (1, .int v1_65), (2, .int v2_65), (3, .int v3_65)] → f_X11_findStanding_J65 x_o_65 v1_65 v2_65 v3_65 s0_65 = some (code, o3j, y_oj) → (code = 0 → ∀ (H : Heap) (locs : List Loc) (ls : Array Slot), Wd D A s.heap (oc_X11 T a_o y_oj ++ Z) H locs → lv_has ls 6 [(0, .ref (a_o 0)), (1, .int v1_65), (2, .int v2_65), (3, .int o3j)] → W p l e (rmd 3) s m args below meth c H locs 0 0 Q (F0 m 7 ls [])) → (code = 1 → ∀ (H : Heap) (locs : List Loc) (ls : Array Slot), Wd D A s.heap (oc_X11 T a_o y_oj ++ Z) H locs → lv_has ls 6 [] → W p l e (rmd 3) s m args below meth c H locs 0 0 Q (F0 m 183 ls [])) → W p l e (rmd 3) s m args below meth c H locs 0 0 Q (F0 m 65 ls [.int s0_65]) := by
    intro x_o_65 v1_65 v2_65 v3_65 s0_65 H locs ls code o3j y_oj hW hl h k0 k1
    rw [f_X11_findStanding_J65] at h
    refine lv_istore (lv' := [(4, .int s0_65), (0, .ref (a_o 0)), (1, .int v1_65), (2, .int v2_65), (3, .int v3_65)]) hx hb dX11_findStanding_65 hl (by decide) rfl (fun ls hl => ?_)
    refine lv_aload_n hx hb dX11_findStanding_67 rfl (lv_at hl 1 rfl) ?_
    refine fg_X11_180 (v := .ref (a_o 57)) hx hb hts hown hK hW 0 rfl rfl dX11_findStanding_68 ?_
    refine lv_iload_n hx hb dX11_findStanding_71 rfl (lv_at hl 4 rfl) ?_
    refine lv_iload hx hb dX11_findStanding_72 (lv_at hl 0 rfl) ?_
    refine lv_if_eq (tgt := 114) hx hb dX11_findStanding_74 (by decide) (fun c7 => ?_) (fun c7 => ?_)
    · have h := ite_t c7 h
      exact J114 _ _ _ _ _ H locs ls _ _ _ hW (lv_sub hl [1, 2, 3, 4] rfl) h k0 k1
    · have h := ite_f c7 h
      refine lv_aload_n hx hb dX11_findStanding_77 rfl (lv_at hl 1 rfl) ?_
      refine fg_X11_174 (v := .ref (a_o 55)) hx hb hts hown hK hW 0 rfl rfl dX11_findStanding_78 ?_
      refine lv_iload_n hx hb dX11_findStanding_81 rfl (lv_at hl 4 rfl) ?_
      obtain ⟨g34, h⟩ := grd_s h
      refine g_zald hx hb hK hW 55 rfl g34 dX11_findStanding_82 ?_
      refine lv_if_ne (tgt := 114) hx hb dX11_findStanding_83 (by decide) (fun c35 => ?_) (fun c35 => ?_)
      · have h := ite_f c35 h
        exact J114 _ _ _ _ _ H locs ls _ _ _ hW (lv_sub hl [1, 2, 3, 4] rfl) h k0 k1
      · have h := ite_t c35 h
        refine lv_aload_n hx hb dX11_findStanding_86 rfl (lv_at hl 1 rfl) ?_
        refine fg_X11_177 (v := .ref (a_o 56)) hx hb hts hown hK hW 0 rfl rfl dX11_findStanding_87 ?_
        refine lv_bipush (v := 40) hx hb dX11_findStanding_90 (by decide) ?_
        refine lv_iload_n hx hb dX11_findStanding_92 rfl (lv_at hl 4 rfl) ?_
        refine lv_imul hx hb dX11_findStanding_93 ?_
        refine lv_aload_n hx hb dX11_findStanding_94 rfl (lv_at hl 1 rfl) ?_
        refine fg_X11_37 (v := .ref (a_o 10)) hx hb hts hown hK hW 0 rfl rfl dX11_findStanding_95 ?_
        refine lv_bipush (v := 6) hx hb dX11_findStanding_98 (by decide) ?_
        refine lv_iload_n hx hb dX11_findStanding_100 rfl (lv_at hl 2 rfl) ?_
        refine lv_imul hx hb dX11_findStanding_101 ?_
        refine lv_iload_n hx hb dX11_findStanding_102 rfl (lv_at hl 3 rfl) ?_
        refine lv_iadd hx hb dX11_findStanding_103 ?_
        obtain ⟨g36, h⟩ := grd_s h
        refine g_iald hx hb hK hW 10 rfl g36 dX11_findStanding_104 ?_
        refine lv_iadd hx hb dX11_findStanding_105 ?_
        obtain ⟨g37, h⟩ := grd_s h
        refine g_zald hx hb hK hW 56 rfl g37 dX11_findStanding_106 ?_
        refine lv_if_ne (tgt := 114) hx hb dX11_findStanding_107 (by decide) (fun c38 => ?_) (fun c38 => ?_)
        · have h := ite_f c38 h
          exact J114 _ _ _ _ _ H locs ls _ _ _ hW (lv_sub hl [1, 2, 3, 4] rfl) h k0 k1
        · have h := ite_t c38 h
          refine lv_iconst (v := 1) hx hb dX11_findStanding_110 (by decide) ?_
          refine lv_goto (tgt := 115) hx hb dX11_findStanding_111 (by decide) ?_
          exact J115 _ _ _ _ _ _ H locs ls _ _ _ hW (lv_sub hl [1, 2, 3, 4] rfl) h k0 k1
  have J64 : ∀ (x_o_64 : Ob) (v1_64 : Int32) (v2_64 : Int32) (v3_64 : Int32) (H : Heap) (locs : List Loc) (ls : Array Slot) (code : Nat) (o3j : Int32) (y_oj : Ob), Wd D A s.heap (oc_X11 T a_o x_o_64 ++ Z) H locs → lv_has ls 6 [(0, .ref (a_o 0)), (1, .int v1_64), (2, .int v2_64), (3, .int v3_64)] → f_X11_findStanding_J64 x_o_64 v1_64 v2_64 v3_64 = some (code, o3j, y_oj) → (code = 0 → ∀ (H : Heap) (locs : List Loc) (ls : Array Slot), Wd D A s.heap (oc_X11 T a_o y_oj ++ Z) H locs → lv_has ls 6 [(0, .ref (a_o 0)), (1, .int v1_64), (2, .int v2_64), (3, .int o3j)] → W p l e (rmd 3) s m args below meth c H locs 0 0 Q (F0 m 7 ls [])) → (code = 1 → ∀ (H : Heap) (locs : List Loc) (ls : Array Slot), Wd D A s.heap (oc_X11 T a_o y_oj ++ Z) H locs → lv_has ls 6 [] → W p l e (rmd 3) s m args below meth c H locs 0 0 Q (F0 m 183 ls [])) → W p l e (rmd 3) s m args below meth c H locs 0 0 Q (F0 m 64 ls []) := by
    intro x_o_64 v1_64 v2_64 v3_64 H locs ls code o3j y_oj hW hl h k0 k1
    rw [f_X11_findStanding_J64] at h
    refine lv_iconst (v := 0) hx hb dX11_findStanding_64 (by decide) ?_
    exact J65 _ _ _ _ _ H locs ls _ _ _ hW (lv_sub hl [0, 1, 2, 3] rfl) h k0 k1
  have L7 : ∀ (n : Nat) (x_o_7 : Ob) (v1_7 : Int32) (v2_7 : Int32) (v3_7 : Int32) (H : Heap) (locs : List Loc) (ls : Array Slot) (o3_7r : Int32) (y_o_7r : Ob), Wd D A s.heap (oc_X11 T a_o x_o_7 ++ Z) H locs → lv_has ls 6 [(0, .ref (a_o 0)), (1, .int v1_7), (2, .int v2_7), (3, .int v3_7)] → f_X11_findStanding_L7 n x_o_7 v1_7 v2_7 v3_7 = some (o3_7r, y_o_7r) → (∀ (H : Heap) (locs : List Loc) (ls : Array Slot), Wd D A s.heap (oc_X11 T a_o y_o_7r ++ Z) H locs → lv_has ls 6 [] → W p l e (rmd 3) s m args below meth c H locs 0 0 Q (F0 m 183 ls [])) → W p l e (rmd 3) s m args below meth c H locs 0 0 Q (F0 m 7 ls []) := by
    intro n
    induction n with
    | zero =>
      intro x_o_7 v1_7 v2_7 v3_7 H locs ls o3_7r y_o_7r hW hl h k1
      rw [f_X11_findStanding_L7] at h
      cases h
    | succ n ih =>
      intro x_o_7 v1_7 v2_7 v3_7 H locs ls o3_7r y_o_7r hW hl h k1
      rw [f_X11_findStanding_L7] at h
      refine lv_iload_n hx hb dX11_findStanding_7 rfl (lv_at hl 3 rfl) ?_
      refine lv_if_lt (tgt := 183) hx hb dX11_findStanding_8 (by decide) (fun c2 => ?_) (fun c2 => ?_)
      · have h := ite_t c2 h
        obtain ⟨rfl, rfl⟩ := ret2 h
        exact k1 H locs ls hW (lv_sub hl [] rfl)
      · have h := ite_f c2 h
        refine lv_aload_n hx hb dX11_findStanding_11 rfl (lv_at hl 0 rfl) ?_
        refine lv_iload_n hx hb dX11_findStanding_12 rfl (lv_at hl 1 rfl) ?_
        refine lv_iload_n hx hb dX11_findStanding_13 rfl (lv_at hl 2 rfl) ?_
        refine lv_aload_n hx hb dX11_findStanding_14 rfl (lv_at hl 0 rfl) ?_
        refine fg_X11_162 (v := .ref (a_o 51)) hx hb hts hown hK hW 0 rfl rfl dX11_findStanding_15 ?_
        refine lv_iload_n hx hb dX11_findStanding_18 rfl (lv_at hl 3 rfl) ?_
        obtain ⟨g3, h⟩ := grd_s h
        refine g_iald hx hb hK hW 51 rfl g3 dX11_findStanding_19 ?_
        obtain ⟨r4, q5, h⟩ := bnd1_s h
        refine cl_X11_354 hx hb hml hown hts hK hN hW (c_X11_hasLeft l D T A a_o (Z) x_o_7 v1_7 v2_7 (x_o_7 60 v3_7.toNatClampNeg) r4 q5) ⟨Nat.le_of_ble_eq_true rfl, Nat.le_of_ble_eq_true rfl⟩ hl.1 rfl (Nat.le_of_ble_eq_true rfl) dX11_findStanding_20 ⟨Nat.zero_le _, Nat.zero_le _⟩ rfl (fun H locs hW => ?_)
        refine lv_if_eq (tgt := 64) hx hb dX11_findStanding_23 (by decide) (fun c6 => ?_) (fun c6 => ?_)
        · have h := ite_t c6 h
          obtain ⟨code40, o3_t39, y_o_t39, q41, h⟩ := bnd3_s h
          refine J64 _ _ _ _ H locs ls code40 o3_t39 y_o_t39 hW (lv_sub hl [0, 1, 2, 3] rfl) q41 (fun hc H locs ls hW hl => ?_) (fun hc H locs ls hW hl => ?_)
          · have h := ite_t hc h
            exact ih _ _ _ _ H locs ls _ _ hW (lv_sub hl [0, 1, 2, 3] rfl) h k1
          · have h := ite_f (by rw [hc]; decide) h
            obtain ⟨rfl, rfl⟩ := ret2 h
            exact k1 H locs ls hW hl
        · have h := ite_f c6 h
          refine lv_aload_n hx hb dX11_findStanding_26 rfl (lv_at hl 0 rfl) ?_
          refine lv_iload_n hx hb dX11_findStanding_27 rfl (lv_at hl 1 rfl) ?_
          refine lv_iload_n hx hb dX11_findStanding_28 rfl (lv_at hl 2 rfl) ?_
          refine lv_iconst (v := 1) hx hb dX11_findStanding_29 (by decide) ?_
          refine lv_iadd hx hb dX11_findStanding_30 ?_
          refine lv_aload_n hx hb dX11_findStanding_31 rfl (lv_at hl 0 rfl) ?_
          refine fg_X11_165 (v := .ref (a_o 52)) hx hb hts hown hK hW 0 rfl rfl dX11_findStanding_32 ?_
          refine lv_iload_n hx hb dX11_findStanding_35 rfl (lv_at hl 3 rfl) ?_
          obtain ⟨g42, h⟩ := grd_s h
          refine g_iald hx hb hK hW 52 rfl g42 dX11_findStanding_36 ?_
          obtain ⟨r43, q44, h⟩ := bnd1_s h
          refine cl_X11_354 hx hb hml hown hts hK hN hW (c_X11_hasLeft l D T A a_o (Z) x_o_7 v1_7 (v2_7 + 1) (x_o_7 61 v3_7.toNatClampNeg) r43 q44) ⟨Nat.le_of_ble_eq_true rfl, Nat.le_of_ble_eq_true rfl⟩ hl.1 rfl (Nat.le_of_ble_eq_true rfl) dX11_findStanding_37 ⟨Nat.zero_le _, Nat.zero_le _⟩ rfl (fun H locs hW => ?_)
          refine lv_if_eq (tgt := 64) hx hb dX11_findStanding_40 (by decide) (fun c45 => ?_) (fun c45 => ?_)
          · have h := ite_t c45 h
            obtain ⟨code47, o3_t46, y_o_t46, q48, h⟩ := bnd3_s h
            refine J64 _ _ _ _ H locs ls code47 o3_t46 y_o_t46 hW (lv_sub hl [0, 1, 2, 3] rfl) q48 (fun hc H locs ls hW hl => ?_) (fun hc H locs ls hW hl => ?_)
            · have h := ite_t hc h
              exact ih _ _ _ _ H locs ls _ _ hW (lv_sub hl [0, 1, 2, 3] rfl) h k1
            · have h := ite_f (by rw [hc]; decide) h
              obtain ⟨rfl, rfl⟩ := ret2 h
              exact k1 H locs ls hW hl
          · have h := ite_f c45 h
            refine lv_aload_n hx hb dX11_findStanding_43 rfl (lv_at hl 0 rfl) ?_
            refine lv_iload_n hx hb dX11_findStanding_44 rfl (lv_at hl 1 rfl) ?_
            refine lv_iload_n hx hb dX11_findStanding_45 rfl (lv_at hl 2 rfl) ?_
            refine lv_iconst (v := 2) hx hb dX11_findStanding_46 (by decide) ?_
            refine lv_iadd hx hb dX11_findStanding_47 ?_
            refine lv_aload_n hx hb dX11_findStanding_48 rfl (lv_at hl 0 rfl) ?_
            refine fg_X11_168 (v := .ref (a_o 53)) hx hb hts hown hK hW 0 rfl rfl dX11_findStanding_49 ?_
            refine lv_iload_n hx hb dX11_findStanding_52 rfl (lv_at hl 3 rfl) ?_
            obtain ⟨g49, h⟩ := grd_s h
            refine g_iald hx hb hK hW 53 rfl g49 dX11_findStanding_53 ?_
            obtain ⟨r50, q51, h⟩ := bnd1_s h
            refine cl_X11_354 hx hb hml hown hts hK hN hW (c_X11_hasLeft l D T A a_o (Z) x_o_7 v1_7 (v2_7 + 2) (x_o_7 62 v3_7.toNatClampNeg) r50 q51) ⟨Nat.le_of_ble_eq_true rfl, Nat.le_of_ble_eq_true rfl⟩ hl.1 rfl (Nat.le_of_ble_eq_true rfl) dX11_findStanding_54 ⟨Nat.zero_le _, Nat.zero_le _⟩ rfl (fun H locs hW => ?_)
            refine lv_if_eq (tgt := 64) hx hb dX11_findStanding_57 (by decide) (fun c52 => ?_) (fun c52 => ?_)
            · have h := ite_t c52 h
              obtain ⟨code54, o3_t53, y_o_t53, q55, h⟩ := bnd3_s h
              refine J64 _ _ _ _ H locs ls code54 o3_t53 y_o_t53 hW (lv_sub hl [0, 1, 2, 3] rfl) q55 (fun hc H locs ls hW hl => ?_) (fun hc H locs ls hW hl => ?_)
              · have h := ite_t hc h
                exact ih _ _ _ _ H locs ls _ _ hW (lv_sub hl [0, 1, 2, 3] rfl) h k1
              · have h := ite_f (by rw [hc]; decide) h
                obtain ⟨rfl, rfl⟩ := ret2 h
                exact k1 H locs ls hW hl
            · have h := ite_f c52 h
              refine lv_iconst (v := 1) hx hb dX11_findStanding_60 (by decide) ?_
              refine lv_goto (tgt := 65) hx hb dX11_findStanding_61 (by decide) ?_
              obtain ⟨code57, o3_t56, y_o_t56, q58, h⟩ := bnd3_s h
              refine J65 _ _ _ _ _ H locs ls code57 o3_t56 y_o_t56 hW (lv_sub hl [0, 1, 2, 3] rfl) q58 (fun hc H locs ls hW hl => ?_) (fun hc H locs ls hW hl => ?_)
              · have h := ite_t hc h
                exact ih _ _ _ _ H locs ls _ _ hW (lv_sub hl [0, 1, 2, 3] rfl) h k1
              · have h := ite_f (by rw [hc]; decide) h
                obtain ⟨rfl, rfl⟩ := ret2 h
                exact k1 H locs ls hW hl
  rw [f_X11_findStanding] at h
  suffices hm : ∀ (H : Heap) (locs : List Loc), Wd D A s.heap (oc_X11 T a_o x_o ++ Z) H locs → W p l e (rmd 3) s m args below meth c H locs 0 0 Q (F0 m 0 ls []) from hm _ _ hW
  intro H locs hW
  refine lv_aload_n hx hb dX11_findStanding_0 rfl (lv_at hl 0 rfl) ?_
  refine fg_X11_351 (v := .int (x_o 59 0)) hx hb hts hown hK hW 0 rfl rfl dX11_findStanding_1 ?_
  refine lv_iconst (v := 1) hx hb dX11_findStanding_4 (by decide) ?_
  refine lv_isub hx hb dX11_findStanding_5 ?_
  refine lv_topi (fun w3_1 ew3_1 => ?_)
  have h := lb_at ew3_1 h
  refine lv_istore_n (lv' := [(3, .int w3_1), (0, .ref (a_o 0)), (1, .int p1), (2, .int p2)]) hx hb dX11_findStanding_6 rfl hl (by decide) rfl (fun ls hl => ?_)
  obtain ⟨o3_u59, y_o_u59, q60, h⟩ := bnd2_s h
  refine L7 200 _ _ _ _ H locs ls o3_u59 y_o_u59 hW (lv_sub hl [1, 2, 3, 0] rfl) q60 (fun H locs ls hW hl => ?_)
  obtain rfl := ret1 h
  rw [hQ]
  exact g_retv hx hb hr hlk hW dX11_findStanding_183
set_option maxHeartbeats 4000000 in
set_option maxRecDepth 100000 in
theorem c_X11_styleOf (l : Launch) (D : va_G) (T : Nat → ClassId) (A : Nat → Prop) (a_o : Nat → Nat) (Z : va_W)  (x_o : Ob) (p1 : Int32) (p2 : Int32) (r : Int32) (x_o9 : Ob) (h : f_X11_styleOf x_o p1 p2 = some (r, x_o9)) : Met l yX11_styleOf (Cond.code yX11_styleOf cX11_styleOf 6 (some .int) :: wsL_law) (rmd 5) (Pg D T A (oc_X11 T a_o x_o ++ Z) [.ref (a_o 0), .int p1, .int p2]) (Qgi D A (oc_X11 T a_o x_o9 ++ Z) r) 0 0 A := by
  refine Met.ofW (cc := cX11_styleOf) (maxL := 6) (ret := (some .int)) (by decide +kernel) rfl ?_
  intro p e s m args below meth c s₁ B hml hv
  obtain ⟨ha, hP, hK, hD, hN⟩ := hv
  have hx := B.exec
  have hb := B.bytes
  have hr := B.returns
  have hlk := B.notSynchronized
  have hts : ∀ w ∈ wsL_law, w.before args s = true := fun w hw => atoms_spec B.pre w (List.mem_cons_of_mem _ hw)
  have hown : s.vm.findClass RX11 = some m.cls := findClass_of_methodNamed B.named
  have hW : Wd D A s.heap (oc_X11 T a_o x_o ++ Z) s.heap [] := ⟨hP, hD, va_S.rf⟩
  have hl := lv_entry [.ref (a_o 0), .int p1, .int p2] (n := 6) (Nat.le_of_ble_eq_true rfl)
  refine W.eq (en_eq ha) ?_
  generalize (lg_sl [.ref (a_o 0), .int p1, .int p2] ++ List.replicate (6 - (lg_sl [.ref (a_o 0), .int p1, .int p2]).length) Slot.unset).toArray = ls at hl ⊢
  have hl : lv_has ls 6 [(0, .ref (a_o 0)), (1, .int p1), (2, .int p2)] := hl
  clear hP hD B ha
  obtain ⟨Q, hQ⟩ : ∃ Q, Q = MQ below (Qgi D A (oc_X11 T a_o x_o9 ++ Z) r) args s 0 0 A := ⟨_, rfl⟩
  rw [← hQ]
  change W p l e (rmd 5) s m args below meth c s.heap [] 0 0 Q (F0 m 0 ls [])
  have L31 : ∀ (n : Nat) (x_o_31 : Ob) (v1_31 : Int32) (v2_31 : Int32) (v3_31 : Int32) (v4_31 : Int32) (v5_31 : Int32) (H : Heap) (locs : List Loc) (ls : Array Slot) (code : Nat) (o3_31r : Int32) (o5_31r : Int32), Wd D A s.heap (oc_X11 T a_o x_o_31 ++ Z) H locs → lv_has ls 6 [(0, .ref (a_o 0)), (1, .int v1_31), (2, .int v2_31), (3, .int v3_31), (4, .int v4_31), (5, .int v5_31)] → f_X11_styleOf_L31 n x_o_31 v1_31 v2_31 v3_31 v4_31 v5_31 = some (code, o3_31r, o5_31r) → (code = 1 → ∀ (H : Heap) (locs : List Loc) (ls : Array Slot), Wd D A s.heap (oc_X11 T a_o x_o_31 ++ Z) H locs → lv_has ls 6 [(0, .ref (a_o 0)), (1, .int v1_31), (2, .int v2_31), (3, .int o3_31r), (4, .int v4_31)] → W p l e (rmd 5) s m args below meth c H locs 0 0 Q (F0 m 84 ls [])) → (code = 2 → ∀ (H : Heap) (locs : List Loc) (ls : Array Slot), Wd D A s.heap (oc_X11 T a_o x_o_31 ++ Z) H locs → lv_has ls 6 [(4, .int v4_31), (5, .int o5_31r)] → W p l e (rmd 5) s m args below meth c H locs 0 0 Q (F0 m 66 ls [])) → W p l e (rmd 5) s m args below meth c H locs 0 0 Q (F0 m 31 ls []) := by
    intro n
    induction n with
    | zero =>
      intro x_o_31 v1_31 v2_31 v3_31 v4_31 v5_31 H locs ls code o3_31r o5_31r hW hl h k1 k2
      rw [f_X11_styleOf_L31] at h
      cases h
    | succ n ih =>
      intro x_o_31 v1_31 v2_31 v3_31 v4_31 v5_31 H locs ls code o3_31r o5_31r hW hl h k1 k2
      rw [f_X11_styleOf_L31] at h
      refine lv_iload hx hb dX11_styleOf_31 (lv_at hl 5 rfl) ?_
      refine lv_aload_n hx hb dX11_styleOf_33 rfl (lv_at hl 0 rfl) ?_
      refine fg_X11_351 (v := .int (x_o_31 59 0)) hx hb hts hown hK hW 0 rfl rfl dX11_styleOf_34 ?_
      refine lv_icmp_ge (tgt := 84) hx hb dX11_styleOf_37 (by decide) (fun c7 => ?_) (fun c7 => ?_)
      · have h := ite_t c7 h
        obtain ⟨rfl, rfl, rfl⟩ := ret3 h
        exact k1 rfl H locs ls hW (lv_sub hl [0, 1, 2, 3, 4] rfl)
      · have h := ite_f c7 h
        refine lv_aload_n hx hb dX11_styleOf_40 rfl (lv_at hl 0 rfl) ?_
        refine fg_X11_171 (v := .ref (a_o 54)) hx hb hts hown hK hW 0 rfl rfl dX11_styleOf_41 ?_
        refine lv_iload hx hb dX11_styleOf_44 (lv_at hl 5 rfl) ?_
        obtain ⟨g8, h⟩ := grd_s h
        refine g_iald hx hb hK hW 54 rfl g8 dX11_styleOf_46 ?_
        refine lv_iconst (v := (-1)) hx hb dX11_styleOf_47 (by decide) ?_
        refine lv_icmp_ne (tgt := 78) hx hb dX11_styleOf_48 (by decide) (fun c9 => ?_) (fun c9 => ?_)
        · have h := ite_f c9 h
          obtain ⟨w5_10, ew5_10⟩ : ∃ y : Int32, y = v5_31 + 1 := ⟨_, rfl⟩
          have h := lb_at ew5_10 h
          refine lv_iinc (v := w5_10) (lv' := [(5, .int w5_10), (0, .ref (a_o 0)), (1, .int v1_31), (2, .int v2_31), (3, .int v3_31), (4, .int v4_31)]) hx hb dX11_styleOf_78 hl (k := 5) rfl (by rw [ew5_10]; rfl) (by decide) rfl (fun ls hl => ?_)
          refine lv_goto (tgt := 31) hx hb dX11_styleOf_81 (by decide) ?_
          exact ih _ _ _ _ _ _ H locs ls _ _ _ hW (lv_sub hl [1, 2, 3, 4, 5, 0] rfl) h k1 k2
        · have h := ite_t c9 h
          refine lv_aload_n hx hb dX11_styleOf_51 rfl (lv_at hl 0 rfl) ?_
          refine fg_X11_180 (v := .ref (a_o 57)) hx hb hts hown hK hW 0 rfl rfl dX11_styleOf_52 ?_
          refine lv_iload hx hb dX11_styleOf_55 (lv_at hl 5 rfl) ?_
          obtain ⟨g11, h⟩ := grd_s h
          refine g_zald hx hb hK hW 57 rfl g11 dX11_styleOf_57 ?_
          refine lv_if_eq (tgt := 78) hx hb dX11_styleOf_58 (by decide) (fun c12 => ?_) (fun c12 => ?_)
          · have h := ite_t c12 h
            obtain ⟨w5_13, ew5_13⟩ : ∃ y : Int32, y = v5_31 + 1 := ⟨_, rfl⟩
            have h := lb_at ew5_13 h
            refine lv_iinc (v := w5_13) (lv' := [(5, .int w5_13), (0, .ref (a_o 0)), (1, .int v1_31), (2, .int v2_31), (3, .int v3_31), (4, .int v4_31)]) hx hb dX11_styleOf_78 hl (k := 5) rfl (by rw [ew5_13]; rfl) (by decide) rfl (fun ls hl => ?_)
            refine lv_goto (tgt := 31) hx hb dX11_styleOf_81 (by decide) ?_
            exact ih _ _ _ _ _ _ H locs ls _ _ _ hW (lv_sub hl [1, 2, 3, 4, 5, 0] rfl) h k1 k2
          · have h := ite_f c12 h
            refine lv_iload_n hx hb dX11_styleOf_61 rfl (lv_at hl 3 rfl) ?_
            refine lv_iload_n hx hb dX11_styleOf_62 rfl (lv_at hl 2 rfl) ?_
            refine lv_icmp_ne (tgt := 75) hx hb dX11_styleOf_63 (by decide) (fun c14 => ?_) (fun c14 => ?_)
            · have h := ite_f c14 h
              obtain ⟨w3_15, ew3_15⟩ : ∃ y : Int32, y = v3_31 + 1 := ⟨_, rfl⟩
              have h := lb_at ew3_15 h
              refine lv_iinc (v := w3_15) (lv' := [(3, .int w3_15), (0, .ref (a_o 0)), (1, .int v1_31), (2, .int v2_31), (4, .int v4_31), (5, .int v5_31)]) hx hb dX11_styleOf_75 hl (k := 3) rfl (by rw [ew3_15]; rfl) (by decide) rfl (fun ls hl => ?_)
              obtain ⟨w5_16, ew5_16⟩ : ∃ y : Int32, y = v5_31 + 1 := ⟨_, rfl⟩
              have h := lb_at ew5_16 h
              refine lv_iinc (v := w5_16) (lv' := [(5, .int w5_16), (3, .int w3_15), (0, .ref (a_o 0)), (1, .int v1_31), (2, .int v2_31), (4, .int v4_31)]) hx hb dX11_styleOf_78 hl (k := 5) rfl (by rw [ew5_16]; rfl) (by decide) rfl (fun ls hl => ?_)
              refine lv_goto (tgt := 31) hx hb dX11_styleOf_81 (by decide) ?_
              exact ih _ _ _ _ _ _ H locs ls _ _ _ hW (lv_sub hl [2, 3, 4, 1, 5, 0] rfl) h k1 k2
            · have h := ite_t c14 h
              obtain ⟨rfl, rfl, rfl⟩ := ret3 h
              exact k2 rfl H locs ls hW (lv_sub hl [4, 5] rfl)
  have L10 : ∀ (n : Nat) (x_o_10 : Ob) (v1_10 : Int32) (v2_10 : Int32) (v3_10 : Int32) (v4_10 : Int32) (H : Heap) (locs : List Loc) (ls : Array Slot) (code : Nat) (o3_10r : Int32) (o4_10r : Int32) (o5_10r : Int32) (y_o_10r : Ob), Wd D A s.heap (oc_X11 T a_o x_o_10 ++ Z) H locs → lv_has ls 6 [(0, .ref (a_o 0)), (1, .int v1_10), (2, .int v2_10), (3, .int v3_10), (4, .int v4_10)] → f_X11_styleOf_L10 n x_o_10 v1_10 v2_10 v3_10 v4_10 = some (code, o3_10r, o4_10r, o5_10r, y_o_10r) → (code = 1 → ∀ (H : Heap) (locs : List Loc) (ls : Array Slot), Wd D A s.heap (oc_X11 T a_o y_o_10r ++ Z) H locs → lv_has ls 6 [(2, .int v2_10), (3, .int o3_10r)] → W p l e (rmd 5) s m args below meth c H locs 0 0 Q (F0 m 90 ls [])) → (code = 2 → ∀ (H : Heap) (locs : List Loc) (ls : Array Slot), Wd D A s.heap (oc_X11 T a_o y_o_10r ++ Z) H locs → lv_has ls 6 [(4, .int o4_10r), (5, .int o5_10r)] → W p l e (rmd 5) s m args below meth c H locs 0 0 Q (F0 m 66 ls [])) → W p l e (rmd 5) s m args below meth c H locs 0 0 Q (F0 m 10 ls []) := by
    intro n
    induction n with
    | zero =>
      intro x_o_10 v1_10 v2_10 v3_10 v4_10 H locs ls code o3_10r o4_10r o5_10r y_o_10r hW hl h k1 k2
      rw [f_X11_styleOf_L10] at h
      cases h
    | succ n ih =>
      intro x_o_10 v1_10 v2_10 v3_10 v4_10 H locs ls code o3_10r o4_10r o5_10r y_o_10r hW hl h k1 k2
      rw [f_X11_styleOf_L10] at h
      refine lv_iload hx hb dX11_styleOf_10 (lv_at hl 4 rfl) ?_
      refine lv_aload_n hx hb dX11_styleOf_12 rfl (lv_at hl 0 rfl) ?_
      refine fg_X11_34 (v := .ref (a_o 9)) hx hb hts hown hK hW 0 rfl rfl dX11_styleOf_13 ?_
      refine lv_iload_n hx hb dX11_styleOf_16 rfl (lv_at hl 1 rfl) ?_
      obtain ⟨g3, h⟩ := grd_s h
      refine g_iald hx hb hK hW 9 rfl g3 dX11_styleOf_17 ?_
      refine lv_icmp_ge (tgt := 90) hx hb dX11_styleOf_18 (by decide) (fun c4 => ?_) (fun c4 => ?_)
      · have h := ite_t c4 h
        obtain ⟨rfl, rfl, rfl, rfl, rfl⟩ := ret5 h
        exact k1 rfl H locs ls hW (lv_sub hl [2, 3] rfl)
      · have h := ite_f c4 h
        refine lv_aload_n hx hb dX11_styleOf_21 rfl (lv_at hl 0 rfl) ?_
        refine lv_iload_n hx hb dX11_styleOf_22 rfl (lv_at hl 1 rfl) ?_
        refine lv_iload hx hb dX11_styleOf_23 (lv_at hl 4 rfl) ?_
        obtain ⟨x_o5, q6, h⟩ := bnd1_s h
        refine cl_X11_357 hx hb hml hown hts hK hN hW (c_X11_findStanding l D T A a_o (Z) x_o_10 v1_10 v4_10 x_o5 q6) ⟨Nat.le_of_ble_eq_true rfl, Nat.le_of_ble_eq_true rfl⟩ hl.1 rfl (Nat.le_of_ble_eq_true rfl) dX11_styleOf_25 ⟨Nat.zero_le _, Nat.zero_le _⟩ rfl (fun H locs hW => ?_)
        refine lv_iconst (v := 0) hx hb dX11_styleOf_28 (by decide) ?_
        refine lv_istore (lv' := [(5, .int 0), (0, .ref (a_o 0)), (1, .int v1_10), (2, .int v2_10), (3, .int v3_10), (4, .int v4_10)]) hx hb dX11_styleOf_29 hl (by decide) rfl (fun ls hl => ?_)
        obtain ⟨code18, o3_u17, o5_u17, q19, h⟩ := bnd3_s h
        refine L31 200 _ _ _ _ _ _ H locs ls code18 o3_u17 o5_u17 hW (lv_sub hl [1, 2, 3, 4, 5, 0] rfl) q19 (fun hc H locs ls hW hl => ?_) (fun hc H locs ls hW hl => ?_)
        · have h := ite_t hc h
          obtain ⟨w4_20, ew4_20⟩ : ∃ y : Int32, y = v4_10 + 1 := ⟨_, rfl⟩
          have h := lb_at ew4_20 h
          refine lv_iinc (v := w4_20) (lv' := [(4, .int w4_20), (0, .ref (a_o 0)), (1, .int v1_10), (2, .int v2_10), (3, .int o3_u17)]) hx hb dX11_styleOf_84 hl (k := 4) rfl (by rw [ew4_20]; rfl) (by decide) rfl (fun ls hl => ?_)
          refine lv_goto (tgt := 10) hx hb dX11_styleOf_87 (by decide) ?_
          exact ih _ _ _ _ _ H locs ls _ _ _ _ _ hW (lv_sub hl [1, 2, 3, 4, 0] rfl) h k1 k2
        · have h := ite_f (by rw [hc]; decide) h
          obtain ⟨rfl, rfl, rfl, rfl, rfl⟩ := ret5 h
          exact k2 rfl H locs ls hW (lv_sub hl [0, 1] rfl)
  rw [f_X11_styleOf] at h
  suffices hm : ∀ (H : Heap) (locs : List Loc), Wd D A s.heap (oc_X11 T a_o x_o ++ Z) H locs → W p l e (rmd 5) s m args below meth c H locs 0 0 Q (F0 m 0 ls []) from hm _ _ hW
  intro H locs hW
  refine lv_aload_n hx hb dX11_styleOf_0 rfl (lv_at hl 0 rfl) ?_
  refine lv_iload_n hx hb dX11_styleOf_1 rfl (lv_at hl 1 rfl) ?_
  obtain ⟨x_o1, q2, h⟩ := bnd1_s h
  refine cl_X11_286 hx hb hml hown hts hK hN hW (c_X11_look l D T A a_o (Z) x_o p1 x_o1 q2) ⟨Nat.le_of_ble_eq_true rfl, Nat.le_of_ble_eq_true rfl⟩ hl.1 rfl (Nat.le_of_ble_eq_true rfl) dX11_styleOf_2 ⟨Nat.zero_le _, Nat.zero_le _⟩ rfl (fun H locs hW => ?_)
  refine lv_iconst (v := 0) hx hb dX11_styleOf_5 (by decide) ?_
  refine lv_istore_n (lv' := [(3, .int 0), (0, .ref (a_o 0)), (1, .int p1), (2, .int p2)]) hx hb dX11_styleOf_6 rfl hl (by decide) rfl (fun ls hl => ?_)
  refine lv_iconst (v := 0) hx hb dX11_styleOf_7 (by decide) ?_
  refine lv_istore (lv' := [(4, .int 0), (3, .int 0), (0, .ref (a_o 0)), (1, .int p1), (2, .int p2)]) hx hb dX11_styleOf_8 hl (by decide) rfl (fun ls hl => ?_)
  obtain ⟨code22, o3_u21, o4_u21, o5_u21, y_o_u21, q23, h⟩ := bnd5_s h
  refine L10 200 _ _ _ _ _ H locs ls code22 o3_u21 o4_u21 o5_u21 y_o_u21 hW (lv_sub hl [2, 3, 4, 1, 0] rfl) q23 (fun hc H locs ls hW hl => ?_) (fun hc H locs ls hW hl => ?_)
  · have h := ite_t hc h
    refine lv_iload_n hx hb dX11_styleOf_90 rfl (lv_at hl 0 rfl) ?_
    refine lv_iconst (v := (-1)) hx hb dX11_styleOf_91 (by decide) ?_
    refine lv_icmp_ne (tgt := 99) hx hb dX11_styleOf_92 (by decide) (fun c24 => ?_) (fun c24 => ?_)
    · have h := ite_f c24 h
      refine lv_iconst (v := (-1)) hx hb dX11_styleOf_99 (by decide) ?_
      obtain ⟨rfl, rfl⟩ := ret2 h
      rw [hQ]
      exact g_reti hx hb hr hlk hW dX11_styleOf_100
    · have h := ite_t c24 h
      refine lv_iload_n hx hb dX11_styleOf_95 rfl (lv_at hl 1 rfl) ?_
      refine lv_goto (tgt := 100) hx hb dX11_styleOf_96 (by decide) ?_
      obtain ⟨rfl, rfl⟩ := ret2 h
      rw [hQ]
      exact g_reti hx hb hr hlk hW dX11_styleOf_100
  · have h := ite_f (by rw [hc]; decide) h
    refine lv_bipush (v := 10) hx hb dX11_styleOf_66 (by decide) ?_
    refine lv_iload hx hb dX11_styleOf_68 (lv_at hl 1 rfl) ?_
    refine lv_imul hx hb dX11_styleOf_70 ?_
    refine lv_iload hx hb dX11_styleOf_71 (lv_at hl 0 rfl) ?_
    refine lv_iadd hx hb dX11_styleOf_73 ?_
    obtain ⟨rfl, rfl⟩ := ret2 h
    rw [hQ]
    exact g_reti hx hb hr hlk hW dX11_styleOf_74
set_option maxHeartbeats 4000000 in
set_option maxRecDepth 100000 in
theorem c_X11_styleFaults (l : Launch) (D : va_G) (T : Nat → ClassId) (A : Nat → Prop) (a_o : Nat → Nat) (Z : va_W)  (x_o : Ob) (p1 : Int32) (r : Int32) (x_o9 : Ob) (h : f_X11_styleFaults x_o p1 = some (r, x_o9)) : Met l yX11_styleFaults (Cond.code yX11_styleFaults cX11_styleFaults 2 (some .int) :: wsL_law) (rmd 6) (Pg D T A (oc_X11 T a_o x_o ++ Z) [.ref (a_o 0), .int p1]) (Qgi D A (oc_X11 T a_o x_o9 ++ Z) r) 0 0 A := by
  refine Met.ofW (cc := cX11_styleFaults) (maxL := 2) (ret := (some .int)) (by decide +kernel) rfl ?_
  intro p e s m args below meth c s₁ B hml hv
  obtain ⟨ha, hP, hK, hD, hN⟩ := hv
  have hx := B.exec
  have hb := B.bytes
  have hr := B.returns
  have hlk := B.notSynchronized
  have hts : ∀ w ∈ wsL_law, w.before args s = true := fun w hw => atoms_spec B.pre w (List.mem_cons_of_mem _ hw)
  have hown : s.vm.findClass RX11 = some m.cls := findClass_of_methodNamed B.named
  have hW : Wd D A s.heap (oc_X11 T a_o x_o ++ Z) s.heap [] := ⟨hP, hD, va_S.rf⟩
  have hl := lv_entry [.ref (a_o 0), .int p1] (n := 2) (Nat.le_of_ble_eq_true rfl)
  refine W.eq (en_eq ha) ?_
  generalize (lg_sl [.ref (a_o 0), .int p1] ++ List.replicate (2 - (lg_sl [.ref (a_o 0), .int p1]).length) Slot.unset).toArray = ls at hl ⊢
  have hl : lv_has ls 2 [(0, .ref (a_o 0)), (1, .int p1)] := hl
  clear hP hD B ha
  obtain ⟨Q, hQ⟩ : ∃ Q, Q = MQ below (Qgi D A (oc_X11 T a_o x_o9 ++ Z) r) args s 0 0 A := ⟨_, rfl⟩
  rw [← hQ]
  change W p l e (rmd 6) s m args below meth c s.heap [] 0 0 Q (F0 m 0 ls [])
  rw [f_X11_styleFaults] at h
  suffices hm : ∀ (H : Heap) (locs : List Loc), Wd D A s.heap (oc_X11 T a_o x_o ++ Z) H locs → W p l e (rmd 6) s m args below meth c H locs 0 0 Q (F0 m 0 ls []) from hm _ _ hW
  intro H locs hW
  refine lv_aload_n hx hb dX11_styleFaults_0 rfl (lv_at hl 0 rfl) ?_
  refine lv_iload_n hx hb dX11_styleFaults_1 rfl (lv_at hl 1 rfl) ?_
  obtain ⟨r1, q2, h⟩ := bnd1_s h
  refine cl_X11_194 hx hb hml hown hts hK hN hW (c_X11_isSentence l D T A (oc_X11 T a_o x_o ++ Z) p1 r1 q2) ⟨Nat.le_of_ble_eq_true rfl, Nat.le_of_ble_eq_true rfl⟩ hl.1 rfl (Nat.le_of_ble_eq_true rfl) dX11_styleFaults_2 ⟨Nat.zero_le _, Nat.zero_le _⟩ rfl (fun H locs hW => ?_)
  obtain ⟨r3, x_o4, q5, h⟩ := bnd2_s h
  refine cl_X11_222 hx hb hml hown hts hK hN hW (c_X11_may l D T A a_o (Z) x_o r1 r3 x_o4 q5) ⟨Nat.le_of_ble_eq_true rfl, Nat.le_of_ble_eq_true rfl⟩ hl.1 rfl (Nat.le_of_ble_eq_true rfl) dX11_styleFaults_5 ⟨Nat.zero_le _, Nat.zero_le _⟩ rfl (fun H locs hW => ?_)
  refine lv_if_eq (tgt := 20) hx hb dX11_styleFaults_8 (by decide) (fun c6 => ?_) (fun c6 => ?_)
  · have h := ite_t c6 h
    refine lv_iconst (v := 0) hx hb dX11_styleFaults_20 (by decide) ?_
    obtain ⟨rfl, rfl⟩ := ret2 h
    rw [hQ]
    exact g_reti hx hb hr hlk hW dX11_styleFaults_21
  · have h := ite_f c6 h
    refine lv_aload_n hx hb dX11_styleFaults_11 rfl (lv_at hl 0 rfl) ?_
    refine lv_iload_n hx hb dX11_styleFaults_12 rfl (lv_at hl 1 rfl) ?_
    refine lv_iconst (v := (-1)) hx hb dX11_styleFaults_13 (by decide) ?_
    obtain ⟨r7, x_o8, q9, h⟩ := bnd2_s h
    refine cl_X11_360 hx hb hml hown hts hK hN hW (c_X11_styleOf l D T A a_o (Z) x_o4 p1 (-1) r7 x_o8 q9) ⟨Nat.le_of_ble_eq_true rfl, Nat.le_of_ble_eq_true rfl⟩ hl.1 rfl (Nat.le_of_ble_eq_true rfl) dX11_styleFaults_14 ⟨Nat.zero_le _, Nat.zero_le _⟩ rfl (fun H locs hW => ?_)
    refine lv_goto (tgt := 21) hx hb dX11_styleFaults_17 (by decide) ?_
    obtain ⟨rfl, rfl⟩ := ret2 h
    rw [hQ]
    exact g_reti hx hb hr hlk hW dX11_styleFaults_21
set_option maxHeartbeats 4000000 in
set_option maxRecDepth 100000 in
theorem c_X11_styleFault (l : Launch) (D : va_G) (T : Nat → ClassId) (A : Nat → Prop) (a_o : Nat → Nat) (Z : va_W)  (x_o : Ob) (p1 : Int32) (p2 : Int32) (r : Int32) (x_o9 : Ob) (h : f_X11_styleFault x_o p1 p2 = some (r, x_o9)) : Met l yX11_styleFault (Cond.code yX11_styleFault cX11_styleFault 4 (some .int) :: wsL_law) (rmd 6) (Pg D T A (oc_X11 T a_o x_o ++ Z) [.ref (a_o 0), .int p1, .int p2]) (Qgi D A (oc_X11 T a_o x_o9 ++ Z) r) 0 0 A := by
  refine Met.ofW (cc := cX11_styleFault) (maxL := 4) (ret := (some .int)) (by decide +kernel) rfl ?_
  intro p e s m args below meth c s₁ B hml hv
  obtain ⟨ha, hP, hK, hD, hN⟩ := hv
  have hx := B.exec
  have hb := B.bytes
  have hr := B.returns
  have hlk := B.notSynchronized
  have hts : ∀ w ∈ wsL_law, w.before args s = true := fun w hw => atoms_spec B.pre w (List.mem_cons_of_mem _ hw)
  have hown : s.vm.findClass RX11 = some m.cls := findClass_of_methodNamed B.named
  have hW : Wd D A s.heap (oc_X11 T a_o x_o ++ Z) s.heap [] := ⟨hP, hD, va_S.rf⟩
  have hl := lv_entry [.ref (a_o 0), .int p1, .int p2] (n := 4) (Nat.le_of_ble_eq_true rfl)
  refine W.eq (en_eq ha) ?_
  generalize (lg_sl [.ref (a_o 0), .int p1, .int p2] ++ List.replicate (4 - (lg_sl [.ref (a_o 0), .int p1, .int p2]).length) Slot.unset).toArray = ls at hl ⊢
  have hl : lv_has ls 4 [(0, .ref (a_o 0)), (1, .int p1), (2, .int p2)] := hl
  clear hP hD B ha
  obtain ⟨Q, hQ⟩ : ∃ Q, Q = MQ below (Qgi D A (oc_X11 T a_o x_o9 ++ Z) r) args s 0 0 A := ⟨_, rfl⟩
  rw [← hQ]
  change W p l e (rmd 6) s m args below meth c s.heap [] 0 0 Q (F0 m 0 ls [])
  have J27 : ∀ (x_o_27 : Ob) (s0_27 : Int32) (H : Heap) (locs : List Loc) (ls : Array Slot), Wd D A s.heap (oc_X11 T a_o x_o_27 ++ Z) H locs → lv_has ls 4 [(0, .ref (a_o 0))] → f_X11_styleFault_J27 x_o_27 s0_27 = some (r, x_o9) → W p l e (rmd 6) s m args below meth c H locs 0 0 Q (F0 m 27 ls [.int s0_27]) := by
    intro x_o_27 s0_27 H locs ls hW hl h
    rw [f_X11_styleFault_J27] at h
    refine lv_istore_n (lv' := [(3, .int s0_27), (0, .ref (a_o 0))]) hx hb dX11_styleFault_27 rfl hl (by decide) rfl (fun ls hl => ?_)
    refine lv_aload_n hx hb dX11_styleFault_28 rfl (lv_at hl 1 rfl) ?_
    refine lv_iload_n hx hb dX11_styleFault_29 rfl (lv_at hl 0 rfl) ?_
    refine lv_iconst (v := (-1)) hx hb dX11_styleFault_30 (by decide) ?_
    refine lv_icmp_eq (tgt := 38) hx hb dX11_styleFault_31 (by decide) (fun c11 => ?_) (fun c11 => ?_)
    · have h := ite_t c11 h
      refine lv_iconst (v := 0) hx hb dX11_styleFault_38 (by decide) ?_
      obtain ⟨r12, x_o13, q14, h⟩ := bnd2_s h
      refine cl_X11_222 hx hb hml hown hts hK hN hW (c_X11_may l D T A a_o (Z) x_o_27 0 r12 x_o13 q14) ⟨Nat.le_of_ble_eq_true rfl, Nat.le_of_ble_eq_true rfl⟩ hl.1 rfl (Nat.le_of_ble_eq_true rfl) dX11_styleFault_39 ⟨Nat.zero_le _, Nat.zero_le _⟩ rfl (fun H locs hW => ?_)
      refine lv_if_eq (tgt := 49) hx hb dX11_styleFault_42 (by decide) (fun c15 => ?_) (fun c15 => ?_)
      · have h := ite_t c15 h
        refine lv_iconst (v := 0) hx hb dX11_styleFault_49 (by decide) ?_
        obtain ⟨rfl, rfl⟩ := ret2 h
        rw [hQ]
        exact g_reti hx hb hr hlk hW dX11_styleFault_50
      · have h := ite_f c15 h
        refine lv_iload_n hx hb dX11_styleFault_45 rfl (lv_at hl 0 rfl) ?_
        refine lv_goto (tgt := 50) hx hb dX11_styleFault_46 (by decide) ?_
        obtain ⟨rfl, rfl⟩ := ret2 h
        rw [hQ]
        exact g_reti hx hb hr hlk hW dX11_styleFault_50
    · have h := ite_f c11 h
      refine lv_iconst (v := 1) hx hb dX11_styleFault_34 (by decide) ?_
      refine lv_goto (tgt := 39) hx hb dX11_styleFault_35 (by decide) ?_
      obtain ⟨r16, x_o17, q18, h⟩ := bnd2_s h
      refine cl_X11_222 hx hb hml hown hts hK hN hW (c_X11_may l D T A a_o (Z) x_o_27 1 r16 x_o17 q18) ⟨Nat.le_of_ble_eq_true rfl, Nat.le_of_ble_eq_true rfl⟩ hl.1 rfl (Nat.le_of_ble_eq_true rfl) dX11_styleFault_39 ⟨Nat.zero_le _, Nat.zero_le _⟩ rfl (fun H locs hW => ?_)
      refine lv_if_eq (tgt := 49) hx hb dX11_styleFault_42 (by decide) (fun c19 => ?_) (fun c19 => ?_)
      · have h := ite_t c19 h
        refine lv_iconst (v := 0) hx hb dX11_styleFault_49 (by decide) ?_
        obtain ⟨rfl, rfl⟩ := ret2 h
        rw [hQ]
        exact g_reti hx hb hr hlk hW dX11_styleFault_50
      · have h := ite_f c19 h
        refine lv_iload_n hx hb dX11_styleFault_45 rfl (lv_at hl 0 rfl) ?_
        refine lv_goto (tgt := 50) hx hb dX11_styleFault_46 (by decide) ?_
        obtain ⟨rfl, rfl⟩ := ret2 h
        rw [hQ]
        exact g_reti hx hb hr hlk hW dX11_styleFault_50
  rw [f_X11_styleFault] at h
  suffices hm : ∀ (H : Heap) (locs : List Loc), Wd D A s.heap (oc_X11 T a_o x_o ++ Z) H locs → W p l e (rmd 6) s m args below meth c H locs 0 0 Q (F0 m 0 ls []) from hm _ _ hW
  intro H locs hW
  refine lv_aload_n hx hb dX11_styleFault_0 rfl (lv_at hl 0 rfl) ?_
  refine lv_iload_n hx hb dX11_styleFault_1 rfl (lv_at hl 1 rfl) ?_
  obtain ⟨r1, q2, h⟩ := bnd1_s h
  refine cl_X11_194 hx hb hml hown hts hK hN hW (c_X11_isSentence l D T A (oc_X11 T a_o x_o ++ Z) p1 r1 q2) ⟨Nat.le_of_ble_eq_true rfl, Nat.le_of_ble_eq_true rfl⟩ hl.1 rfl (Nat.le_of_ble_eq_true rfl) dX11_styleFault_2 ⟨Nat.zero_le _, Nat.zero_le _⟩ rfl (fun H locs hW => ?_)
  obtain ⟨r3, x_o4, q5, h⟩ := bnd2_s h
  refine cl_X11_222 hx hb hml hown hts hK hN hW (c_X11_may l D T A a_o (Z) x_o r1 r3 x_o4 q5) ⟨Nat.le_of_ble_eq_true rfl, Nat.le_of_ble_eq_true rfl⟩ hl.1 rfl (Nat.le_of_ble_eq_true rfl) dX11_styleFault_5 ⟨Nat.zero_le _, Nat.zero_le _⟩ rfl (fun H locs hW => ?_)
  refine lv_if_ne (tgt := 13) hx hb dX11_styleFault_8 (by decide) (fun c6 => ?_) (fun c6 => ?_)
  · have h := ite_f c6 h
    refine lv_iload_n hx hb dX11_styleFault_13 rfl (lv_at hl 2 rfl) ?_
    refine lv_if_ge (tgt := 21) hx hb dX11_styleFault_14 (by decide) (fun c7 => ?_) (fun c7 => ?_)
    · have h := ite_t c7 h
      refine lv_aload_n hx hb dX11_styleFault_21 rfl (lv_at hl 0 rfl) ?_
      refine lv_iload_n hx hb dX11_styleFault_22 rfl (lv_at hl 1 rfl) ?_
      refine lv_iload_n hx hb dX11_styleFault_23 rfl (lv_at hl 2 rfl) ?_
      obtain ⟨r8, x_o9, q10, h⟩ := bnd2_s h
      refine cl_X11_360 hx hb hml hown hts hK hN hW (c_X11_styleOf l D T A a_o (Z) x_o4 p1 p2 r8 x_o9 q10) ⟨Nat.le_of_ble_eq_true rfl, Nat.le_of_ble_eq_true rfl⟩ hl.1 rfl (Nat.le_of_ble_eq_true rfl) dX11_styleFault_24 ⟨Nat.zero_le _, Nat.zero_le _⟩ rfl (fun H locs hW => ?_)
      exact J27 _ _ H locs ls hW (lv_sub hl [0] rfl) h
    · have h := ite_f c7 h
      refine lv_iconst (v := (-1)) hx hb dX11_styleFault_17 (by decide) ?_
      refine lv_goto (tgt := 27) hx hb dX11_styleFault_18 (by decide) ?_
      exact J27 _ _ H locs ls hW (lv_sub hl [0] rfl) h
  · have h := ite_t c6 h
    refine lv_iconst (v := 0) hx hb dX11_styleFault_11 (by decide) ?_
    obtain ⟨rfl, rfl⟩ := ret2 h
    rw [hQ]
    exact g_reti hx hb hr hlk hW dX11_styleFault_12
