set_option maxHeartbeats 4000000 in
set_option maxRecDepth 100000 in
theorem c_X11_refer (l : Launch) (D : va_G) (T : Nat → ClassId) (A : Nat → Prop) (a_o : Nat → Nat) (Z : va_W)  (x_o : Ob) (p1 : Int32) (p2 : Int32) (x_o9 : Ob) (h : f_X11_refer x_o p1 p2 = some x_o9) : Met l yX11_refer (Cond.code yX11_refer cX11_refer 11 none :: wsL_law) (rmd 2) (Pg D T A (oc_X11 T a_o x_o ++ Z) [.ref (a_o 0), .int p1, .int p2]) (Qgv D A (oc_X11 T a_o x_o9 ++ Z)) 0 0 A := by
  refine Met.ofW (cc := cX11_refer) (maxL := 11) (ret := none) (by decide +kernel) rfl ?_
  intro p e s m args below meth c s₁ B hml hv
  obtain ⟨ha, hP, hK, hD, hN⟩ := hv
  have hx := B.exec
  have hb := B.bytes
  have hr := B.returns
  have hlk := B.notSynchronized
  have hts : ∀ w ∈ wsL_law, w.before args s = true := fun w hw => atoms_spec B.pre w (List.mem_cons_of_mem _ hw)
  have hown : s.vm.findClass RX11 = some m.cls := findClass_of_methodNamed B.named
  have hW : Wd D A s.heap (oc_X11 T a_o x_o ++ Z) s.heap [] := ⟨hP, hD, va_S.rf⟩
  have hl := lv_entry [.ref (a_o 0), .int p1, .int p2] (n := 11) (Nat.le_of_ble_eq_true rfl)
  refine W.eq (en_eq ha) ?_
  generalize (lg_sl [.ref (a_o 0), .int p1, .int p2] ++ List.replicate (11 - (lg_sl [.ref (a_o 0), .int p1, .int p2]).length) Slot.unset).toArray = ls at hl ⊢
  have hl : lv_has ls 11 [(0, .ref (a_o 0)), (1, .int p1), (2, .int p2)] := hl
  clear hP hD B ha
  obtain ⟨Q, hQ⟩ : ∃ Q, Q = MQ below (Qgv D A (oc_X11 T a_o x_o9 ++ Z)) args s 0 0 A := ⟨_, rfl⟩
  rw [← hQ]
  change W p l e (rmd 2) s m args below meth c s.heap [] 0 0 Q (F0 m 0 ls [])
  have L45 : ∀ (n : Nat) (x_o_45 : Ob) (v1_45 : Int32) (v2_45 : Int32) (v3_45 : Int32) (v4_45 : Int32) (v5_45 : Int32) (H : Heap) (locs : List Loc) (ls : Array Slot) (o5_45r : Int32), Wd D A s.heap (oc_X11 T a_o x_o_45 ++ Z) H locs → lv_has ls 11 [(0, .ref (a_o 0)), (1, .int v1_45), (2, .int v2_45), (3, .int v3_45), (4, .int v4_45), (5, .int v5_45)] → f_X11_refer_L45 n x_o_45 v1_45 v2_45 v3_45 v4_45 v5_45 = some o5_45r → (∀ (H : Heap) (locs : List Loc) (ls : Array Slot), Wd D A s.heap (oc_X11 T a_o x_o_45 ++ Z) H locs → lv_has ls 11 [(0, .ref (a_o 0)), (1, .int v1_45), (2, .int v2_45), (3, .int v3_45), (5, .int o5_45r)] → W p l e (rmd 2) s m args below meth c H locs 0 0 Q (F0 m 61 ls [])) → W p l e (rmd 2) s m args below meth c H locs 0 0 Q (F0 m 45 ls []) := by
    intro n
    induction n with
    | zero =>
      intro x_o_45 v1_45 v2_45 v3_45 v4_45 v5_45 H locs ls o5_45r hW hl h k1
      rw [f_X11_refer_L45] at h
      cases h
    | succ n ih =>
      intro x_o_45 v1_45 v2_45 v3_45 v4_45 v5_45 H locs ls o5_45r hW hl h k1
      rw [f_X11_refer_L45] at h
      refine lv_iload hx hb dX11_refer_45 (lv_at hl 4 rfl) ?_
      refine lv_iload hx hb dX11_refer_47 (lv_at hl 5 rfl) ?_
      refine lv_ishr hx hb dX11_refer_49 ?_
      refine lv_iconst (v := 1) hx hb dX11_refer_50 (by decide) ?_
      refine lv_iand hx hb dX11_refer_51 ?_
      refine lv_if_ne (tgt := 61) hx hb dX11_refer_52 (by decide) (fun c11 => ?_) (fun c11 => ?_)
      · have h := ite_f c11 h
        obtain rfl := ret1 h
        exact k1 H locs ls hW (lv_sub hl [0, 1, 2, 3, 5] rfl)
      · have h := ite_t c11 h
        obtain ⟨w5_12, ew5_12⟩ : ∃ y : Int32, y = v5_45 + 1 := ⟨_, rfl⟩
        have h := lb_at ew5_12 h
        refine lv_iinc (v := w5_12) (lv' := [(5, .int w5_12), (0, .ref (a_o 0)), (1, .int v1_45), (2, .int v2_45), (3, .int v3_45), (4, .int v4_45)]) hx hb dX11_refer_55 hl (k := 5) rfl (by rw [ew5_12]; rfl) (by decide) rfl (fun ls hl => ?_)
        refine lv_goto (tgt := 45) hx hb dX11_refer_58 (by decide) ?_
        exact ih _ _ _ _ _ _ H locs ls _ hW (lv_sub hl [1, 2, 3, 4, 5, 0] rfl) h k1
  have L130 : ∀ (n : Nat) (x_o_130 : Ob) (v1_130 : Int32) (v2_130 : Int32) (v3_130 : Int32) (v6_130 : Int32) (v7_130 : Int32) (v8_130 : Int32) (v9_130 : Int32) (H : Heap) (locs : List Loc) (ls : Array Slot) (code : Nat) (o9_130r : Int32) (o10_130r : Int32), Wd D A s.heap (oc_X11 T a_o x_o_130 ++ Z) H locs → lv_has ls 11 [(0, .ref (a_o 0)), (1, .int v1_130), (2, .int v2_130), (3, .int v3_130), (6, .int v6_130), (7, .int v7_130), (8, .int v8_130), (9, .int v9_130)] → f_X11_refer_L130 n x_o_130 v1_130 v2_130 v3_130 v6_130 v7_130 v8_130 v9_130 = some (code, o9_130r, o10_130r) → (code = 1 → ∀ (H : Heap) (locs : List Loc) (ls : Array Slot), Wd D A s.heap (oc_X11 T a_o x_o_130 ++ Z) H locs → lv_has ls 11 [(0, .ref (a_o 0)), (1, .int v1_130), (2, .int v2_130), (3, .int v3_130), (6, .int v6_130), (7, .int v7_130), (8, .int v8_130)] → W p l e (rmd 2) s m args below meth c H locs 0 0 Q (F0 m 232 ls [])) → (code = 2 → ∀ (H : Heap) (locs : List Loc) (ls : Array Slot), Wd D A s.heap (oc_X11 T a_o x_o_130 ++ Z) H locs → lv_has ls 11 [(0, .ref (a_o 0)), (3, .int v3_130), (8, .int v8_130), (9, .int o9_130r), (10, .int o10_130r)] → W p l e (rmd 2) s m args below meth c H locs 0 0 Q (F0 m 159 ls [])) → W p l e (rmd 2) s m args below meth c H locs 0 0 Q (F0 m 130 ls []) := by
    intro n
    induction n with
    | zero =>
      intro x_o_130 v1_130 v2_130 v3_130 v6_130 v7_130 v8_130 v9_130 H locs ls code o9_130r o10_130r hW hl h k1 k2
      rw [f_X11_refer_L130] at h
      cases h
    | succ n ih =>
      intro x_o_130 v1_130 v2_130 v3_130 v6_130 v7_130 v8_130 v9_130 H locs ls code o9_130r o10_130r hW hl h k1 k2
      rw [f_X11_refer_L130] at h
      refine lv_iload hx hb dX11_refer_130 (lv_at hl 7 rfl) ?_
      refine lv_if_lt (tgt := 232) hx hb dX11_refer_132 (by decide) (fun c25 => ?_) (fun c25 => ?_)
      · have h := ite_t c25 h
        obtain ⟨rfl, rfl, rfl⟩ := ret3 h
        exact k1 rfl H locs ls hW (lv_sub hl [0, 1, 2, 3, 4, 5, 6] rfl)
      · have h := ite_f c25 h
        refine lv_aload_n hx hb dX11_refer_135 rfl (lv_at hl 0 rfl) ?_
        refine lv_bipush (v := 6) hx hb dX11_refer_136 (by decide) ?_
        refine lv_iload hx hb dX11_refer_138 (lv_at hl 6 rfl) ?_
        refine lv_imul hx hb dX11_refer_140 ?_
        refine lv_iload hx hb dX11_refer_141 (lv_at hl 7 rfl) ?_
        refine lv_iadd hx hb dX11_refer_143 ?_
        refine lv_iload hx hb dX11_refer_144 (lv_at hl 4 rfl) ?_
        refine lv_iload hx hb dX11_refer_146 (lv_at hl 5 rfl) ?_
        obtain ⟨r26, q27, h⟩ := bnd1_s h
        refine cl_X11_251 hx hb hml hown hts hK hN hW (c_X11_nounAt l D T A a_o (Z) x_o_130 ((6 * v8_130) + v9_130) v6_130 v7_130 r26 q27) ⟨Nat.le_of_ble_eq_true rfl, Nat.le_of_ble_eq_true rfl⟩ hl.1 rfl (Nat.le_of_ble_eq_true rfl) dX11_refer_148 ⟨Nat.zero_le _, Nat.zero_le _⟩ rfl (fun H locs hW => ?_)
        refine lv_istore (lv' := [(10, .int r26), (0, .ref (a_o 0)), (1, .int v1_130), (2, .int v2_130), (3, .int v3_130), (6, .int v6_130), (7, .int v7_130), (8, .int v8_130), (9, .int v9_130)]) hx hb dX11_refer_151 hl (by decide) rfl (fun ls hl => ?_)
        refine lv_iload hx hb dX11_refer_153 (lv_at hl 0 rfl) ?_
        refine lv_iconst (v := (-1)) hx hb dX11_refer_155 (by decide) ?_
        refine lv_icmp_eq (tgt := 226) hx hb dX11_refer_156 (by decide) (fun c28 => ?_) (fun c28 => ?_)
        · have h := ite_t c28 h
          obtain ⟨w9_29, ew9_29⟩ : ∃ y : Int32, y = v9_130 + (-1) := ⟨_, rfl⟩
          have h := lb_at ew9_29 h
          refine lv_iinc (v := w9_29) (lv' := [(9, .int w9_29), (10, .int r26), (0, .ref (a_o 0)), (1, .int v1_130), (2, .int v2_130), (3, .int v3_130), (6, .int v6_130), (7, .int v7_130), (8, .int v8_130)]) hx hb dX11_refer_226 hl (k := 8) rfl (by rw [ew9_29]; rfl) (by decide) rfl (fun ls hl => ?_)
          refine lv_goto (tgt := 130) hx hb dX11_refer_229 (by decide) ?_
          exact ih _ _ _ _ _ _ _ _ H locs ls _ _ _ hW (lv_sub hl [2, 3, 4, 5, 6, 7, 8, 0] rfl) h k1 k2
        · have h := ite_f c28 h
          obtain ⟨rfl, rfl, rfl⟩ := ret3 h
          exact k2 rfl H locs ls hW (lv_sub hl [1, 4, 7, 8, 0] rfl)
  have J128 : ∀ (x_o_128 : Ob) (v1_128 : Int32) (v2_128 : Int32) (v3_128 : Int32) (v6_128 : Int32) (v7_128 : Int32) (v8_128 : Int32) (s0_128 : Int32) (H : Heap) (locs : List Loc) (ls : Array Slot) (code : Nat) (o8j : Int32) (o9j : Int32) (o10j : Int32), Wd D A s.heap (oc_X11 T a_o x_o_128 ++ Z) H locs → lv_has ls 11 [(0, .ref (a_o 0)), (1, .int v1_128), (2, .int v2_128), (3, .int v3_128), (6, .int v6_128), (7, .int v7_128), (8, .int v8_128)] → f_X11_refer_J128 x_o_128 v1_128 v2_128 v3_128 v6_128 v7_128 v8_128 s0_128 = some (code, o8j, o9j, o10j) → (code = 0 → ∀ (H : Heap) (locs : List Loc) (ls : Array Slot), Wd D A s.heap (oc_X11 T a_o x_o_128 ++ Z) H locs → lv_has ls 11 [(0, .ref (a_o 0)), (1, .int v1_128), (2, .int v2_128), (3, .int v3_128), (6, .int v6_128), (7, .int v7_128), (8, .int o8j)] → W p l e (rmd 2) s m args below meth c H locs 0 0 Q (F0 m 94 ls [])) → (code = 1 → ∀ (H : Heap) (locs : List Loc) (ls : Array Slot), Wd D A s.heap (oc_X11 T a_o x_o_128 ++ Z) H locs → lv_has ls 11 [] → W p l e (rmd 2) s m args below meth c H locs 0 0 Q (F0 m 238 ls [])) → (code = 2 → ∀ (H : Heap) (locs : List Loc) (ls : Array Slot), Wd D A s.heap (oc_X11 T a_o x_o_128 ++ Z) H locs → lv_has ls 11 [(0, .ref (a_o 0)), (3, .int v3_128), (8, .int o8j), (9, .int o9j), (10, .int o10j)] → W p l e (rmd 2) s m args below meth c H locs 0 0 Q (F0 m 159 ls [])) → W p l e (rmd 2) s m args below meth c H locs 0 0 Q (F0 m 128 ls [.int s0_128]) := by
    intro x_o_128 v1_128 v2_128 v3_128 v6_128 v7_128 v8_128 s0_128 H locs ls code o8j o9j o10j hW hl h k0 k1 k2
    rw [f_X11_refer_J128] at h
    refine lv_istore (lv' := [(9, .int s0_128), (0, .ref (a_o 0)), (1, .int v1_128), (2, .int v2_128), (3, .int v3_128), (6, .int v6_128), (7, .int v7_128), (8, .int v8_128)]) hx hb dX11_refer_128 hl (by decide) rfl (fun ls hl => ?_)
    obtain ⟨code31, o9_u30, o10_u30, q32, h⟩ := bnd3_s h
    refine L130 200 _ _ _ _ _ _ _ _ H locs ls code31 o9_u30 o10_u30 hW (lv_sub hl [1, 2, 3, 4, 5, 6, 7, 0] rfl) q32 (fun hc H locs ls hW hl => ?_) (fun hc H locs ls hW hl => ?_)
    · have h := ite_t hc h
      obtain ⟨w8_33, ew8_33⟩ : ∃ y : Int32, y = v8_128 + (-1) := ⟨_, rfl⟩
      have h := lb_at ew8_33 h
      refine lv_iinc (v := w8_33) (lv' := [(8, .int w8_33), (0, .ref (a_o 0)), (1, .int v1_128), (2, .int v2_128), (3, .int v3_128), (6, .int v6_128), (7, .int v7_128)]) hx hb dX11_refer_232 hl (k := 6) rfl (by rw [ew8_33]; rfl) (by decide) rfl (fun ls hl => ?_)
      refine lv_goto (tgt := 94) hx hb dX11_refer_235 (by decide) ?_
      obtain ⟨rfl, rfl, rfl, rfl⟩ := ret4 h
      exact k0 rfl H locs ls hW (lv_sub hl [1, 2, 3, 4, 5, 6, 0] rfl)
    · have h := ite_f (by rw [hc]; decide) h
      obtain ⟨rfl, rfl, rfl, rfl⟩ := ret4 h
      exact k2 rfl H locs ls hW (lv_sub hl [0, 1, 2, 3, 4] rfl)
  have L94 : ∀ (n : Nat) (x_o_94 : Ob) (v1_94 : Int32) (v2_94 : Int32) (v3_94 : Int32) (v6_94 : Int32) (v7_94 : Int32) (v8_94 : Int32) (H : Heap) (locs : List Loc) (ls : Array Slot) (code : Nat) (o8_94r : Int32) (o9_94r : Int32) (o10_94r : Int32), Wd D A s.heap (oc_X11 T a_o x_o_94 ++ Z) H locs → lv_has ls 11 [(0, .ref (a_o 0)), (1, .int v1_94), (2, .int v2_94), (3, .int v3_94), (6, .int v6_94), (7, .int v7_94), (8, .int v8_94)] → f_X11_refer_L94 n x_o_94 v1_94 v2_94 v3_94 v6_94 v7_94 v8_94 = some (code, o8_94r, o9_94r, o10_94r) → (code = 1 → ∀ (H : Heap) (locs : List Loc) (ls : Array Slot), Wd D A s.heap (oc_X11 T a_o x_o_94 ++ Z) H locs → lv_has ls 11 [] → W p l e (rmd 2) s m args below meth c H locs 0 0 Q (F0 m 238 ls [])) → (code = 2 → ∀ (H : Heap) (locs : List Loc) (ls : Array Slot), Wd D A s.heap (oc_X11 T a_o x_o_94 ++ Z) H locs → lv_has ls 11 [(0, .ref (a_o 0)), (3, .int v3_94), (8, .int o8_94r), (9, .int o9_94r), (10, .int o10_94r)] → W p l e (rmd 2) s m args below meth c H locs 0 0 Q (F0 m 159 ls [])) → W p l e (rmd 2) s m args below meth c H locs 0 0 Q (F0 m 94 ls []) := by
    intro n
    induction n with
    | zero =>
      intro x_o_94 v1_94 v2_94 v3_94 v6_94 v7_94 v8_94 H locs ls code o8_94r o9_94r o10_94r hW hl h k1 k2
      rw [f_X11_refer_L94] at h
      cases h
    | succ n ih =>
      intro x_o_94 v1_94 v2_94 v3_94 v6_94 v7_94 v8_94 H locs ls code o8_94r o9_94r o10_94r hW hl h k1 k2
      rw [f_X11_refer_L94] at h
      refine lv_iload hx hb dX11_refer_94 (lv_at hl 6 rfl) ?_
      refine lv_if_lt (tgt := 238) hx hb dX11_refer_96 (by decide) (fun c21 => ?_) (fun c21 => ?_)
      · have h := ite_t c21 h
        obtain ⟨rfl, rfl, rfl, rfl⟩ := ret4 h
        exact k1 rfl H locs ls hW (lv_sub hl [] rfl)
      · have h := ite_f c21 h
        refine lv_iload hx hb dX11_refer_99 (lv_at hl 6 rfl) ?_
        refine lv_iload_n hx hb dX11_refer_101 rfl (lv_at hl 1 rfl) ?_
        refine lv_iconst (v := 2) hx hb dX11_refer_102 (by decide) ?_
        refine lv_isub hx hb dX11_refer_103 ?_
        refine lv_icmp_lt (tgt := 238) hx hb dX11_refer_104 (by decide) (fun c22 => ?_) (fun c22 => ?_)
        · have h := ite_t c22 h
          obtain ⟨rfl, rfl, rfl, rfl⟩ := ret4 h
          exact k1 rfl H locs ls hW (lv_sub hl [] rfl)
        · have h := ite_f c22 h
          refine lv_iload hx hb dX11_refer_107 (lv_at hl 6 rfl) ?_
          refine lv_iload_n hx hb dX11_refer_109 rfl (lv_at hl 1 rfl) ?_
          refine lv_icmp_ne (tgt := 119) hx hb dX11_refer_110 (by decide) (fun c23 => ?_) (fun c23 => ?_)
          · have h := ite_f c23 h
            refine lv_aload_n hx hb dX11_refer_119 rfl (lv_at hl 0 rfl) ?_
            refine fg_X11_34 (v := .ref (a_o 9)) hx hb hts hown hK hW 0 rfl rfl dX11_refer_120 ?_
            refine lv_iload hx hb dX11_refer_123 (lv_at hl 6 rfl) ?_
            obtain ⟨g24, h⟩ := grd_s h
            refine g_iald hx hb hK hW 9 rfl g24 dX11_refer_125 ?_
            refine lv_iconst (v := 1) hx hb dX11_refer_126 (by decide) ?_
            refine lv_isub hx hb dX11_refer_127 ?_
            obtain ⟨code35, o8_t34, o9_t34, o10_t34, q36, h⟩ := bnd4_s h
            refine J128 _ _ _ _ _ _ _ _ H locs ls code35 o8_t34 o9_t34 o10_t34 hW (lv_sub hl [0, 1, 2, 3, 4, 5, 6] rfl) q36 (fun hc H locs ls hW hl => ?_) (fun hc H locs ls hW hl => ?_) (fun hc H locs ls hW hl => ?_)
            · have h := ite_t hc h
              exact ih _ _ _ _ _ _ _ H locs ls _ _ _ _ hW (lv_sub hl [0, 1, 2, 3, 4, 5, 6] rfl) h k1 k2
            · have h := ite_f (by rw [hc]; decide) h
              obtain ⟨rfl, rfl, rfl, rfl⟩ := ret4 h
              exact k1 hc H locs ls hW hl
            · have h := ite_f (by rw [hc]; decide) h
              obtain ⟨rfl, rfl, rfl, rfl⟩ := ret4 h
              exact k2 hc H locs ls hW hl
          · have h := ite_t c23 h
            refine lv_iload_n hx hb dX11_refer_113 rfl (lv_at hl 2 rfl) ?_
            refine lv_iconst (v := 1) hx hb dX11_refer_114 (by decide) ?_
            refine lv_isub hx hb dX11_refer_115 ?_
            refine lv_goto (tgt := 128) hx hb dX11_refer_116 (by decide) ?_
            obtain ⟨code38, o8_t37, o9_t37, o10_t37, q39, h⟩ := bnd4_s h
            refine J128 _ _ _ _ _ _ _ _ H locs ls code38 o8_t37 o9_t37 o10_t37 hW (lv_sub hl [0, 1, 2, 3, 4, 5, 6] rfl) q39 (fun hc H locs ls hW hl => ?_) (fun hc H locs ls hW hl => ?_) (fun hc H locs ls hW hl => ?_)
            · have h := ite_t hc h
              exact ih _ _ _ _ _ _ _ H locs ls _ _ _ _ hW (lv_sub hl [0, 1, 2, 3, 4, 5, 6] rfl) h k1 k2
            · have h := ite_f (by rw [hc]; decide) h
              obtain ⟨rfl, rfl, rfl, rfl⟩ := ret4 h
              exact k1 hc H locs ls hW hl
            · have h := ite_f (by rw [hc]; decide) h
              obtain ⟨rfl, rfl, rfl, rfl⟩ := ret4 h
              exact k2 hc H locs ls hW hl
  rw [f_X11_refer] at h
  suffices hm : ∀ (H : Heap) (locs : List Loc), Wd D A s.heap (oc_X11 T a_o x_o ++ Z) H locs → W p l e (rmd 2) s m args below meth c H locs 0 0 Q (F0 m 0 ls []) from hm _ _ hW
  intro H locs hW
  refine lv_bipush (v := 6) hx hb dX11_refer_0 (by decide) ?_
  refine lv_iload_n hx hb dX11_refer_2 rfl (lv_at hl 1 rfl) ?_
  refine lv_imul hx hb dX11_refer_3 ?_
  refine lv_iload_n hx hb dX11_refer_4 rfl (lv_at hl 2 rfl) ?_
  refine lv_iadd hx hb dX11_refer_5 ?_
  refine lv_topi (fun w3_1 ew3_1 => ?_)
  have h := lb_at ew3_1 h
  refine lv_istore_n (lv' := [(3, .int w3_1), (0, .ref (a_o 0)), (1, .int p1), (2, .int p2)]) hx hb dX11_refer_6 rfl hl (by decide) rfl (fun ls hl => ?_)
  refine lv_aload_n hx hb dX11_refer_7 rfl (lv_at hl 1 rfl) ?_
  refine fg_X11_43 (v := .ref (a_o 12)) hx hb hts hown hK hW 0 rfl rfl dX11_refer_8 ?_
  refine lv_iload_n hx hb dX11_refer_11 rfl (lv_at hl 0 rfl) ?_
  refine lv_iconst (v := (-1)) hx hb dX11_refer_12 (by decide) ?_
  obtain ⟨g2, h⟩ := grd_s h
  refine g_iast (ws9 := oc_X11 T a_o (upo x_o 12 w3_1.toNatClampNeg (-1)) ++ Z) hx hb hK hW 12 rfl g2 sa_X11_12 dX11_refer_13 (fun H locs hW => ?_)
  obtain ⟨x_o3, ex_o3⟩ : ∃ y : Ob, y = upo x_o 12 w3_1.toNatClampNeg (-1) := ⟨_, rfl⟩
  rw [← ex_o3] at hW
  have h := lb_at ex_o3 h
  refine lv_aload_n hx hb dX11_refer_14 rfl (lv_at hl 1 rfl) ?_
  refine fg_X11_46 (v := .ref (a_o 13)) hx hb hts hown hK hW 0 rfl rfl dX11_refer_15 ?_
  refine lv_iload_n hx hb dX11_refer_18 rfl (lv_at hl 0 rfl) ?_
  refine lv_iconst (v := 0) hx hb dX11_refer_19 (by decide) ?_
  obtain ⟨g4, h⟩ := grd_s h
  refine g_iast (ws9 := oc_X11 T a_o (upo x_o3 13 w3_1.toNatClampNeg 0) ++ Z) hx hb hK hW 13 rfl g4 sa_X11_13 dX11_refer_20 (fun H locs hW => ?_)
  obtain ⟨x_o5, ex_o5⟩ : ∃ y : Ob, y = upo x_o3 13 w3_1.toNatClampNeg 0 := ⟨_, rfl⟩
  rw [← ex_o5] at hW
  have h := lb_at ex_o5 h
  refine lv_aload_n hx hb dX11_refer_21 rfl (lv_at hl 1 rfl) ?_
  refine fg_X11_49 (v := .ref (a_o 14)) hx hb hts hown hK hW 0 rfl rfl dX11_refer_22 ?_
  refine lv_iload_n hx hb dX11_refer_25 rfl (lv_at hl 0 rfl) ?_
  refine lv_iconst (v := 0) hx hb dX11_refer_26 (by decide) ?_
  obtain ⟨g6, h⟩ := grd_s h
  refine g_iast (ws9 := oc_X11 T a_o (upo x_o5 14 w3_1.toNatClampNeg 0) ++ Z) hx hb hK hW 14 rfl g6 sa_X11_14 dX11_refer_27 (fun H locs hW => ?_)
  obtain ⟨x_o7, ex_o7⟩ : ∃ y : Ob, y = upo x_o5 14 w3_1.toNatClampNeg 0 := ⟨_, rfl⟩
  rw [← ex_o7] at hW
  have h := lb_at ex_o7 h
  refine lv_aload_n hx hb dX11_refer_28 rfl (lv_at hl 1 rfl) ?_
  refine lv_iload_n hx hb dX11_refer_29 rfl (lv_at hl 0 rfl) ?_
  refine lv_iconst (v := 1) hx hb dX11_refer_30 (by decide) ?_
  obtain ⟨r8, q9, h⟩ := bnd1_s h
  refine cl_X11_241 hx hb hml hown hts hK hN hW (c_X11_leftOf l D T A a_o (Z) x_o7 w3_1 1 r8 q9) ⟨Nat.le_of_ble_eq_true rfl, Nat.le_of_ble_eq_true rfl⟩ hl.1 rfl (Nat.le_of_ble_eq_true rfl) dX11_refer_31 ⟨Nat.zero_le _, Nat.zero_le _⟩ rfl (fun H locs hW => ?_)
  refine lv_istore (lv' := [(4, .int r8), (3, .int w3_1), (0, .ref (a_o 0)), (1, .int p1), (2, .int p2)]) hx hb dX11_refer_34 hl (by decide) rfl (fun ls hl => ?_)
  refine lv_iload hx hb dX11_refer_36 (lv_at hl 0 rfl) ?_
  refine lv_if_ne (tgt := 42) hx hb dX11_refer_38 (by decide) (fun c10 => ?_) (fun c10 => ?_)
  · have h := ite_f c10 h
    refine lv_iconst (v := 0) hx hb dX11_refer_42 (by decide) ?_
    refine lv_istore (lv' := [(5, .int 0), (4, .int r8), (3, .int w3_1), (0, .ref (a_o 0)), (1, .int p1), (2, .int p2)]) hx hb dX11_refer_43 hl (by decide) rfl (fun ls hl => ?_)
    obtain ⟨o5_u13, q14, h⟩ := bnd1_s h
    refine L45 200 _ _ _ _ _ _ H locs ls o5_u13 hW (lv_sub hl [3, 4, 5, 2, 1, 0] rfl) q14 (fun H locs ls hW hl => ?_)
    refine lv_aload_n hx hb dX11_refer_61 rfl (lv_at hl 0 rfl) ?_
    refine lv_aload_n hx hb dX11_refer_62 rfl (lv_at hl 0 rfl) ?_
    refine fg_X11_37 (v := .ref (a_o 10)) hx hb hts hown hK hW 0 rfl rfl dX11_refer_63 ?_
    refine lv_iload_n hx hb dX11_refer_66 rfl (lv_at hl 3 rfl) ?_
    obtain ⟨g15, h⟩ := grd_s h
    refine g_iald hx hb hK hW 10 rfl g15 dX11_refer_67 ?_
    refine lv_iload hx hb dX11_refer_68 (lv_at hl 4 rfl) ?_
    refine lv_iconst (v := 0) hx hb dX11_refer_70 (by decide) ?_
    obtain ⟨r16, q17, h⟩ := bnd1_s h
    refine cl_X11_247 hx hb hml hown hts hK hN hW (c_X11_featureOf l D T A a_o (Z) x_o7 (x_o7 10 w3_1.toNatClampNeg) o5_u13 0 r16 q17) ⟨Nat.le_of_ble_eq_true rfl, Nat.le_of_ble_eq_true rfl⟩ hl.1 rfl (Nat.le_of_ble_eq_true rfl) dX11_refer_71 ⟨Nat.zero_le _, Nat.zero_le _⟩ rfl (fun H locs hW => ?_)
    refine lv_istore (lv' := [(6, .int r16), (0, .ref (a_o 0)), (1, .int p1), (2, .int p2), (3, .int w3_1), (5, .int o5_u13)]) hx hb dX11_refer_74 hl (by decide) rfl (fun ls hl => ?_)
    refine lv_aload_n hx hb dX11_refer_76 rfl (lv_at hl 1 rfl) ?_
    refine lv_aload_n hx hb dX11_refer_77 rfl (lv_at hl 1 rfl) ?_
    refine fg_X11_37 (v := .ref (a_o 10)) hx hb hts hown hK hW 0 rfl rfl dX11_refer_78 ?_
    refine lv_iload_n hx hb dX11_refer_81 rfl (lv_at hl 4 rfl) ?_
    obtain ⟨g18, h⟩ := grd_s h
    refine g_iald hx hb hK hW 10 rfl g18 dX11_refer_82 ?_
    refine lv_iload hx hb dX11_refer_83 (lv_at hl 5 rfl) ?_
    refine lv_iconst (v := 1) hx hb dX11_refer_85 (by decide) ?_
    obtain ⟨r19, q20, h⟩ := bnd1_s h
    refine cl_X11_247 hx hb hml hown hts hK hN hW (c_X11_featureOf l D T A a_o (Z) x_o7 (x_o7 10 w3_1.toNatClampNeg) o5_u13 1 r19 q20) ⟨Nat.le_of_ble_eq_true rfl, Nat.le_of_ble_eq_true rfl⟩ hl.1 rfl (Nat.le_of_ble_eq_true rfl) dX11_refer_86 ⟨Nat.zero_le _, Nat.zero_le _⟩ rfl (fun H locs hW => ?_)
    refine lv_istore (lv' := [(7, .int r19), (6, .int r16), (0, .ref (a_o 0)), (1, .int p1), (2, .int p2), (3, .int w3_1), (5, .int o5_u13)]) hx hb dX11_refer_89 hl (by decide) rfl (fun ls hl => ?_)
    refine lv_iload_n hx hb dX11_refer_91 rfl (lv_at hl 3 rfl) ?_
    refine lv_istore (lv' := [(8, .int p1), (7, .int r19), (6, .int r16), (0, .ref (a_o 0)), (1, .int p1), (2, .int p2), (3, .int w3_1), (5, .int o5_u13)]) hx hb dX11_refer_92 hl (by decide) rfl (fun ls hl => ?_)
    obtain ⟨code41, o8_u40, o9_u40, o10_u40, q42, h⟩ := bnd4_s h
    refine L94 200 _ _ _ _ _ _ _ H locs ls code41 o8_u40 o9_u40 o10_u40 hW (lv_sub hl [3, 4, 5, 6, 2, 1, 0] rfl) q42 (fun hc H locs ls hW hl => ?_) (fun hc H locs ls hW hl => ?_)
    · have h := ite_t hc h
      obtain rfl := ret1 h
      rw [hQ]
      exact g_retv hx hb hr hlk hW dX11_refer_238
    · have h := ite_f (by rw [hc]; decide) h
      refine lv_aload_n hx hb dX11_refer_159 rfl (lv_at hl 0 rfl) ?_
      refine fg_X11_43 (v := .ref (a_o 12)) hx hb hts hown hK hW 0 rfl rfl dX11_refer_160 ?_
      refine lv_iload_n hx hb dX11_refer_163 rfl (lv_at hl 1 rfl) ?_
      refine lv_bipush (v := 10) hx hb dX11_refer_164 (by decide) ?_
      refine lv_iload hx hb dX11_refer_166 (lv_at hl 2 rfl) ?_
      refine lv_imul hx hb dX11_refer_168 ?_
      refine lv_iload hx hb dX11_refer_169 (lv_at hl 3 rfl) ?_
      refine lv_iadd hx hb dX11_refer_171 ?_
      obtain ⟨g43, h⟩ := grd_s h
      refine g_iast (ws9 := oc_X11 T a_o (upo x_o7 12 w3_1.toNatClampNeg ((10 * o8_u40) + o9_u40)) ++ Z) hx hb hK hW 12 rfl g43 sa_X11_12 dX11_refer_172 (fun H locs hW => ?_)
      obtain ⟨x_o44, ex_o44⟩ : ∃ y : Ob, y = upo x_o7 12 w3_1.toNatClampNeg ((10 * o8_u40) + o9_u40) := ⟨_, rfl⟩
      rw [← ex_o44] at hW
      have h := lb_at ex_o44 h
      refine lv_aload_n hx hb dX11_refer_173 rfl (lv_at hl 0 rfl) ?_
      refine fg_X11_46 (v := .ref (a_o 13)) hx hb hts hown hK hW 0 rfl rfl dX11_refer_174 ?_
      refine lv_iload_n hx hb dX11_refer_177 rfl (lv_at hl 1 rfl) ?_
      refine lv_aload_n hx hb dX11_refer_178 rfl (lv_at hl 0 rfl) ?_
      refine lv_aload_n hx hb dX11_refer_179 rfl (lv_at hl 0 rfl) ?_
      refine fg_X11_37 (v := .ref (a_o 10)) hx hb hts hown hK hW 0 rfl rfl dX11_refer_180 ?_
      refine lv_bipush (v := 6) hx hb dX11_refer_183 (by decide) ?_
      refine lv_iload hx hb dX11_refer_185 (lv_at hl 2 rfl) ?_
      refine lv_imul hx hb dX11_refer_187 ?_
      refine lv_iload hx hb dX11_refer_188 (lv_at hl 3 rfl) ?_
      refine lv_iadd hx hb dX11_refer_190 ?_
      obtain ⟨g45, h⟩ := grd_s h
      refine g_iald hx hb hK hW 10 rfl g45 dX11_refer_191 ?_
      refine lv_iload hx hb dX11_refer_192 (lv_at hl 4 rfl) ?_
      refine lv_iconst (v := 0) hx hb dX11_refer_194 (by decide) ?_
      obtain ⟨r46, q47, h⟩ := bnd1_s h
      refine cl_X11_247 hx hb hml hown hts hK hN hW (c_X11_featureOf l D T A a_o (Z) x_o44 (x_o44 10 ((6 * o8_u40) + o9_u40).toNatClampNeg) o10_u40 0 r46 q47) ⟨Nat.le_of_ble_eq_true rfl, Nat.le_of_ble_eq_true rfl⟩ hl.1 rfl (Nat.le_of_ble_eq_true rfl) dX11_refer_195 ⟨Nat.zero_le _, Nat.zero_le _⟩ rfl (fun H locs hW => ?_)
      obtain ⟨g48, h⟩ := grd_s h
      refine g_iast (ws9 := oc_X11 T a_o (upo x_o44 13 w3_1.toNatClampNeg r46) ++ Z) hx hb hK hW 13 rfl g48 sa_X11_13 dX11_refer_198 (fun H locs hW => ?_)
      obtain ⟨x_o49, ex_o49⟩ : ∃ y : Ob, y = upo x_o44 13 w3_1.toNatClampNeg r46 := ⟨_, rfl⟩
      rw [← ex_o49] at hW
      have h := lb_at ex_o49 h
      refine lv_aload_n hx hb dX11_refer_199 rfl (lv_at hl 0 rfl) ?_
      refine fg_X11_49 (v := .ref (a_o 14)) hx hb hts hown hK hW 0 rfl rfl dX11_refer_200 ?_
      refine lv_iload_n hx hb dX11_refer_203 rfl (lv_at hl 1 rfl) ?_
      refine lv_aload_n hx hb dX11_refer_204 rfl (lv_at hl 0 rfl) ?_
      refine lv_aload_n hx hb dX11_refer_205 rfl (lv_at hl 0 rfl) ?_
      refine fg_X11_37 (v := .ref (a_o 10)) hx hb hts hown hK hW 0 rfl rfl dX11_refer_206 ?_
      refine lv_bipush (v := 6) hx hb dX11_refer_209 (by decide) ?_
      refine lv_iload hx hb dX11_refer_211 (lv_at hl 2 rfl) ?_
      refine lv_imul hx hb dX11_refer_213 ?_
      refine lv_iload hx hb dX11_refer_214 (lv_at hl 3 rfl) ?_
      refine lv_iadd hx hb dX11_refer_216 ?_
      obtain ⟨g50, h⟩ := grd_s h
      refine g_iald hx hb hK hW 10 rfl g50 dX11_refer_217 ?_
      refine lv_iload hx hb dX11_refer_218 (lv_at hl 4 rfl) ?_
      refine lv_iconst (v := 1) hx hb dX11_refer_220 (by decide) ?_
      obtain ⟨r51, q52, h⟩ := bnd1_s h
      refine cl_X11_247 hx hb hml hown hts hK hN hW (c_X11_featureOf l D T A a_o (Z) x_o49 (x_o49 10 ((6 * o8_u40) + o9_u40).toNatClampNeg) o10_u40 1 r51 q52) ⟨Nat.le_of_ble_eq_true rfl, Nat.le_of_ble_eq_true rfl⟩ hl.1 rfl (Nat.le_of_ble_eq_true rfl) dX11_refer_221 ⟨Nat.zero_le _, Nat.zero_le _⟩ rfl (fun H locs hW => ?_)
      obtain ⟨g53, h⟩ := grd_s h
      refine g_iast (ws9 := oc_X11 T a_o (upo x_o49 14 w3_1.toNatClampNeg r51) ++ Z) hx hb hK hW 14 rfl g53 sa_X11_14 dX11_refer_224 (fun H locs hW => ?_)
      obtain ⟨x_o54, ex_o54⟩ : ∃ y : Ob, y = upo x_o49 14 w3_1.toNatClampNeg r51 := ⟨_, rfl⟩
      rw [← ex_o54] at hW
      have h := lb_at ex_o54 h
      obtain rfl := ret1 h
      rw [hQ]
      exact g_retv hx hb hr hlk hW dX11_refer_225
  · have h := ite_t c10 h
    obtain rfl := ret1 h
    rw [hQ]
    exact g_retv hx hb hr hlk hW dX11_refer_41
set_option maxHeartbeats 4000000 in
set_option maxRecDepth 100000 in
theorem c_X11_look (l : Launch) (D : va_G) (T : Nat → ClassId) (A : Nat → Prop) (a_o : Nat → Nat) (Z : va_W)  (x_o : Ob) (p1 : Int32) (x_o9 : Ob) (h : f_X11_look x_o p1 = some x_o9) : Met l yX11_look (Cond.code yX11_look cX11_look 3 none :: wsL_law) (rmd 4) (Pg D T A (oc_X11 T a_o x_o ++ Z) [.ref (a_o 0), .int p1]) (Qgv D A (oc_X11 T a_o x_o9 ++ Z)) 0 0 A := by
  refine Met.ofW (cc := cX11_look) (maxL := 3) (ret := none) (by decide +kernel) rfl ?_
  intro p e s m args below meth c s₁ B hml hv
  obtain ⟨ha, hP, hK, hD, hN⟩ := hv
  have hx := B.exec
  have hb := B.bytes
  have hr := B.returns
  have hlk := B.notSynchronized
  have hts : ∀ w ∈ wsL_law, w.before args s = true := fun w hw => atoms_spec B.pre w (List.mem_cons_of_mem _ hw)
  have hown : s.vm.findClass RX11 = some m.cls := findClass_of_methodNamed B.named
  have hW : Wd D A s.heap (oc_X11 T a_o x_o ++ Z) s.heap [] := ⟨hP, hD, va_S.rf⟩
  have hl := lv_entry [.ref (a_o 0), .int p1] (n := 3) (Nat.le_of_ble_eq_true rfl)
  refine W.eq (en_eq ha) ?_
  generalize (lg_sl [.ref (a_o 0), .int p1] ++ List.replicate (3 - (lg_sl [.ref (a_o 0), .int p1]).length) Slot.unset).toArray = ls at hl ⊢
  have hl : lv_has ls 3 [(0, .ref (a_o 0)), (1, .int p1)] := hl
  clear hP hD B ha
  obtain ⟨Q, hQ⟩ : ∃ Q, Q = MQ below (Qgv D A (oc_X11 T a_o x_o9 ++ Z)) args s 0 0 A := ⟨_, rfl⟩
  rw [← hQ]
  change W p l e (rmd 4) s m args below meth c s.heap [] 0 0 Q (F0 m 0 ls [])
  have L2 : ∀ (n : Nat) (x_o_2 : Ob) (v1_2 : Int32) (v2_2 : Int32) (H : Heap) (locs : List Loc) (ls : Array Slot) (o2_2r : Int32) (y_o_2r : Ob), Wd D A s.heap (oc_X11 T a_o x_o_2 ++ Z) H locs → lv_has ls 3 [(0, .ref (a_o 0)), (1, .int v1_2), (2, .int v2_2)] → f_X11_look_L2 n x_o_2 v1_2 v2_2 = some (o2_2r, y_o_2r) → (∀ (H : Heap) (locs : List Loc) (ls : Array Slot), Wd D A s.heap (oc_X11 T a_o y_o_2r ++ Z) H locs → lv_has ls 3 [(0, .ref (a_o 0)), (1, .int v1_2)] → W p l e (rmd 4) s m args below meth c H locs 0 0 Q (F0 m 18 ls [])) → W p l e (rmd 4) s m args below meth c H locs 0 0 Q (F0 m 2 ls []) := by
    intro n
    induction n with
    | zero =>
      intro x_o_2 v1_2 v2_2 H locs ls o2_2r y_o_2r hW hl h k1
      rw [f_X11_look_L2] at h
      cases h
    | succ n ih =>
      intro x_o_2 v1_2 v2_2 H locs ls o2_2r y_o_2r hW hl h k1
      rw [f_X11_look_L2] at h
      refine lv_iload_n hx hb dX11_look_2 rfl (lv_at hl 2 rfl) ?_
      refine lv_iload_n hx hb dX11_look_3 rfl (lv_at hl 1 rfl) ?_
      refine lv_icmp_gt (tgt := 18) hx hb dX11_look_4 (by decide) (fun c1 => ?_) (fun c1 => ?_)
      · have h := ite_t c1 h
        obtain ⟨rfl, rfl⟩ := ret2 h
        exact k1 H locs ls hW (lv_sub hl [0, 1] rfl)
      · have h := ite_f c1 h
        refine lv_aload_n hx hb dX11_look_7 rfl (lv_at hl 0 rfl) ?_
        refine lv_iload_n hx hb dX11_look_8 rfl (lv_at hl 2 rfl) ?_
        obtain ⟨x_o2, q3, h⟩ := bnd1_s h
        refine cl_X11_254 hx hb hml hown hts hK hN hW (c_X11_strikeAll l D T A a_o (Z) x_o_2 v2_2 x_o2 q3) ⟨Nat.le_of_ble_eq_true rfl, Nat.le_of_ble_eq_true rfl⟩ hl.1 rfl (Nat.le_of_ble_eq_true rfl) dX11_look_9 ⟨Nat.zero_le _, Nat.zero_le _⟩ rfl (fun H locs hW => ?_)
        obtain ⟨w2_4, ew2_4⟩ : ∃ y : Int32, y = v2_2 + 1 := ⟨_, rfl⟩
        have h := lb_at ew2_4 h
        refine lv_iinc (v := w2_4) (lv' := [(2, .int w2_4), (0, .ref (a_o 0)), (1, .int v1_2)]) hx hb dX11_look_12 hl (k := 2) rfl (by rw [ew2_4]; rfl) (by decide) rfl (fun ls hl => ?_)
        refine lv_goto (tgt := 2) hx hb dX11_look_15 (by decide) ?_
        exact ih _ _ _ H locs ls _ _ hW (lv_sub hl [1, 2, 0] rfl) h k1
  have L20 : ∀ (n : Nat) (x_o_20 : Ob) (v1_20 : Int32) (v2_20 : Int32) (H : Heap) (locs : List Loc) (ls : Array Slot) (o2_20r : Int32) (y_o_20r : Ob), Wd D A s.heap (oc_X11 T a_o x_o_20 ++ Z) H locs → lv_has ls 3 [(0, .ref (a_o 0)), (1, .int v1_20), (2, .int v2_20)] → f_X11_look_L20 n x_o_20 v1_20 v2_20 = some (o2_20r, y_o_20r) → (∀ (H : Heap) (locs : List Loc) (ls : Array Slot), Wd D A s.heap (oc_X11 T a_o y_o_20r ++ Z) H locs → lv_has ls 3 [] → W p l e (rmd 4) s m args below meth c H locs 0 0 Q (F0 m 42 ls [])) → W p l e (rmd 4) s m args below meth c H locs 0 0 Q (F0 m 20 ls []) := by
    intro n
    induction n with
    | zero =>
      intro x_o_20 v1_20 v2_20 H locs ls o2_20r y_o_20r hW hl h k1
      rw [f_X11_look_L20] at h
      cases h
    | succ n ih =>
      intro x_o_20 v1_20 v2_20 H locs ls o2_20r y_o_20r hW hl h k1
      rw [f_X11_look_L20] at h
      refine lv_iload_n hx hb dX11_look_20 rfl (lv_at hl 2 rfl) ?_
      refine lv_aload_n hx hb dX11_look_21 rfl (lv_at hl 0 rfl) ?_
      refine fg_X11_34 (v := .ref (a_o 9)) hx hb hts hown hK hW 0 rfl rfl dX11_look_22 ?_
      refine lv_iload_n hx hb dX11_look_25 rfl (lv_at hl 1 rfl) ?_
      obtain ⟨g7, h⟩ := grd_s h
      refine g_iald hx hb hK hW 9 rfl g7 dX11_look_26 ?_
      refine lv_icmp_ge (tgt := 42) hx hb dX11_look_27 (by decide) (fun c8 => ?_) (fun c8 => ?_)
      · have h := ite_t c8 h
        obtain ⟨rfl, rfl⟩ := ret2 h
        exact k1 H locs ls hW (lv_sub hl [] rfl)
      · have h := ite_f c8 h
        refine lv_aload_n hx hb dX11_look_30 rfl (lv_at hl 0 rfl) ?_
        refine lv_iload_n hx hb dX11_look_31 rfl (lv_at hl 1 rfl) ?_
        refine lv_iload_n hx hb dX11_look_32 rfl (lv_at hl 2 rfl) ?_
        obtain ⟨x_o9, q10, h⟩ := bnd1_s h
        refine cl_X11_258 hx hb hml hown hts hK hN hW (c_X11_refer l D T A a_o (Z) x_o_20 v1_20 v2_20 x_o9 q10) ⟨Nat.le_of_ble_eq_true rfl, Nat.le_of_ble_eq_true rfl⟩ hl.1 rfl (Nat.le_of_ble_eq_true rfl) dX11_look_33 ⟨Nat.zero_le _, Nat.zero_le _⟩ rfl (fun H locs hW => ?_)
        obtain ⟨w2_11, ew2_11⟩ : ∃ y : Int32, y = v2_20 + 1 := ⟨_, rfl⟩
        have h := lb_at ew2_11 h
        refine lv_iinc (v := w2_11) (lv' := [(2, .int w2_11), (0, .ref (a_o 0)), (1, .int v1_20)]) hx hb dX11_look_36 hl (k := 2) rfl (by rw [ew2_11]; rfl) (by decide) rfl (fun ls hl => ?_)
        refine lv_goto (tgt := 20) hx hb dX11_look_39 (by decide) ?_
        exact ih _ _ _ H locs ls _ _ hW (lv_sub hl [1, 2, 0] rfl) h k1
  rw [f_X11_look] at h
  suffices hm : ∀ (H : Heap) (locs : List Loc), Wd D A s.heap (oc_X11 T a_o x_o ++ Z) H locs → W p l e (rmd 4) s m args below meth c H locs 0 0 Q (F0 m 0 ls []) from hm _ _ hW
  intro H locs hW
  refine lv_iconst (v := 0) hx hb dX11_look_0 (by decide) ?_
  refine lv_istore_n (lv' := [(2, .int 0), (0, .ref (a_o 0)), (1, .int p1)]) hx hb dX11_look_1 rfl hl (by decide) rfl (fun ls hl => ?_)
  obtain ⟨o2_u5, y_o_u5, q6, h⟩ := bnd2_s h
  refine L2 200 _ _ _ H locs ls o2_u5 y_o_u5 hW (lv_sub hl [1, 2, 0] rfl) q6 (fun H locs ls hW hl => ?_)
  refine lv_iconst (v := 0) hx hb dX11_look_18 (by decide) ?_
  refine lv_istore_n (lv' := [(2, .int 0), (0, .ref (a_o 0)), (1, .int p1)]) hx hb dX11_look_19 rfl hl (by decide) rfl (fun ls hl => ?_)
  obtain ⟨o2_u12, y_o_u12, q13, h⟩ := bnd2_s h
  refine L20 200 _ _ _ H locs ls o2_u12 y_o_u12 hW (lv_sub hl [1, 2, 0] rfl) q13 (fun H locs ls hW hl => ?_)
  obtain rfl := ret1 h
  rw [hQ]
  exact g_retv hx hb hr hlk hW dX11_look_42
set_option maxHeartbeats 4000000 in
set_option maxRecDepth 100000 in
theorem c_X11_rule (l : Launch) (D : va_G) (T : Nat → ClassId) (A : Nat → Prop) (a_o : Nat → Nat) (Z : va_W)  (x_o : Ob) (p1 : Int32) (p2 : Int32) (p3 : Int32) (p4 : Int32) (r : Int32) (x_o9 : Ob) (h : f_X11_rule x_o p1 p2 p3 p4 = some (r, x_o9)) : Met l yX11_rule (Cond.code yX11_rule cX11_rule 6 (some .int) :: wsL_law) (rmd 2) (Pg D T A (oc_X11 T a_o x_o ++ Z) [.ref (a_o 0), .int p1, .int p2, .int p3, .int p4]) (Qgi D A (oc_X11 T a_o x_o9 ++ Z) r) 0 0 A := by
  refine Met.ofW (cc := cX11_rule) (maxL := 6) (ret := (some .int)) (by decide +kernel) rfl ?_
  intro p e s m args below meth c s₁ B hml hv
  obtain ⟨ha, hP, hK, hD, hN⟩ := hv
  have hx := B.exec
  have hb := B.bytes
  have hr := B.returns
  have hlk := B.notSynchronized
  have hts : ∀ w ∈ wsL_law, w.before args s = true := fun w hw => atoms_spec B.pre w (List.mem_cons_of_mem _ hw)
  have hown : s.vm.findClass RX11 = some m.cls := findClass_of_methodNamed B.named
  have hW : Wd D A s.heap (oc_X11 T a_o x_o ++ Z) s.heap [] := ⟨hP, hD, va_S.rf⟩
  have hl := lv_entry [.ref (a_o 0), .int p1, .int p2, .int p3, .int p4] (n := 6) (Nat.le_of_ble_eq_true rfl)
  refine W.eq (en_eq ha) ?_
  generalize (lg_sl [.ref (a_o 0), .int p1, .int p2, .int p3, .int p4] ++ List.replicate (6 - (lg_sl [.ref (a_o 0), .int p1, .int p2, .int p3, .int p4]).length) Slot.unset).toArray = ls at hl ⊢
  have hl : lv_has ls 6 [(0, .ref (a_o 0)), (1, .int p1), (2, .int p2), (3, .int p3), (4, .int p4)] := hl
  clear hP hD B ha
  obtain ⟨Q, hQ⟩ : ∃ Q, Q = MQ below (Qgi D A (oc_X11 T a_o x_o9 ++ Z) r) args s 0 0 A := ⟨_, rfl⟩
  rw [← hQ]
  change W p l e (rmd 2) s m args below meth c s.heap [] 0 0 Q (F0 m 0 ls [])
  have J74 : ∀ (x_o_74 : Ob) (v1_74 : Int32) (v2_74 : Int32) (v3_74 : Int32) (v4_74 : Int32) (s1_74 : Int32) (s2_74 : Int32) (H : Heap) (locs : List Loc) (ls : Array Slot), Wd D A s.heap (oc_X11 T a_o x_o_74 ++ Z) H locs → lv_has ls 6 [(0, .ref (a_o 0)), (1, .int v1_74), (2, .int v2_74), (3, .int v3_74), (4, .int v4_74)] → f_X11_rule_J74 x_o_74 v1_74 v2_74 v3_74 v4_74 s1_74 s2_74 = some (r, x_o9) → W p l e (rmd 2) s m args below meth c H locs 0 0 Q (F0 m 74 ls [.int s2_74, .int s1_74, .ref (a_o 0)]) := by
    intro x_o_74 v1_74 v2_74 v3_74 v4_74 s1_74 s2_74 H locs ls hW hl h
    rw [f_X11_rule_J74] at h
    obtain ⟨r5, x_o6, q7, h⟩ := bnd2_s h
    refine cl_X11_205 hx hb hml hown hts hK hN hW (c_X11_mayBoth l D T A a_o (Z) x_o_74 s1_74 s2_74 r5 x_o6 q7) ⟨Nat.le_of_ble_eq_true rfl, Nat.le_of_ble_eq_true rfl⟩ hl.1 rfl (Nat.le_of_ble_eq_true rfl) dX11_rule_74 ⟨Nat.zero_le _, Nat.zero_le _⟩ rfl (fun H locs hW => ?_)
    refine lv_if_ne (tgt := 82) hx hb dX11_rule_77 (by decide) (fun c8 => ?_) (fun c8 => ?_)
    · have h := ite_f c8 h
      refine lv_aload_n hx hb dX11_rule_82 rfl (lv_at hl 0 rfl) ?_
      refine fg_X11_68 (v := .ref (a_o 20)) hx hb hts hown hK hW 0 rfl rfl dX11_rule_83 ?_
      refine lv_aload_n hx hb dX11_rule_86 rfl (lv_at hl 0 rfl) ?_
      refine fg_X11_262 (v := .int (x_o6 21 0)) hx hb hts hown hK hW 0 rfl rfl dX11_rule_87 ?_
      refine lv_iload_n hx hb dX11_rule_90 rfl (lv_at hl 1 rfl) ?_
      obtain ⟨g9, h⟩ := grd_s h
      refine g_iast (ws9 := oc_X11 T a_o (upo x_o6 22 (x_o6 21 0).toNatClampNeg v1_74) ++ Z) hx hb hK hW 20 rfl g9 sa_X11_22 dX11_rule_91 (fun H locs hW => ?_)
      obtain ⟨x_o10, ex_o10⟩ : ∃ y : Ob, y = upo x_o6 22 (x_o6 21 0).toNatClampNeg v1_74 := ⟨_, rfl⟩
      rw [← ex_o10] at hW
      have h := lb_at ex_o10 h
      refine lv_aload_n hx hb dX11_rule_92 rfl (lv_at hl 0 rfl) ?_
      refine fg_X11_71 (v := .ref (a_o 21)) hx hb hts hown hK hW 0 rfl rfl dX11_rule_93 ?_
      refine lv_aload_n hx hb dX11_rule_96 rfl (lv_at hl 0 rfl) ?_
      refine fg_X11_262 (v := .int (x_o10 21 0)) hx hb hts hown hK hW 0 rfl rfl dX11_rule_97 ?_
      refine lv_iload_n hx hb dX11_rule_100 rfl (lv_at hl 2 rfl) ?_
      obtain ⟨g11, h⟩ := grd_s h
      refine g_iast (ws9 := oc_X11 T a_o (upo x_o10 23 (x_o10 21 0).toNatClampNeg v2_74) ++ Z) hx hb hK hW 21 rfl g11 sa_X11_23 dX11_rule_101 (fun H locs hW => ?_)
      obtain ⟨x_o12, ex_o12⟩ : ∃ y : Ob, y = upo x_o10 23 (x_o10 21 0).toNatClampNeg v2_74 := ⟨_, rfl⟩
      rw [← ex_o12] at hW
      have h := lb_at ex_o12 h
      refine lv_aload_n hx hb dX11_rule_102 rfl (lv_at hl 0 rfl) ?_
      refine fg_X11_74 (v := .ref (a_o 22)) hx hb hts hown hK hW 0 rfl rfl dX11_rule_103 ?_
      refine lv_aload_n hx hb dX11_rule_106 rfl (lv_at hl 0 rfl) ?_
      refine fg_X11_262 (v := .int (x_o12 21 0)) hx hb hts hown hK hW 0 rfl rfl dX11_rule_107 ?_
      refine lv_iload_n hx hb dX11_rule_110 rfl (lv_at hl 3 rfl) ?_
      obtain ⟨g13, h⟩ := grd_s h
      refine g_iast (ws9 := oc_X11 T a_o (upo x_o12 24 (x_o12 21 0).toNatClampNeg v3_74) ++ Z) hx hb hK hW 22 rfl g13 sa_X11_24 dX11_rule_111 (fun H locs hW => ?_)
      obtain ⟨x_o14, ex_o14⟩ : ∃ y : Ob, y = upo x_o12 24 (x_o12 21 0).toNatClampNeg v3_74 := ⟨_, rfl⟩
      rw [← ex_o14] at hW
      have h := lb_at ex_o14 h
      refine lv_aload_n hx hb dX11_rule_112 rfl (lv_at hl 0 rfl) ?_
      refine fg_X11_77 (v := .ref (a_o 23)) hx hb hts hown hK hW 0 rfl rfl dX11_rule_113 ?_
      refine lv_aload_n hx hb dX11_rule_116 rfl (lv_at hl 0 rfl) ?_
      refine fg_X11_262 (v := .int (x_o14 21 0)) hx hb hts hown hK hW 0 rfl rfl dX11_rule_117 ?_
      refine lv_iload hx hb dX11_rule_120 (lv_at hl 4 rfl) ?_
      obtain ⟨g15, h⟩ := grd_s h
      refine g_iast (ws9 := oc_X11 T a_o (upo x_o14 25 (x_o14 21 0).toNatClampNeg v4_74) ++ Z) hx hb hK hW 23 rfl g15 sa_X11_25 dX11_rule_122 (fun H locs hW => ?_)
      obtain ⟨x_o16, ex_o16⟩ : ∃ y : Ob, y = upo x_o14 25 (x_o14 21 0).toNatClampNeg v4_74 := ⟨_, rfl⟩
      rw [← ex_o16] at hW
      have h := lb_at ex_o16 h
      refine lv_aload_n hx hb dX11_rule_123 rfl (lv_at hl 0 rfl) ?_
      refine lv_dup hx hb dX11_rule_124 rfl ?_
      refine fg_X11_262 (v := .int (x_o16 21 0)) hx hb hts hown hK hW 0 rfl rfl dX11_rule_125 ?_
      refine lv_iconst (v := 1) hx hb dX11_rule_128 (by decide) ?_
      refine lv_iadd hx hb dX11_rule_129 ?_
      refine fp_X11_262 (ws9 := oc_X11 T a_o (upo x_o16 21 0 ((x_o16 21 0) + 1)) ++ Z) hx hb hts hown hK hW 0 rfl (Nat.le_of_ble_eq_true rfl) sf_X11_21 dX11_rule_130 (fun H locs hW => ?_)
      obtain ⟨x_o17, ex_o17⟩ : ∃ y : Ob, y = upo x_o16 21 0 ((x_o16 21 0) + 1) := ⟨_, rfl⟩
      rw [← ex_o17] at hW
      have h := lb_at ex_o17 h
      refine lv_aload_n hx hb dX11_rule_133 rfl (lv_at hl 0 rfl) ?_
      refine lv_dup hx hb dX11_rule_134 rfl ?_
      refine fg_X11_219 (v := .int (x_o17 52 0)) hx hb hts hown hK hW 0 rfl rfl dX11_rule_135 ?_
      refine lv_iconst (v := 1) hx hb dX11_rule_138 (by decide) ?_
      refine lv_iadd hx hb dX11_rule_139 ?_
      refine fp_X11_219 (ws9 := oc_X11 T a_o (upo x_o17 52 0 ((x_o17 52 0) + 1)) ++ Z) hx hb hts hown hK hW 0 rfl (Nat.le_of_ble_eq_true rfl) sf_X11_52 dX11_rule_140 (fun H locs hW => ?_)
      obtain ⟨x_o18, ex_o18⟩ : ∃ y : Ob, y = upo x_o17 52 0 ((x_o17 52 0) + 1) := ⟨_, rfl⟩
      rw [← ex_o18] at hW
      have h := lb_at ex_o18 h
      refine lv_aload_n hx hb dX11_rule_143 rfl (lv_at hl 0 rfl) ?_
      refine fg_X11_262 (v := .int (x_o18 21 0)) hx hb hts hown hK hW 0 rfl rfl dX11_rule_144 ?_
      refine lv_iconst (v := 1) hx hb dX11_rule_147 (by decide) ?_
      refine lv_isub hx hb dX11_rule_148 ?_
      obtain ⟨rfl, rfl⟩ := ret2 h
      rw [hQ]
      exact g_reti hx hb hr hlk hW dX11_rule_149
    · have h := ite_t c8 h
      refine lv_iconst (v := 0) hx hb dX11_rule_80 (by decide) ?_
      obtain ⟨rfl, rfl⟩ := ret2 h
      rw [hQ]
      exact g_reti hx hb hr hlk hW dX11_rule_81
  have J55 : ∀ (x_o_55 : Ob) (v1_55 : Int32) (v2_55 : Int32) (v3_55 : Int32) (v4_55 : Int32) (s0_55 : Int32) (H : Heap) (locs : List Loc) (ls : Array Slot), Wd D A s.heap (oc_X11 T a_o x_o_55 ++ Z) H locs → lv_has ls 6 [(0, .ref (a_o 0)), (1, .int v1_55), (2, .int v2_55), (3, .int v3_55), (4, .int v4_55)] → f_X11_rule_J55 x_o_55 v1_55 v2_55 v3_55 v4_55 s0_55 = some (r, x_o9) → W p l e (rmd 2) s m args below meth c H locs 0 0 Q (F0 m 55 ls [.int s0_55]) := by
    intro x_o_55 v1_55 v2_55 v3_55 v4_55 s0_55 H locs ls hW hl h
    rw [f_X11_rule_J55] at h
    refine lv_istore (lv' := [(5, .int s0_55), (0, .ref (a_o 0)), (1, .int v1_55), (2, .int v2_55), (3, .int v3_55), (4, .int v4_55)]) hx hb dX11_rule_55 hl (by decide) rfl (fun ls hl => ?_)
    refine lv_aload_n hx hb dX11_rule_57 rfl (lv_at hl 1 rfl) ?_
    refine lv_iload hx hb dX11_rule_58 (lv_at hl 0 rfl) ?_
    refine lv_aload_n hx hb dX11_rule_60 rfl (lv_at hl 1 rfl) ?_
    refine fg_X11_262 (v := .int (x_o_55 21 0)) hx hb hts hown hK hW 0 rfl rfl dX11_rule_61 ?_
    refine lv_bipush (v := 16) hx hb dX11_rule_64 (by decide) ?_
    refine lv_icmp_ge (tgt := 73) hx hb dX11_rule_66 (by decide) (fun c4 => ?_) (fun c4 => ?_)
    · have h := ite_t c4 h
      refine lv_iconst (v := 0) hx hb dX11_rule_73 (by decide) ?_
      exact J74 _ _ _ _ _ _ _ H locs ls hW (lv_sub hl [1, 2, 3, 4, 5] rfl) h
    · have h := ite_f c4 h
      refine lv_iconst (v := 1) hx hb dX11_rule_69 (by decide) ?_
      refine lv_goto (tgt := 74) hx hb dX11_rule_70 (by decide) ?_
      exact J74 _ _ _ _ _ _ _ H locs ls hW (lv_sub hl [1, 2, 3, 4, 5] rfl) h
  have J54 : ∀ (x_o_54 : Ob) (v1_54 : Int32) (v2_54 : Int32) (v3_54 : Int32) (v4_54 : Int32) (H : Heap) (locs : List Loc) (ls : Array Slot), Wd D A s.heap (oc_X11 T a_o x_o_54 ++ Z) H locs → lv_has ls 6 [(0, .ref (a_o 0)), (1, .int v1_54), (2, .int v2_54), (3, .int v3_54), (4, .int v4_54)] → f_X11_rule_J54 x_o_54 v1_54 v2_54 v3_54 v4_54 = some (r, x_o9) → W p l e (rmd 2) s m args below meth c H locs 0 0 Q (F0 m 54 ls []) := by
    intro x_o_54 v1_54 v2_54 v3_54 v4_54 H locs ls hW hl h
    rw [f_X11_rule_J54] at h
    refine lv_iconst (v := 0) hx hb dX11_rule_54 (by decide) ?_
    exact J55 _ _ _ _ _ _ H locs ls hW (lv_sub hl [0, 1, 2, 3, 4] rfl) h
  have J50 : ∀ (x_o_50 : Ob) (v1_50 : Int32) (v2_50 : Int32) (v3_50 : Int32) (v4_50 : Int32) (H : Heap) (locs : List Loc) (ls : Array Slot), Wd D A s.heap (oc_X11 T a_o x_o_50 ++ Z) H locs → lv_has ls 6 [(0, .ref (a_o 0)), (1, .int v1_50), (2, .int v2_50), (3, .int v3_50), (4, .int v4_50)] → f_X11_rule_J50 x_o_50 v1_50 v2_50 v3_50 v4_50 = some (r, x_o9) → W p l e (rmd 2) s m args below meth c H locs 0 0 Q (F0 m 50 ls []) := by
    intro x_o_50 v1_50 v2_50 v3_50 v4_50 H locs ls hW hl h
    rw [f_X11_rule_J50] at h
    refine lv_iconst (v := 1) hx hb dX11_rule_50 (by decide) ?_
    refine lv_goto (tgt := 55) hx hb dX11_rule_51 (by decide) ?_
    exact J55 _ _ _ _ _ _ H locs ls hW (lv_sub hl [0, 1, 2, 3, 4] rfl) h
  rw [f_X11_rule] at h
  suffices hm : ∀ (H : Heap) (locs : List Loc), Wd D A s.heap (oc_X11 T a_o x_o ++ Z) H locs → W p l e (rmd 2) s m args below meth c H locs 0 0 Q (F0 m 0 ls []) from hm _ _ hW
  intro H locs hW
  refine lv_iload_n hx hb dX11_rule_0 rfl (lv_at hl 1 rfl) ?_
  obtain ⟨r1, q2, h⟩ := bnd1_s h
  refine cl_X11_202 hx hb hml hown hts hK hN hW (c_X11_isDigit l D T A (oc_X11 T a_o x_o ++ Z) p1 r1 q2) ⟨Nat.le_of_ble_eq_true rfl, Nat.le_of_ble_eq_true rfl⟩ hl.1 rfl (Nat.le_of_ble_eq_true rfl) dX11_rule_1 ⟨Nat.zero_le _, Nat.zero_le _⟩ rfl (fun H locs hW => ?_)
  refine lv_if_eq (tgt := 54) hx hb dX11_rule_4 (by decide) (fun c3 => ?_) (fun c3 => ?_)
  · have h := ite_t c3 h
    exact J54 _ _ _ _ _ H locs ls hW (lv_sub hl [0, 1, 2, 3, 4] rfl) h
  · have h := ite_f c3 h
    refine lv_iload_n hx hb dX11_rule_7 rfl (lv_at hl 2 rfl) ?_
    obtain ⟨r19, q20, h⟩ := bnd1_s h
    refine cl_X11_202 hx hb hml hown hts hK hN hW (c_X11_isDigit l D T A (oc_X11 T a_o x_o ++ Z) p2 r19 q20) ⟨Nat.le_of_ble_eq_true rfl, Nat.le_of_ble_eq_true rfl⟩ hl.1 rfl (Nat.le_of_ble_eq_true rfl) dX11_rule_8 ⟨Nat.zero_le _, Nat.zero_le _⟩ rfl (fun H locs hW => ?_)
    refine lv_if_eq (tgt := 54) hx hb dX11_rule_11 (by decide) (fun c21 => ?_) (fun c21 => ?_)
    · have h := ite_t c21 h
      exact J54 _ _ _ _ _ H locs ls hW (lv_sub hl [0, 1, 2, 3, 4] rfl) h
    · have h := ite_f c21 h
      refine lv_iload_n hx hb dX11_rule_14 rfl (lv_at hl 3 rfl) ?_
      refine lv_iconst (v := (-1)) hx hb dX11_rule_15 (by decide) ?_
      refine lv_icmp_ne (tgt := 33) hx hb dX11_rule_16 (by decide) (fun c22 => ?_) (fun c22 => ?_)
      · have h := ite_f c22 h
        refine lv_iload_n hx hb dX11_rule_33 rfl (lv_at hl 3 rfl) ?_
        obtain ⟨r23, q24, h⟩ := bnd1_s h
        refine cl_X11_202 hx hb hml hown hts hK hN hW (c_X11_isDigit l D T A (oc_X11 T a_o x_o ++ Z) p3 r23 q24) ⟨Nat.le_of_ble_eq_true rfl, Nat.le_of_ble_eq_true rfl⟩ hl.1 rfl (Nat.le_of_ble_eq_true rfl) dX11_rule_34 ⟨Nat.zero_le _, Nat.zero_le _⟩ rfl (fun H locs hW => ?_)
        refine lv_if_eq (tgt := 54) hx hb dX11_rule_37 (by decide) (fun c25 => ?_) (fun c25 => ?_)
        · have h := ite_t c25 h
          exact J54 _ _ _ _ _ H locs ls hW (lv_sub hl [0, 1, 2, 3, 4] rfl) h
        · have h := ite_f c25 h
          refine lv_iload hx hb dX11_rule_40 (lv_at hl 4 rfl) ?_
          refine lv_iconst (v := 1) hx hb dX11_rule_42 (by decide) ?_
          refine lv_iconst (v := 2) hx hb dX11_rule_43 (by decide) ?_
          obtain ⟨r26, q27, h⟩ := bnd1_s h
          refine cl_X11_187 hx hb hml hown hts hK hN hW (c_X11_isIn l D T A (oc_X11 T a_o x_o ++ Z) p4 1 2 r26 q27) ⟨Nat.le_of_ble_eq_true rfl, Nat.le_of_ble_eq_true rfl⟩ hl.1 rfl (Nat.le_of_ble_eq_true rfl) dX11_rule_44 ⟨Nat.zero_le _, Nat.zero_le _⟩ rfl (fun H locs hW => ?_)
          refine lv_if_eq (tgt := 54) hx hb dX11_rule_47 (by decide) (fun c28 => ?_) (fun c28 => ?_)
          · have h := ite_t c28 h
            exact J54 _ _ _ _ _ H locs ls hW (lv_sub hl [0, 1, 2, 3, 4] rfl) h
          · have h := ite_f c28 h
            exact J50 _ _ _ _ _ H locs ls hW (lv_sub hl [0, 1, 2, 3, 4] rfl) h
      · have h := ite_t c22 h
        refine lv_iload_n hx hb dX11_rule_19 rfl (lv_at hl 1 rfl) ?_
        refine lv_iload_n hx hb dX11_rule_20 rfl (lv_at hl 2 rfl) ?_
        refine lv_icmp_le (tgt := 54) hx hb dX11_rule_21 (by decide) (fun c29 => ?_) (fun c29 => ?_)
        · have h := ite_t c29 h
          exact J54 _ _ _ _ _ H locs ls hW (lv_sub hl [0, 1, 2, 3, 4] rfl) h
        · have h := ite_f c29 h
          refine lv_iload hx hb dX11_rule_24 (lv_at hl 4 rfl) ?_
          refine lv_iconst (v := 1) hx hb dX11_rule_26 (by decide) ?_
          refine lv_icmp_ne (tgt := 54) hx hb dX11_rule_27 (by decide) (fun c30 => ?_) (fun c30 => ?_)
          · have h := ite_f c30 h
            exact J54 _ _ _ _ _ H locs ls hW (lv_sub hl [0, 1, 2, 3, 4] rfl) h
          · have h := ite_t c30 h
            refine lv_goto (tgt := 50) hx hb dX11_rule_30 (by decide) ?_
            exact J50 _ _ _ _ _ H locs ls hW (lv_sub hl [0, 1, 2, 3, 4] rfl) h
set_option maxHeartbeats 4000000 in
set_option maxRecDepth 100000 in
theorem c_X11_equate (l : Launch) (D : va_G) (T : Nat → ClassId) (A : Nat → Prop) (a_o : Nat → Nat) (Z : va_W)  (x_o : Ob) (p1 : Int32) (p2 : Int32) (p3 : Int32) (p4 : Int32) (p5 : Int32) (r : Int32) (x_o9 : Ob) (h : f_X11_equate x_o p1 p2 p3 p4 p5 = some (r, x_o9)) : Met l yX11_equate (Cond.code yX11_equate cX11_equate 10 (some .int) :: wsL_law) (rmd 1) (Pg D T A (oc_X11 T a_o x_o ++ Z) [.ref (a_o 0), .int p1, .int p2, .int p3, .int p4, .int p5]) (Qgi D A (oc_X11 T a_o x_o9 ++ Z) r) 0 0 A := by
  refine Met.ofW (cc := cX11_equate) (maxL := 10) (ret := (some .int)) (by decide +kernel) rfl ?_
  intro p e s m args below meth c s₁ B hml hv
  obtain ⟨ha, hP, hK, hD, hN⟩ := hv
  have hx := B.exec
  have hb := B.bytes
  have hr := B.returns
  have hlk := B.notSynchronized
  have hts : ∀ w ∈ wsL_law, w.before args s = true := fun w hw => atoms_spec B.pre w (List.mem_cons_of_mem _ hw)
  have hown : s.vm.findClass RX11 = some m.cls := findClass_of_methodNamed B.named
  have hW : Wd D A s.heap (oc_X11 T a_o x_o ++ Z) s.heap [] := ⟨hP, hD, va_S.rf⟩
  have hl := lv_entry [.ref (a_o 0), .int p1, .int p2, .int p3, .int p4, .int p5] (n := 10) (Nat.le_of_ble_eq_true rfl)
  refine W.eq (en_eq ha) ?_
  generalize (lg_sl [.ref (a_o 0), .int p1, .int p2, .int p3, .int p4, .int p5] ++ List.replicate (10 - (lg_sl [.ref (a_o 0), .int p1, .int p2, .int p3, .int p4, .int p5]).length) Slot.unset).toArray = ls at hl ⊢
  have hl : lv_has ls 10 [(0, .ref (a_o 0)), (1, .int p1), (2, .int p2), (3, .int p3), (4, .int p4), (5, .int p5)] := hl
  clear hP hD B ha
  obtain ⟨Q, hQ⟩ : ∃ Q, Q = MQ below (Qgi D A (oc_X11 T a_o x_o9 ++ Z) r) args s 0 0 A := ⟨_, rfl⟩
  rw [← hQ]
  change W p l e (rmd 1) s m args below meth c s.heap [] 0 0 Q (F0 m 0 ls [])
  have J114 : ∀ (x_o_114 : Ob) (v1_114 : Int32) (v2_114 : Int32) (v3_114 : Int32) (v4_114 : Int32) (v5_114 : Int32) (s1_114 : Int32) (s2_114 : Int32) (s3_114 : Int32) (H : Heap) (locs : List Loc) (ls : Array Slot), Wd D A s.heap (oc_X11 T a_o x_o_114 ++ Z) H locs → lv_has ls 10 [(0, .ref (a_o 0)), (1, .int v1_114), (2, .int v2_114), (3, .int v3_114), (4, .int v4_114), (5, .int v5_114)] → f_X11_equate_J114 x_o_114 v1_114 v2_114 v3_114 v4_114 v5_114 s1_114 s2_114 s3_114 = some (r, x_o9) → W p l e (rmd 1) s m args below meth c H locs 0 0 Q (F0 m 114 ls [.int s3_114, .int s2_114, .int s1_114, .ref (a_o 0)]) := by
    intro x_o_114 v1_114 v2_114 v3_114 v4_114 v5_114 s1_114 s2_114 s3_114 H locs ls hW hl h
    rw [f_X11_equate_J114] at h
    obtain ⟨r8, x_o9, q10, h⟩ := bnd2_s h
    refine cl_X11_215 hx hb hml hown hts hK hN hW (c_X11_mayAll l D T A a_o (Z) x_o_114 s1_114 s2_114 s3_114 r8 x_o9 q10) ⟨Nat.le_of_ble_eq_true rfl, Nat.le_of_ble_eq_true rfl⟩ hl.1 rfl (Nat.le_of_ble_eq_true rfl) dX11_equate_114 ⟨Nat.zero_le _, Nat.zero_le _⟩ rfl (fun H locs hW => ?_)
    refine lv_if_ne (tgt := 122) hx hb dX11_equate_117 (by decide) (fun c11 => ?_) (fun c11 => ?_)
    · have h := ite_f c11 h
      refine lv_iconst (v := 3) hx hb dX11_equate_122 (by decide) ?_
      refine lv_iload_n hx hb dX11_equate_123 rfl (lv_at hl 1 rfl) ?_
      refine lv_imul hx hb dX11_equate_124 ?_
      refine lv_aload_n hx hb dX11_equate_125 rfl (lv_at hl 0 rfl) ?_
      refine fg_X11_80 (v := .ref (a_o 24)) hx hb hts hown hK hW 0 rfl rfl dX11_equate_126 ?_
      refine lv_iload_n hx hb dX11_equate_129 rfl (lv_at hl 1 rfl) ?_
      obtain ⟨g12, h⟩ := grd_s h
      refine g_iald hx hb hK hW 24 rfl g12 dX11_equate_130 ?_
      refine lv_iadd hx hb dX11_equate_131 ?_
      refine lv_topi (fun w9_13 ew9_13 => ?_)
      have h := lb_at ew9_13 h
      refine lv_istore (lv' := [(9, .int w9_13), (0, .ref (a_o 0)), (1, .int v1_114), (2, .int v2_114), (3, .int v3_114), (4, .int v4_114), (5, .int v5_114)]) hx hb dX11_equate_132 hl (by decide) rfl (fun ls hl => ?_)
      refine lv_aload_n hx hb dX11_equate_134 rfl (lv_at hl 1 rfl) ?_
      refine fg_X11_83 (v := .ref (a_o 25)) hx hb hts hown hK hW 0 rfl rfl dX11_equate_135 ?_
      refine lv_iload hx hb dX11_equate_138 (lv_at hl 0 rfl) ?_
      refine lv_iload_n hx hb dX11_equate_140 rfl (lv_at hl 3 rfl) ?_
      obtain ⟨g14, h⟩ := grd_s h
      refine g_iast (ws9 := oc_X11 T a_o (upo x_o9 27 w9_13.toNatClampNeg v2_114) ++ Z) hx hb hK hW 25 rfl g14 sa_X11_27 dX11_equate_141 (fun H locs hW => ?_)
      obtain ⟨x_o15, ex_o15⟩ : ∃ y : Ob, y = upo x_o9 27 w9_13.toNatClampNeg v2_114 := ⟨_, rfl⟩
      rw [← ex_o15] at hW
      have h := lb_at ex_o15 h
      refine lv_aload_n hx hb dX11_equate_142 rfl (lv_at hl 1 rfl) ?_
      refine fg_X11_86 (v := .ref (a_o 26)) hx hb hts hown hK hW 0 rfl rfl dX11_equate_143 ?_
      refine lv_iload hx hb dX11_equate_146 (lv_at hl 0 rfl) ?_
      refine lv_iload_n hx hb dX11_equate_148 rfl (lv_at hl 4 rfl) ?_
      obtain ⟨g16, h⟩ := grd_s h
      refine g_iast (ws9 := oc_X11 T a_o (upo x_o15 28 w9_13.toNatClampNeg v3_114) ++ Z) hx hb hK hW 26 rfl g16 sa_X11_28 dX11_equate_149 (fun H locs hW => ?_)
      obtain ⟨x_o17, ex_o17⟩ : ∃ y : Ob, y = upo x_o15 28 w9_13.toNatClampNeg v3_114 := ⟨_, rfl⟩
      rw [← ex_o17] at hW
      have h := lb_at ex_o17 h
      refine lv_aload_n hx hb dX11_equate_150 rfl (lv_at hl 1 rfl) ?_
      refine fg_X11_89 (v := .ref (a_o 27)) hx hb hts hown hK hW 0 rfl rfl dX11_equate_151 ?_
      refine lv_iload hx hb dX11_equate_154 (lv_at hl 0 rfl) ?_
      refine lv_iload hx hb dX11_equate_156 (lv_at hl 5 rfl) ?_
      obtain ⟨g18, h⟩ := grd_s h
      refine g_iast (ws9 := oc_X11 T a_o (upo x_o17 29 w9_13.toNatClampNeg v4_114) ++ Z) hx hb hK hW 27 rfl g18 sa_X11_29 dX11_equate_158 (fun H locs hW => ?_)
      obtain ⟨x_o19, ex_o19⟩ : ∃ y : Ob, y = upo x_o17 29 w9_13.toNatClampNeg v4_114 := ⟨_, rfl⟩
      rw [← ex_o19] at hW
      have h := lb_at ex_o19 h
      refine lv_aload_n hx hb dX11_equate_159 rfl (lv_at hl 1 rfl) ?_
      refine fg_X11_92 (v := .ref (a_o 28)) hx hb hts hown hK hW 0 rfl rfl dX11_equate_160 ?_
      refine lv_iload hx hb dX11_equate_163 (lv_at hl 0 rfl) ?_
      refine lv_iload hx hb dX11_equate_165 (lv_at hl 6 rfl) ?_
      obtain ⟨g20, h⟩ := grd_s h
      refine g_iast (ws9 := oc_X11 T a_o (upo x_o19 30 w9_13.toNatClampNeg v5_114) ++ Z) hx hb hK hW 28 rfl g20 sa_X11_30 dX11_equate_167 (fun H locs hW => ?_)
      obtain ⟨x_o21, ex_o21⟩ : ∃ y : Ob, y = upo x_o19 30 w9_13.toNatClampNeg v5_114 := ⟨_, rfl⟩
      rw [← ex_o21] at hW
      have h := lb_at ex_o21 h
      refine lv_aload_n hx hb dX11_equate_168 rfl (lv_at hl 1 rfl) ?_
      refine fg_X11_80 (v := .ref (a_o 24)) hx hb hts hown hK hW 0 rfl rfl dX11_equate_169 ?_
      refine lv_iload_n hx hb dX11_equate_172 rfl (lv_at hl 2 rfl) ?_
      refine lv_dup2_11 hx hb dX11_equate_173 rfl rfl ?_
      obtain ⟨g22, h⟩ := grd_s h
      refine g_iald hx hb hK hW 24 rfl g22 dX11_equate_174 ?_
      refine lv_iconst (v := 1) hx hb dX11_equate_175 (by decide) ?_
      refine lv_iadd hx hb dX11_equate_176 ?_
      obtain ⟨g23, h⟩ := grd_s h
      refine g_iast (ws9 := oc_X11 T a_o (upo x_o21 26 v1_114.toNatClampNeg ((x_o21 26 v1_114.toNatClampNeg) + 1)) ++ Z) hx hb hK hW 24 rfl g23 sa_X11_26 dX11_equate_177 (fun H locs hW => ?_)
      obtain ⟨x_o24, ex_o24⟩ : ∃ y : Ob, y = upo x_o21 26 v1_114.toNatClampNeg ((x_o21 26 v1_114.toNatClampNeg) + 1) := ⟨_, rfl⟩
      rw [← ex_o24] at hW
      have h := lb_at ex_o24 h
      refine lv_aload_n hx hb dX11_equate_178 rfl (lv_at hl 1 rfl) ?_
      refine lv_dup hx hb dX11_equate_179 rfl ?_
      refine fg_X11_219 (v := .int (x_o24 52 0)) hx hb hts hown hK hW 0 rfl rfl dX11_equate_180 ?_
      refine lv_iconst (v := 1) hx hb dX11_equate_183 (by decide) ?_
      refine lv_iadd hx hb dX11_equate_184 ?_
      refine fp_X11_219 (ws9 := oc_X11 T a_o (upo x_o24 52 0 ((x_o24 52 0) + 1)) ++ Z) hx hb hts hown hK hW 0 rfl (Nat.le_of_ble_eq_true rfl) sf_X11_52 dX11_equate_185 (fun H locs hW => ?_)
      obtain ⟨x_o25, ex_o25⟩ : ∃ y : Ob, y = upo x_o24 52 0 ((x_o24 52 0) + 1) := ⟨_, rfl⟩
      rw [← ex_o25] at hW
      have h := lb_at ex_o25 h
      refine lv_aload_n hx hb dX11_equate_188 rfl (lv_at hl 1 rfl) ?_
      refine fg_X11_80 (v := .ref (a_o 24)) hx hb hts hown hK hW 0 rfl rfl dX11_equate_189 ?_
      refine lv_iload_n hx hb dX11_equate_192 rfl (lv_at hl 2 rfl) ?_
      obtain ⟨g26, h⟩ := grd_s h
      refine g_iald hx hb hK hW 24 rfl g26 dX11_equate_193 ?_
      refine lv_iconst (v := 1) hx hb dX11_equate_194 (by decide) ?_
      refine lv_isub hx hb dX11_equate_195 ?_
      obtain ⟨rfl, rfl⟩ := ret2 h
      rw [hQ]
      exact g_reti hx hb hr hlk hW dX11_equate_196
    · have h := ite_t c11 h
      refine lv_iconst (v := 0) hx hb dX11_equate_120 (by decide) ?_
      obtain ⟨rfl, rfl⟩ := ret2 h
      rw [hQ]
      exact g_reti hx hb hr hlk hW dX11_equate_121
  have J113 : ∀ (x_o_113 : Ob) (v1_113 : Int32) (v2_113 : Int32) (v3_113 : Int32) (v4_113 : Int32) (v5_113 : Int32) (s1_113 : Int32) (s2_113 : Int32) (H : Heap) (locs : List Loc) (ls : Array Slot), Wd D A s.heap (oc_X11 T a_o x_o_113 ++ Z) H locs → lv_has ls 10 [(0, .ref (a_o 0)), (1, .int v1_113), (2, .int v2_113), (3, .int v3_113), (4, .int v4_113), (5, .int v5_113)] → f_X11_equate_J113 x_o_113 v1_113 v2_113 v3_113 v4_113 v5_113 s1_113 s2_113 = some (r, x_o9) → W p l e (rmd 1) s m args below meth c H locs 0 0 Q (F0 m 113 ls [.int s2_113, .int s1_113, .ref (a_o 0)]) := by
    intro x_o_113 v1_113 v2_113 v3_113 v4_113 v5_113 s1_113 s2_113 H locs ls hW hl h
    rw [f_X11_equate_J113] at h
    refine lv_iconst (v := 0) hx hb dX11_equate_113 (by decide) ?_
    exact J114 _ _ _ _ _ _ _ _ _ H locs ls hW (lv_sub hl [0, 1, 2, 3, 4, 5] rfl) h
  have J87 : ∀ (x_o_87 : Ob) (v1_87 : Int32) (v2_87 : Int32) (v3_87 : Int32) (v4_87 : Int32) (v5_87 : Int32) (v6_87 : Int32) (s0_87 : Int32) (H : Heap) (locs : List Loc) (ls : Array Slot), Wd D A s.heap (oc_X11 T a_o x_o_87 ++ Z) H locs → lv_has ls 10 [(0, .ref (a_o 0)), (1, .int v1_87), (2, .int v2_87), (3, .int v3_87), (4, .int v4_87), (5, .int v5_87), (6, .int v6_87)] → f_X11_equate_J87 x_o_87 v1_87 v2_87 v3_87 v4_87 v5_87 v6_87 s0_87 = some (r, x_o9) → W p l e (rmd 1) s m args below meth c H locs 0 0 Q (F0 m 87 ls [.int s0_87]) := by
    intro x_o_87 v1_87 v2_87 v3_87 v4_87 v5_87 v6_87 s0_87 H locs ls hW hl h
    rw [f_X11_equate_J87] at h
    refine lv_istore (lv' := [(8, .int s0_87), (0, .ref (a_o 0)), (1, .int v1_87), (2, .int v2_87), (3, .int v3_87), (4, .int v4_87), (5, .int v5_87), (6, .int v6_87)]) hx hb dX11_equate_87 hl (by decide) rfl (fun ls hl => ?_)
    refine lv_aload_n hx hb dX11_equate_89 rfl (lv_at hl 1 rfl) ?_
    refine lv_iload hx hb dX11_equate_90 (lv_at hl 7 rfl) ?_
    refine lv_iload hx hb dX11_equate_92 (lv_at hl 0 rfl) ?_
    refine lv_iload hx hb dX11_equate_94 (lv_at hl 7 rfl) ?_
    refine lv_if_eq (tgt := 113) hx hb dX11_equate_96 (by decide) (fun c7 => ?_) (fun c7 => ?_)
    · have h := ite_t c7 h
      exact J113 _ _ _ _ _ _ _ _ H locs ls hW (lv_sub hl [1, 2, 3, 4, 5, 6] rfl) h
    · have h := ite_f c7 h
      refine lv_aload_n hx hb dX11_equate_99 rfl (lv_at hl 1 rfl) ?_
      refine fg_X11_80 (v := .ref (a_o 24)) hx hb hts hown hK hW 0 rfl rfl dX11_equate_100 ?_
      refine lv_iload_n hx hb dX11_equate_103 rfl (lv_at hl 2 rfl) ?_
      obtain ⟨g27, h⟩ := grd_s h
      refine g_iald hx hb hK hW 24 rfl g27 dX11_equate_104 ?_
      refine lv_iconst (v := 3) hx hb dX11_equate_105 (by decide) ?_
      refine lv_icmp_ge (tgt := 113) hx hb dX11_equate_106 (by decide) (fun c28 => ?_) (fun c28 => ?_)
      · have h := ite_t c28 h
        exact J113 _ _ _ _ _ _ _ _ H locs ls hW (lv_sub hl [1, 2, 3, 4, 5, 6] rfl) h
      · have h := ite_f c28 h
        refine lv_iconst (v := 1) hx hb dX11_equate_109 (by decide) ?_
        refine lv_goto (tgt := 114) hx hb dX11_equate_110 (by decide) ?_
        exact J114 _ _ _ _ _ _ _ _ _ H locs ls hW (lv_sub hl [1, 2, 3, 4, 5, 6] rfl) h
  have J86 : ∀ (x_o_86 : Ob) (v1_86 : Int32) (v2_86 : Int32) (v3_86 : Int32) (v4_86 : Int32) (v5_86 : Int32) (v6_86 : Int32) (H : Heap) (locs : List Loc) (ls : Array Slot), Wd D A s.heap (oc_X11 T a_o x_o_86 ++ Z) H locs → lv_has ls 10 [(0, .ref (a_o 0)), (1, .int v1_86), (2, .int v2_86), (3, .int v3_86), (4, .int v4_86), (5, .int v5_86), (6, .int v6_86)] → f_X11_equate_J86 x_o_86 v1_86 v2_86 v3_86 v4_86 v5_86 v6_86 = some (r, x_o9) → W p l e (rmd 1) s m args below meth c H locs 0 0 Q (F0 m 86 ls []) := by
    intro x_o_86 v1_86 v2_86 v3_86 v4_86 v5_86 v6_86 H locs ls hW hl h
    rw [f_X11_equate_J86] at h
    refine lv_iconst (v := 0) hx hb dX11_equate_86 (by decide) ?_
    exact J87 _ _ _ _ _ _ _ _ H locs ls hW (lv_sub hl [0, 1, 2, 3, 4, 5, 6] rfl) h
  have J33 : ∀ (x_o_33 : Ob) (v1_33 : Int32) (v2_33 : Int32) (v3_33 : Int32) (v4_33 : Int32) (v5_33 : Int32) (v6_33 : Int32) (s0_33 : Int32) (H : Heap) (locs : List Loc) (ls : Array Slot), Wd D A s.heap (oc_X11 T a_o x_o_33 ++ Z) H locs → lv_has ls 10 [(0, .ref (a_o 0)), (1, .int v1_33), (2, .int v2_33), (3, .int v3_33), (4, .int v4_33), (5, .int v5_33), (6, .int v6_33)] → f_X11_equate_J33 x_o_33 v1_33 v2_33 v3_33 v4_33 v5_33 v6_33 s0_33 = some (r, x_o9) → W p l e (rmd 1) s m args below meth c H locs 0 0 Q (F0 m 33 ls [.int s0_33]) := by
    intro x_o_33 v1_33 v2_33 v3_33 v4_33 v5_33 v6_33 s0_33 H locs ls hW hl h
    rw [f_X11_equate_J33] at h
    refine lv_istore (lv' := [(7, .int s0_33), (0, .ref (a_o 0)), (1, .int v1_33), (2, .int v2_33), (3, .int v3_33), (4, .int v4_33), (5, .int v5_33), (6, .int v6_33)]) hx hb dX11_equate_33 hl (by decide) rfl (fun ls hl => ?_)
    refine lv_iload_n hx hb dX11_equate_35 rfl (lv_at hl 3 rfl) ?_
    refine lv_iconst (v := 0) hx hb dX11_equate_36 (by decide) ?_
    refine lv_iconst (v := 2) hx hb dX11_equate_37 (by decide) ?_
    obtain ⟨r4, q5, h⟩ := bnd1_s h
    refine cl_X11_187 hx hb hml hown hts hK hN hW (c_X11_isIn l D T A (oc_X11 T a_o x_o_33 ++ Z) v2_33 0 2 r4 q5) ⟨Nat.le_of_ble_eq_true rfl, Nat.le_of_ble_eq_true rfl⟩ hl.1 rfl (Nat.le_of_ble_eq_true rfl) dX11_equate_38 ⟨Nat.zero_le _, Nat.zero_le _⟩ rfl (fun H locs hW => ?_)
    refine lv_if_eq (tgt := 86) hx hb dX11_equate_41 (by decide) (fun c6 => ?_) (fun c6 => ?_)
    · have h := ite_t c6 h
      exact J86 _ _ _ _ _ _ _ H locs ls hW (lv_sub hl [1, 2, 3, 4, 5, 6, 7] rfl) h
    · have h := ite_f c6 h
      refine lv_iload_n hx hb dX11_equate_44 rfl (lv_at hl 4 rfl) ?_
      refine lv_iconst (v := 0) hx hb dX11_equate_45 (by decide) ?_
      refine lv_iload hx hb dX11_equate_46 (lv_at hl 0 rfl) ?_
      obtain ⟨r29, q30, h⟩ := bnd1_s h
      refine cl_X11_187 hx hb hml hown hts hK hN hW (c_X11_isIn l D T A (oc_X11 T a_o x_o_33 ++ Z) v3_33 0 s0_33 r29 q30) ⟨Nat.le_of_ble_eq_true rfl, Nat.le_of_ble_eq_true rfl⟩ hl.1 rfl (Nat.le_of_ble_eq_true rfl) dX11_equate_48 ⟨Nat.zero_le _, Nat.zero_le _⟩ rfl (fun H locs hW => ?_)
      refine lv_if_eq (tgt := 86) hx hb dX11_equate_51 (by decide) (fun c31 => ?_) (fun c31 => ?_)
      · have h := ite_t c31 h
        exact J86 _ _ _ _ _ _ _ H locs ls hW (lv_sub hl [1, 2, 3, 4, 5, 6, 7] rfl) h
      · have h := ite_f c31 h
        refine lv_iload hx hb dX11_equate_54 (lv_at hl 5 rfl) ?_
        refine lv_iconst (v := 0) hx hb dX11_equate_56 (by decide) ?_
        refine lv_iload hx hb dX11_equate_57 (lv_at hl 0 rfl) ?_
        obtain ⟨r32, q33, h⟩ := bnd1_s h
        refine cl_X11_187 hx hb hml hown hts hK hN hW (c_X11_isIn l D T A (oc_X11 T a_o x_o_33 ++ Z) v4_33 0 s0_33 r32 q33) ⟨Nat.le_of_ble_eq_true rfl, Nat.le_of_ble_eq_true rfl⟩ hl.1 rfl (Nat.le_of_ble_eq_true rfl) dX11_equate_59 ⟨Nat.zero_le _, Nat.zero_le _⟩ rfl (fun H locs hW => ?_)
        refine lv_if_eq (tgt := 86) hx hb dX11_equate_62 (by decide) (fun c34 => ?_) (fun c34 => ?_)
        · have h := ite_t c34 h
          exact J86 _ _ _ _ _ _ _ H locs ls hW (lv_sub hl [1, 2, 3, 4, 5, 6, 7] rfl) h
        · have h := ite_f c34 h
          refine lv_iload_n hx hb dX11_equate_65 rfl (lv_at hl 4 rfl) ?_
          refine lv_iload hx hb dX11_equate_66 (lv_at hl 5 rfl) ?_
          refine lv_icmp_eq (tgt := 86) hx hb dX11_equate_68 (by decide) (fun c35 => ?_) (fun c35 => ?_)
          · have h := ite_t c35 h
            exact J86 _ _ _ _ _ _ _ H locs ls hW (lv_sub hl [1, 2, 3, 4, 5, 6, 7] rfl) h
          · have h := ite_f c35 h
            refine lv_iload hx hb dX11_equate_71 (lv_at hl 6 rfl) ?_
            refine lv_iconst (v := 0) hx hb dX11_equate_73 (by decide) ?_
            refine lv_bipush (v := 20) hx hb dX11_equate_74 (by decide) ?_
            obtain ⟨r36, q37, h⟩ := bnd1_s h
            refine cl_X11_187 hx hb hml hown hts hK hN hW (c_X11_isIn l D T A (oc_X11 T a_o x_o_33 ++ Z) v5_33 0 20 r36 q37) ⟨Nat.le_of_ble_eq_true rfl, Nat.le_of_ble_eq_true rfl⟩ hl.1 rfl (Nat.le_of_ble_eq_true rfl) dX11_equate_76 ⟨Nat.zero_le _, Nat.zero_le _⟩ rfl (fun H locs hW => ?_)
            refine lv_if_eq (tgt := 86) hx hb dX11_equate_79 (by decide) (fun c38 => ?_) (fun c38 => ?_)
            · have h := ite_t c38 h
              exact J86 _ _ _ _ _ _ _ H locs ls hW (lv_sub hl [1, 2, 3, 4, 5, 6, 7] rfl) h
            · have h := ite_f c38 h
              refine lv_iconst (v := 1) hx hb dX11_equate_82 (by decide) ?_
              refine lv_goto (tgt := 87) hx hb dX11_equate_83 (by decide) ?_
              exact J87 _ _ _ _ _ _ _ _ H locs ls hW (lv_sub hl [1, 2, 3, 4, 5, 6, 7] rfl) h
  have J32 : ∀ (x_o_32 : Ob) (v1_32 : Int32) (v2_32 : Int32) (v3_32 : Int32) (v4_32 : Int32) (v5_32 : Int32) (v6_32 : Int32) (H : Heap) (locs : List Loc) (ls : Array Slot), Wd D A s.heap (oc_X11 T a_o x_o_32 ++ Z) H locs → lv_has ls 10 [(0, .ref (a_o 0)), (1, .int v1_32), (2, .int v2_32), (3, .int v3_32), (4, .int v4_32), (5, .int v5_32), (6, .int v6_32)] → f_X11_equate_J32 x_o_32 v1_32 v2_32 v3_32 v4_32 v5_32 v6_32 = some (r, x_o9) → W p l e (rmd 1) s m args below meth c H locs 0 0 Q (F0 m 32 ls []) := by
    intro x_o_32 v1_32 v2_32 v3_32 v4_32 v5_32 v6_32 H locs ls hW hl h
    rw [f_X11_equate_J32] at h
    refine lv_iconst (v := 2) hx hb dX11_equate_32 (by decide) ?_
    exact J33 _ _ _ _ _ _ _ _ H locs ls hW (lv_sub hl [0, 1, 2, 3, 4, 5, 6] rfl) h
  rw [f_X11_equate] at h
  suffices hm : ∀ (H : Heap) (locs : List Loc), Wd D A s.heap (oc_X11 T a_o x_o ++ Z) H locs → W p l e (rmd 1) s m args below meth c H locs 0 0 Q (F0 m 0 ls []) from hm _ _ hW
  intro H locs hW
  refine lv_iload_n hx hb dX11_equate_0 rfl (lv_at hl 1 rfl) ?_
  refine lv_iconst (v := 0) hx hb dX11_equate_1 (by decide) ?_
  refine lv_aload_n hx hb dX11_equate_2 rfl (lv_at hl 0 rfl) ?_
  refine fg_X11_262 (v := .int (x_o 21 0)) hx hb hts hown hK hW 0 rfl rfl dX11_equate_3 ?_
  refine lv_iconst (v := 1) hx hb dX11_equate_6 (by decide) ?_
  refine lv_isub hx hb dX11_equate_7 ?_
  obtain ⟨r1, q2, h⟩ := bnd1_s h
  refine cl_X11_187 hx hb hml hown hts hK hN hW (c_X11_isIn l D T A (oc_X11 T a_o x_o ++ Z) p1 0 ((x_o 21 0) - 1) r1 q2) ⟨Nat.le_of_ble_eq_true rfl, Nat.le_of_ble_eq_true rfl⟩ hl.1 rfl (Nat.le_of_ble_eq_true rfl) dX11_equate_8 ⟨Nat.zero_le _, Nat.zero_le _⟩ rfl (fun H locs hW => ?_)
  refine lv_istore (lv' := [(6, .int r1), (0, .ref (a_o 0)), (1, .int p1), (2, .int p2), (3, .int p3), (4, .int p4), (5, .int p5)]) hx hb dX11_equate_11 hl (by decide) rfl (fun ls hl => ?_)
  refine lv_iload hx hb dX11_equate_13 (lv_at hl 0 rfl) ?_
  refine lv_if_eq (tgt := 32) hx hb dX11_equate_15 (by decide) (fun c3 => ?_) (fun c3 => ?_)
  · have h := ite_t c3 h
    exact J32 _ _ _ _ _ _ _ H locs ls hW (lv_sub hl [1, 2, 3, 4, 5, 6, 0] rfl) h
  · have h := ite_f c3 h
    refine lv_aload_n hx hb dX11_equate_18 rfl (lv_at hl 1 rfl) ?_
    refine fg_X11_74 (v := .ref (a_o 22)) hx hb hts hown hK hW 0 rfl rfl dX11_equate_19 ?_
    refine lv_iload_n hx hb dX11_equate_22 rfl (lv_at hl 2 rfl) ?_
    obtain ⟨g39, h⟩ := grd_s h
    refine g_iald hx hb hK hW 22 rfl g39 dX11_equate_23 ?_
    refine lv_iconst (v := (-1)) hx hb dX11_equate_24 (by decide) ?_
    refine lv_icmp_ne (tgt := 32) hx hb dX11_equate_25 (by decide) (fun c40 => ?_) (fun c40 => ?_)
    · have h := ite_f c40 h
      exact J32 _ _ _ _ _ _ _ H locs ls hW (lv_sub hl [1, 2, 3, 4, 5, 6, 0] rfl) h
    · have h := ite_t c40 h
      refine lv_iconst (v := 1) hx hb dX11_equate_28 (by decide) ?_
      refine lv_goto (tgt := 33) hx hb dX11_equate_29 (by decide) ?_
      exact J33 _ _ _ _ _ _ _ _ H locs ls hW (lv_sub hl [1, 2, 3, 4, 5, 6, 0] rfl) h
set_option maxHeartbeats 4000000 in
set_option maxRecDepth 100000 in
theorem c_X11_load (l : Launch) (D : va_G) (T : Nat → ClassId) (A : Nat → Prop) (a_o : Nat → Nat) (Z : va_W)  (x_o : Ob) (p1 : Int32) (p2 : Int32) (x_o9 : Ob) (h : f_X11_load x_o p1 p2 = some x_o9) : Met l yX11_load (Cond.code yX11_load cX11_load 3 none :: wsL_law) (rmd 0) (Pg D T A (oc_X11 T a_o x_o ++ Z) [.ref (a_o 0), .int p1, .int p2]) (Qgv D A (oc_X11 T a_o x_o9 ++ Z)) 0 0 A := by
  refine Met.ofW (cc := cX11_load) (maxL := 3) (ret := none) (by decide +kernel) rfl ?_
  intro p e s m args below meth c s₁ B hml hv
  obtain ⟨ha, hP, hK, hD, hN⟩ := hv
  have hx := B.exec
  have hb := B.bytes
  have hr := B.returns
  have hlk := B.notSynchronized
  have hts : ∀ w ∈ wsL_law, w.before args s = true := fun w hw => atoms_spec B.pre w (List.mem_cons_of_mem _ hw)
  have hown : s.vm.findClass RX11 = some m.cls := findClass_of_methodNamed B.named
  have hW : Wd D A s.heap (oc_X11 T a_o x_o ++ Z) s.heap [] := ⟨hP, hD, va_S.rf⟩
  have hl := lv_entry [.ref (a_o 0), .int p1, .int p2] (n := 3) (Nat.le_of_ble_eq_true rfl)
  refine W.eq (en_eq ha) ?_
  generalize (lg_sl [.ref (a_o 0), .int p1, .int p2] ++ List.replicate (3 - (lg_sl [.ref (a_o 0), .int p1, .int p2]).length) Slot.unset).toArray = ls at hl ⊢
  have hl : lv_has ls 3 [(0, .ref (a_o 0)), (1, .int p1), (2, .int p2)] := hl
  clear hP hD B ha
  obtain ⟨Q, hQ⟩ : ∃ Q, Q = MQ below (Qgv D A (oc_X11 T a_o x_o9 ++ Z)) args s 0 0 A := ⟨_, rfl⟩
  rw [← hQ]
  change W p l e (rmd 0) s m args below meth c s.heap [] 0 0 Q (F0 m 0 ls [])
  rw [f_X11_load] at h
  suffices hm : ∀ (H : Heap) (locs : List Loc), Wd D A s.heap (oc_X11 T a_o x_o ++ Z) H locs → W p l e (rmd 0) s m args below meth c H locs 0 0 Q (F0 m 0 ls []) from hm _ _ hW
  intro H locs hW
  refine lv_aload_n hx hb dX11_load_0 rfl (lv_at hl 0 rfl) ?_
  refine fg_X11_123 (v := .ref (a_o 38)) hx hb hts hown hK hW 0 rfl rfl dX11_load_1 ?_
  refine lv_iconst (v := 3) hx hb dX11_load_4 (by decide) ?_
  refine lv_iload_n hx hb dX11_load_5 rfl (lv_at hl 1 rfl) ?_
  refine lv_imul hx hb dX11_load_6 ?_
  refine lv_aload_n hx hb dX11_load_7 rfl (lv_at hl 0 rfl) ?_
  refine fg_X11_99 (v := .ref (a_o 30)) hx hb hts hown hK hW 0 rfl rfl dX11_load_8 ?_
  refine lv_iload_n hx hb dX11_load_11 rfl (lv_at hl 2 rfl) ?_
  obtain ⟨g1, h⟩ := grd_s h
  refine g_iald hx hb hK hW 30 rfl g1 dX11_load_12 ?_
  refine lv_bipush (v := 100) hx hb dX11_load_13 (by decide) ?_
  refine lv_idiv hx hb dX11_load_15 (by decide) ?_
  obtain ⟨g2, h⟩ := grd_s h
  refine g_iast (ws9 := oc_X11 T a_o (upo x_o 41 (3 * p1).toNatClampNeg ((x_o 33 p2.toNatClampNeg) / 100)) ++ Z) hx hb hK hW 38 rfl g2 sa_X11_41 dX11_load_16 (fun H locs hW => ?_)
  obtain ⟨x_o3, ex_o3⟩ : ∃ y : Ob, y = upo x_o 41 (3 * p1).toNatClampNeg ((x_o 33 p2.toNatClampNeg) / 100) := ⟨_, rfl⟩
  rw [← ex_o3] at hW
  have h := lb_at ex_o3 h
  refine lv_aload_n hx hb dX11_load_17 rfl (lv_at hl 0 rfl) ?_
  refine fg_X11_123 (v := .ref (a_o 38)) hx hb hts hown hK hW 0 rfl rfl dX11_load_18 ?_
  refine lv_iconst (v := 3) hx hb dX11_load_21 (by decide) ?_
  refine lv_iload_n hx hb dX11_load_22 rfl (lv_at hl 1 rfl) ?_
  refine lv_imul hx hb dX11_load_23 ?_
  refine lv_iconst (v := 1) hx hb dX11_load_24 (by decide) ?_
  refine lv_iadd hx hb dX11_load_25 ?_
  refine lv_aload_n hx hb dX11_load_26 rfl (lv_at hl 0 rfl) ?_
  refine fg_X11_99 (v := .ref (a_o 30)) hx hb hts hown hK hW 0 rfl rfl dX11_load_27 ?_
  refine lv_iload_n hx hb dX11_load_30 rfl (lv_at hl 2 rfl) ?_
  obtain ⟨g4, h⟩ := grd_s h
  refine g_iald hx hb hK hW 30 rfl g4 dX11_load_31 ?_
  refine lv_bipush (v := 10) hx hb dX11_load_32 (by decide) ?_
  refine lv_idiv hx hb dX11_load_34 (by decide) ?_
  refine lv_bipush (v := 10) hx hb dX11_load_35 (by decide) ?_
  refine lv_irem hx hb dX11_load_37 (by decide) ?_
  obtain ⟨g5, h⟩ := grd_s h
  refine g_iast (ws9 := oc_X11 T a_o (upo x_o3 41 ((3 * p1) + 1).toNatClampNeg (((x_o3 33 p2.toNatClampNeg) / 10) - ((x_o3 33 p2.toNatClampNeg) / 10) / 10 * 10)) ++ Z) hx hb hK hW 38 rfl g5 sa_X11_41 dX11_load_38 (fun H locs hW => ?_)
  obtain ⟨x_o6, ex_o6⟩ : ∃ y : Ob, y = upo x_o3 41 ((3 * p1) + 1).toNatClampNeg (((x_o3 33 p2.toNatClampNeg) / 10) - ((x_o3 33 p2.toNatClampNeg) / 10) / 10 * 10) := ⟨_, rfl⟩
  rw [← ex_o6] at hW
  have h := lb_at ex_o6 h
  refine lv_aload_n hx hb dX11_load_39 rfl (lv_at hl 0 rfl) ?_
  refine fg_X11_123 (v := .ref (a_o 38)) hx hb hts hown hK hW 0 rfl rfl dX11_load_40 ?_
  refine lv_iconst (v := 3) hx hb dX11_load_43 (by decide) ?_
  refine lv_iload_n hx hb dX11_load_44 rfl (lv_at hl 1 rfl) ?_
  refine lv_imul hx hb dX11_load_45 ?_
  refine lv_iconst (v := 2) hx hb dX11_load_46 (by decide) ?_
  refine lv_iadd hx hb dX11_load_47 ?_
  refine lv_aload_n hx hb dX11_load_48 rfl (lv_at hl 0 rfl) ?_
  refine fg_X11_99 (v := .ref (a_o 30)) hx hb hts hown hK hW 0 rfl rfl dX11_load_49 ?_
  refine lv_iload_n hx hb dX11_load_52 rfl (lv_at hl 2 rfl) ?_
  obtain ⟨g7, h⟩ := grd_s h
  refine g_iald hx hb hK hW 30 rfl g7 dX11_load_53 ?_
  refine lv_bipush (v := 10) hx hb dX11_load_54 (by decide) ?_
  refine lv_irem hx hb dX11_load_56 (by decide) ?_
  obtain ⟨g8, h⟩ := grd_s h
  refine g_iast (ws9 := oc_X11 T a_o (upo x_o6 41 ((3 * p1) + 2).toNatClampNeg ((x_o6 33 p2.toNatClampNeg) - (x_o6 33 p2.toNatClampNeg) / 10 * 10)) ++ Z) hx hb hK hW 38 rfl g8 sa_X11_41 dX11_load_57 (fun H locs hW => ?_)
  obtain ⟨x_o9, ex_o9⟩ : ∃ y : Ob, y = upo x_o6 41 ((3 * p1) + 2).toNatClampNeg ((x_o6 33 p2.toNatClampNeg) - (x_o6 33 p2.toNatClampNeg) / 10 * 10) := ⟨_, rfl⟩
  rw [← ex_o9] at hW
  have h := lb_at ex_o9 h
  obtain rfl := ret1 h
  rw [hQ]
  exact g_retv hx hb hr hlk hW dX11_load_58
set_option maxHeartbeats 4000000 in
set_option maxRecDepth 100000 in
theorem c_X11_use (l : Launch) (D : va_G) (T : Nat → ClassId) (A : Nat → Prop) (a_o : Nat → Nat) (Z : va_W)  (x_o : Ob) (p1 : Int32) (p2 : Int32) (p3 : Int32) (p4 : Int32) (r : Int32) (x_o9 : Ob) (h : f_X11_use x_o p1 p2 p3 p4 = some (r, x_o9)) : Met l yX11_use (Cond.code yX11_use cX11_use 10 (some .int) :: wsL_law) (rmd 1) (Pg D T A (oc_X11 T a_o x_o ++ Z) [.ref (a_o 0), .int p1, .int p2, .int p3, .int p4]) (Qgi D A (oc_X11 T a_o x_o9 ++ Z) r) 0 0 A := by
  refine Met.ofW (cc := cX11_use) (maxL := 10) (ret := (some .int)) (by decide +kernel) rfl ?_
  intro p e s m args below meth c s₁ B hml hv
  obtain ⟨ha, hP, hK, hD, hN⟩ := hv
  have hx := B.exec
  have hb := B.bytes
  have hr := B.returns
  have hlk := B.notSynchronized
  have hts : ∀ w ∈ wsL_law, w.before args s = true := fun w hw => atoms_spec B.pre w (List.mem_cons_of_mem _ hw)
  have hown : s.vm.findClass RX11 = some m.cls := findClass_of_methodNamed B.named
  have hW : Wd D A s.heap (oc_X11 T a_o x_o ++ Z) s.heap [] := ⟨hP, hD, va_S.rf⟩
  have hl := lv_entry [.ref (a_o 0), .int p1, .int p2, .int p3, .int p4] (n := 10) (Nat.le_of_ble_eq_true rfl)
  refine W.eq (en_eq ha) ?_
  generalize (lg_sl [.ref (a_o 0), .int p1, .int p2, .int p3, .int p4] ++ List.replicate (10 - (lg_sl [.ref (a_o 0), .int p1, .int p2, .int p3, .int p4]).length) Slot.unset).toArray = ls at hl ⊢
  have hl : lv_has ls 10 [(0, .ref (a_o 0)), (1, .int p1), (2, .int p2), (3, .int p3), (4, .int p4)] := hl
  clear hP hD B ha
  obtain ⟨Q, hQ⟩ : ∃ Q, Q = MQ below (Qgi D A (oc_X11 T a_o x_o9 ++ Z) r) args s 0 0 A := ⟨_, rfl⟩
  rw [← hQ]
  change W p l e (rmd 1) s m args below meth c s.heap [] 0 0 Q (F0 m 0 ls [])
  have L74 : ∀ (n : Nat) (x_o_74 : Ob) (v1_74 : Int32) (v4_74 : Int32) (v5_74 : Int32) (v6_74 : Int32) (H : Heap) (locs : List Loc) (ls : Array Slot) (code : Nat) (o5_74r : Int32) (o6_74r : Int32) (y_o_74r : Ob), Wd D A s.heap (oc_X11 T a_o x_o_74 ++ Z) H locs → lv_has ls 10 [(0, .ref (a_o 0)), (1, .int v1_74), (4, .int v4_74), (5, .int v5_74), (6, .int v6_74)] → f_X11_use_L74 n x_o_74 v1_74 v4_74 v5_74 v6_74 = some (code, o5_74r, o6_74r, y_o_74r) → (code = 1 → ∀ (H : Heap) (locs : List Loc) (ls : Array Slot), Wd D A s.heap (oc_X11 T a_o y_o_74r ++ Z) H locs → lv_has ls 10 [(5, .int o5_74r)] → W p l e (rmd 1) s m args below meth c H locs 0 0 Q (F0 m 241 ls [])) → (code = 2 → ∀ (H : Heap) (locs : List Loc) (ls : Array Slot), Wd D A s.heap (oc_X11 T a_o y_o_74r ++ Z) H locs → lv_has ls 10 [] → W p l e (rmd 1) s m args below meth c H locs 0 0 Q (F0 m 208 ls [])) → W p l e (rmd 1) s m args below meth c H locs 0 0 Q (F0 m 74 ls []) := by
    intro n
    induction n with
    | zero =>
      intro x_o_74 v1_74 v4_74 v5_74 v6_74 H locs ls code o5_74r o6_74r y_o_74r hW hl h k1 k2
      rw [f_X11_use_L74] at h
      cases h
    | succ n ih =>
      intro x_o_74 v1_74 v4_74 v5_74 v6_74 H locs ls code o5_74r o6_74r y_o_74r hW hl h k1 k2
      rw [f_X11_use_L74] at h
      refine lv_iload hx hb dX11_use_74 (lv_at hl 4 rfl) ?_
      refine lv_iload hx hb dX11_use_76 (lv_at hl 2 rfl) ?_
      refine lv_icmp_ge (tgt := 241) hx hb dX11_use_78 (by decide) (fun c10 => ?_) (fun c10 => ?_)
      · have h := ite_t c10 h
        obtain ⟨rfl, rfl, rfl, rfl⟩ := ret4 h
        exact k1 rfl H locs ls hW (lv_sub hl [3] rfl)
      · have h := ite_f c10 h
        refine lv_iconst (v := 3) hx hb dX11_use_81 (by decide) ?_
        refine lv_iload_n hx hb dX11_use_82 rfl (lv_at hl 1 rfl) ?_
        refine lv_imul hx hb dX11_use_83 ?_
        refine lv_iload hx hb dX11_use_84 (lv_at hl 4 rfl) ?_
        refine lv_iadd hx hb dX11_use_86 ?_
        refine lv_topi (fun w7_11 ew7_11 => ?_)
        have h := lb_at ew7_11 h
        refine lv_istore (lv' := [(7, .int w7_11), (0, .ref (a_o 0)), (1, .int v1_74), (4, .int v4_74), (5, .int v5_74), (6, .int v6_74)]) hx hb dX11_use_87 hl (by decide) rfl (fun ls hl => ?_)
        refine lv_iconst (v := 3) hx hb dX11_use_89 (by decide) ?_
        refine lv_aload_n hx hb dX11_use_90 rfl (lv_at hl 1 rfl) ?_
        refine fg_X11_86 (v := .ref (a_o 26)) hx hb hts hown hK hW 0 rfl rfl dX11_use_91 ?_
        refine lv_iload hx hb dX11_use_94 (lv_at hl 0 rfl) ?_
        obtain ⟨g12, h⟩ := grd_s h
        refine g_iald hx hb hK hW 26 rfl g12 dX11_use_96 ?_
        refine lv_imul hx hb dX11_use_97 ?_
        refine lv_aload_n hx hb dX11_use_98 rfl (lv_at hl 1 rfl) ?_
        refine fg_X11_83 (v := .ref (a_o 25)) hx hb hts hown hK hW 0 rfl rfl dX11_use_99 ?_
        refine lv_iload hx hb dX11_use_102 (lv_at hl 0 rfl) ?_
        obtain ⟨g13, h⟩ := grd_s h
        refine g_iald hx hb hK hW 25 rfl g13 dX11_use_104 ?_
        refine lv_iadd hx hb dX11_use_105 ?_
        refine lv_topi (fun w8_14 ew8_14 => ?_)
        have h := lb_at ew8_14 h
        refine lv_istore (lv' := [(8, .int w8_14), (7, .int w7_11), (0, .ref (a_o 0)), (1, .int v1_74), (4, .int v4_74), (5, .int v5_74), (6, .int v6_74)]) hx hb dX11_use_106 hl (by decide) rfl (fun ls hl => ?_)
        refine lv_iconst (v := 3) hx hb dX11_use_108 (by decide) ?_
        refine lv_aload_n hx hb dX11_use_109 rfl (lv_at hl 2 rfl) ?_
        refine fg_X11_89 (v := .ref (a_o 27)) hx hb hts hown hK hW 0 rfl rfl dX11_use_110 ?_
        refine lv_iload hx hb dX11_use_113 (lv_at hl 1 rfl) ?_
        obtain ⟨g15, h⟩ := grd_s h
        refine g_iald hx hb hK hW 27 rfl g15 dX11_use_115 ?_
        refine lv_imul hx hb dX11_use_116 ?_
        refine lv_aload_n hx hb dX11_use_117 rfl (lv_at hl 2 rfl) ?_
        refine fg_X11_83 (v := .ref (a_o 25)) hx hb hts hown hK hW 0 rfl rfl dX11_use_118 ?_
        refine lv_iload hx hb dX11_use_121 (lv_at hl 1 rfl) ?_
        obtain ⟨g16, h⟩ := grd_s h
        refine g_iald hx hb hK hW 25 rfl g16 dX11_use_123 ?_
        refine lv_iadd hx hb dX11_use_124 ?_
        refine lv_topi (fun w9_17 ew9_17 => ?_)
        have h := lb_at ew9_17 h
        refine lv_istore (lv' := [(9, .int w9_17), (8, .int w8_14), (7, .int w7_11), (0, .ref (a_o 0)), (1, .int v1_74), (4, .int v4_74), (5, .int v5_74), (6, .int v6_74)]) hx hb dX11_use_125 hl (by decide) rfl (fun ls hl => ?_)
        refine lv_aload_n hx hb dX11_use_127 rfl (lv_at hl 3 rfl) ?_
        refine fg_X11_123 (v := .ref (a_o 38)) hx hb hts hown hK hW 0 rfl rfl dX11_use_128 ?_
        refine lv_iload hx hb dX11_use_131 (lv_at hl 1 rfl) ?_
        obtain ⟨g18, h⟩ := grd_s h
        refine g_iald hx hb hK hW 38 rfl g18 dX11_use_133 ?_
        refine lv_if_ne (tgt := 154) hx hb dX11_use_134 (by decide) (fun c19 => ?_) (fun c19 => ?_)
        · have h := ite_f c19 h
          refine lv_aload_n hx hb dX11_use_154 rfl (lv_at hl 3 rfl) ?_
          refine fg_X11_123 (v := .ref (a_o 38)) hx hb hts hown hK hW 0 rfl rfl dX11_use_155 ?_
          refine lv_iload hx hb dX11_use_158 (lv_at hl 0 rfl) ?_
          obtain ⟨g20, h⟩ := grd_s h
          refine g_iald hx hb hK hW 38 rfl g20 dX11_use_160 ?_
          refine lv_if_ne (tgt := 181) hx hb dX11_use_161 (by decide) (fun c21 => ?_) (fun c21 => ?_)
          · have h := ite_f c21 h
            refine lv_aload_n hx hb dX11_use_181 rfl (lv_at hl 3 rfl) ?_
            refine fg_X11_123 (v := .ref (a_o 38)) hx hb hts hown hK hW 0 rfl rfl dX11_use_182 ?_
            refine lv_iload hx hb dX11_use_185 (lv_at hl 1 rfl) ?_
            obtain ⟨g22, h⟩ := grd_s h
            refine g_iald hx hb hK hW 38 rfl g22 dX11_use_187 ?_
            refine lv_aload_n hx hb dX11_use_188 rfl (lv_at hl 3 rfl) ?_
            refine fg_X11_123 (v := .ref (a_o 38)) hx hb hts hown hK hW 0 rfl rfl dX11_use_189 ?_
            refine lv_iload hx hb dX11_use_192 (lv_at hl 0 rfl) ?_
            obtain ⟨g23, h⟩ := grd_s h
            refine g_iald hx hb hK hW 38 rfl g23 dX11_use_194 ?_
            refine lv_icmp_eq (tgt := 235) hx hb dX11_use_195 (by decide) (fun c24 => ?_) (fun c24 => ?_)
            · have h := ite_t c24 h
              obtain ⟨w6_25, ew6_25⟩ : ∃ y : Int32, y = v6_74 + 1 := ⟨_, rfl⟩
              have h := lb_at ew6_25 h
              refine lv_iinc (v := w6_25) (lv' := [(6, .int w6_25), (9, .int w9_17), (8, .int w8_14), (7, .int w7_11), (0, .ref (a_o 0)), (1, .int v1_74), (4, .int v4_74), (5, .int v5_74)]) hx hb dX11_use_235 hl (k := 7) rfl (by rw [ew6_25]; rfl) (by decide) rfl (fun ls hl => ?_)
              refine lv_goto (tgt := 74) hx hb dX11_use_238 (by decide) ?_
              exact ih _ _ _ _ _ H locs ls _ _ _ _ hW (lv_sub hl [4, 5, 6, 7, 0] rfl) h k1 k2
            · have h := ite_f c24 h
              refine lv_aload_n hx hb dX11_use_198 rfl (lv_at hl 3 rfl) ?_
              refine fg_X11_92 (v := .ref (a_o 28)) hx hb hts hown hK hW 0 rfl rfl dX11_use_199 ?_
              refine lv_iload hx hb dX11_use_202 (lv_at hl 2 rfl) ?_
              obtain ⟨g26, h⟩ := grd_s h
              refine g_iald hx hb hK hW 28 rfl g26 dX11_use_204 ?_
              refine lv_if_ne (tgt := 210) hx hb dX11_use_205 (by decide) (fun c27 => ?_) (fun c27 => ?_)
              · have h := ite_f c27 h
                refine lv_iload hx hb dX11_use_210 (lv_at hl 6 rfl) ?_
                refine lv_iconst (v := 1) hx hb dX11_use_212 (by decide) ?_
                refine lv_iload hx hb dX11_use_213 (lv_at hl 7 rfl) ?_
                refine lv_ishl hx hb dX11_use_215 ?_
                refine lv_ior hx hb dX11_use_216 ?_
                refine lv_topi (fun w5_28 ew5_28 => ?_)
                have h := lb_at ew5_28 h
                refine lv_istore (lv' := [(5, .int w5_28), (9, .int w9_17), (8, .int w8_14), (7, .int w7_11), (0, .ref (a_o 0)), (1, .int v1_74), (4, .int v4_74), (6, .int v6_74)]) hx hb dX11_use_217 hl (by decide) rfl (fun ls hl => ?_)
                refine lv_aload_n hx hb dX11_use_219 rfl (lv_at hl 4 rfl) ?_
                refine lv_dup hx hb dX11_use_220 rfl ?_
                refine fg_X11_268 (v := .int (x_o_74 42 0)) hx hb hts hown hK hW 0 rfl rfl dX11_use_221 ?_
                refine lv_aload_n hx hb dX11_use_224 rfl (lv_at hl 4 rfl) ?_
                refine fg_X11_92 (v := .ref (a_o 28)) hx hb hts hown hK hW 0 rfl rfl dX11_use_225 ?_
                refine lv_iload hx hb dX11_use_228 (lv_at hl 3 rfl) ?_
                obtain ⟨g29, h⟩ := grd_s h
                refine g_iald hx hb hK hW 28 rfl g29 dX11_use_230 ?_
                refine lv_iadd hx hb dX11_use_231 ?_
                refine fp_X11_268 (ws9 := oc_X11 T a_o (upo x_o_74 42 0 ((x_o_74 42 0) + (x_o_74 30 w7_11.toNatClampNeg))) ++ Z) hx hb hts hown hK hW 0 rfl (Nat.le_of_ble_eq_true rfl) sf_X11_42 dX11_use_232 (fun H locs hW => ?_)
                obtain ⟨x_o30, ex_o30⟩ : ∃ y : Ob, y = upo x_o_74 42 0 ((x_o_74 42 0) + (x_o_74 30 w7_11.toNatClampNeg)) := ⟨_, rfl⟩
                rw [← ex_o30] at hW
                have h := lb_at ex_o30 h
                obtain ⟨w6_31, ew6_31⟩ : ∃ y : Int32, y = v6_74 + 1 := ⟨_, rfl⟩
                have h := lb_at ew6_31 h
                refine lv_iinc (v := w6_31) (lv' := [(6, .int w6_31), (5, .int w5_28), (9, .int w9_17), (8, .int w8_14), (7, .int w7_11), (0, .ref (a_o 0)), (1, .int v1_74), (4, .int v4_74)]) hx hb dX11_use_235 hl (k := 7) rfl (by rw [ew6_31]; rfl) (by decide) rfl (fun ls hl => ?_)
                refine lv_goto (tgt := 74) hx hb dX11_use_238 (by decide) ?_
                exact ih _ _ _ _ _ H locs ls _ _ _ _ hW (lv_sub hl [5, 6, 7, 1, 0] rfl) h k1 k2
              · have h := ite_t c27 h
                obtain ⟨rfl, rfl, rfl, rfl⟩ := ret4 h
                exact k2 rfl H locs ls hW (lv_sub hl [] rfl)
          · have h := ite_t c21 h
            refine lv_aload_n hx hb dX11_use_164 rfl (lv_at hl 3 rfl) ?_
            refine fg_X11_123 (v := .ref (a_o 38)) hx hb hts hown hK hW 0 rfl rfl dX11_use_165 ?_
            refine lv_iload hx hb dX11_use_168 (lv_at hl 0 rfl) ?_
            refine lv_aload_n hx hb dX11_use_170 rfl (lv_at hl 3 rfl) ?_
            refine fg_X11_123 (v := .ref (a_o 38)) hx hb hts hown hK hW 0 rfl rfl dX11_use_171 ?_
            refine lv_iload hx hb dX11_use_174 (lv_at hl 1 rfl) ?_
            obtain ⟨g32, h⟩ := grd_s h
            refine g_iald hx hb hK hW 38 rfl g32 dX11_use_176 ?_
            obtain ⟨g33, h⟩ := grd_s h
            refine g_iast (ws9 := oc_X11 T a_o (upo x_o_74 41 w9_17.toNatClampNeg (x_o_74 41 w8_14.toNatClampNeg)) ++ Z) hx hb hK hW 38 rfl g33 sa_X11_41 dX11_use_177 (fun H locs hW => ?_)
            obtain ⟨x_o34, ex_o34⟩ : ∃ y : Ob, y = upo x_o_74 41 w9_17.toNatClampNeg (x_o_74 41 w8_14.toNatClampNeg) := ⟨_, rfl⟩
            rw [← ex_o34] at hW
            have h := lb_at ex_o34 h
            refine lv_goto (tgt := 235) hx hb dX11_use_178 (by decide) ?_
            obtain ⟨w6_35, ew6_35⟩ : ∃ y : Int32, y = v6_74 + 1 := ⟨_, rfl⟩
            have h := lb_at ew6_35 h
            refine lv_iinc (v := w6_35) (lv' := [(6, .int w6_35), (9, .int w9_17), (8, .int w8_14), (7, .int w7_11), (0, .ref (a_o 0)), (1, .int v1_74), (4, .int v4_74), (5, .int v5_74)]) hx hb dX11_use_235 hl (k := 7) rfl (by rw [ew6_35]; rfl) (by decide) rfl (fun ls hl => ?_)
            refine lv_goto (tgt := 74) hx hb dX11_use_238 (by decide) ?_
            exact ih _ _ _ _ _ H locs ls _ _ _ _ hW (lv_sub hl [4, 5, 6, 7, 0] rfl) h k1 k2
        · have h := ite_t c19 h
          refine lv_aload_n hx hb dX11_use_137 rfl (lv_at hl 3 rfl) ?_
          refine fg_X11_123 (v := .ref (a_o 38)) hx hb hts hown hK hW 0 rfl rfl dX11_use_138 ?_
          refine lv_iload hx hb dX11_use_141 (lv_at hl 1 rfl) ?_
          refine lv_aload_n hx hb dX11_use_143 rfl (lv_at hl 3 rfl) ?_
          refine fg_X11_123 (v := .ref (a_o 38)) hx hb hts hown hK hW 0 rfl rfl dX11_use_144 ?_
          refine lv_iload hx hb dX11_use_147 (lv_at hl 0 rfl) ?_
          obtain ⟨g36, h⟩ := grd_s h
          refine g_iald hx hb hK hW 38 rfl g36 dX11_use_149 ?_
          obtain ⟨g37, h⟩ := grd_s h
          refine g_iast (ws9 := oc_X11 T a_o (upo x_o_74 41 w8_14.toNatClampNeg (x_o_74 41 w9_17.toNatClampNeg)) ++ Z) hx hb hK hW 38 rfl g37 sa_X11_41 dX11_use_150 (fun H locs hW => ?_)
          obtain ⟨x_o38, ex_o38⟩ : ∃ y : Ob, y = upo x_o_74 41 w8_14.toNatClampNeg (x_o_74 41 w9_17.toNatClampNeg) := ⟨_, rfl⟩
          rw [← ex_o38] at hW
          have h := lb_at ex_o38 h
          refine lv_goto (tgt := 235) hx hb dX11_use_151 (by decide) ?_
          obtain ⟨w6_39, ew6_39⟩ : ∃ y : Int32, y = v6_74 + 1 := ⟨_, rfl⟩
          have h := lb_at ew6_39 h
          refine lv_iinc (v := w6_39) (lv' := [(6, .int w6_39), (9, .int w9_17), (8, .int w8_14), (7, .int w7_11), (0, .ref (a_o 0)), (1, .int v1_74), (4, .int v4_74), (5, .int v5_74)]) hx hb dX11_use_235 hl (k := 7) rfl (by rw [ew6_39]; rfl) (by decide) rfl (fun ls hl => ?_)
          refine lv_goto (tgt := 74) hx hb dX11_use_238 (by decide) ?_
          exact ih _ _ _ _ _ H locs ls _ _ _ _ hW (lv_sub hl [4, 5, 6, 7, 0] rfl) h k1 k2
  have J68 : ∀ (x_o_68 : Ob) (v1_68 : Int32) (v4_68 : Int32) (H : Heap) (locs : List Loc) (ls : Array Slot), Wd D A s.heap (oc_X11 T a_o x_o_68 ++ Z) H locs → lv_has ls 10 [(0, .ref (a_o 0)), (1, .int v1_68), (4, .int v4_68)] → f_X11_use_J68 x_o_68 v1_68 v4_68 = some (r, x_o9) → W p l e (rmd 1) s m args below meth c H locs 0 0 Q (F0 m 68 ls []) := by
    intro x_o_68 v1_68 v4_68 H locs ls hW hl h
    rw [f_X11_use_J68] at h
    refine lv_iconst (v := 0) hx hb dX11_use_68 (by decide) ?_
    refine lv_istore (lv' := [(5, .int 0), (0, .ref (a_o 0)), (1, .int v1_68), (4, .int v4_68)]) hx hb dX11_use_69 hl (by decide) rfl (fun ls hl => ?_)
    refine lv_iconst (v := 0) hx hb dX11_use_71 (by decide) ?_
    refine lv_istore (lv' := [(6, .int 0), (5, .int 0), (0, .ref (a_o 0)), (1, .int v1_68), (4, .int v4_68)]) hx hb dX11_use_72 hl (by decide) rfl (fun ls hl => ?_)
    obtain ⟨code41, o5_u40, o6_u40, y_o_u40, q42, h⟩ := bnd4_s h
    refine L74 200 _ _ _ _ _ H locs ls code41 o5_u40 o6_u40 y_o_u40 hW (lv_sub hl [2, 3, 4, 1, 0] rfl) q42 (fun hc H locs ls hW hl => ?_) (fun hc H locs ls hW hl => ?_)
    · have h := ite_t hc h
      refine lv_iload hx hb dX11_use_241 (lv_at hl 0 rfl) ?_
      obtain ⟨rfl, rfl⟩ := ret2 h
      rw [hQ]
      exact g_reti hx hb hr hlk hW dX11_use_243
    · have h := ite_f (by rw [hc]; decide) h
      refine lv_iconst (v := (-1)) hx hb dX11_use_208 (by decide) ?_
      obtain ⟨rfl, rfl⟩ := ret2 h
      rw [hQ]
      exact g_reti hx hb hr hlk hW dX11_use_209
  rw [f_X11_use] at h
  suffices hm : ∀ (H : Heap) (locs : List Loc), Wd D A s.heap (oc_X11 T a_o x_o ++ Z) H locs → W p l e (rmd 1) s m args below meth c H locs 0 0 Q (F0 m 0 ls []) from hm _ _ hW
  intro H locs hW
  refine lv_aload_n hx hb dX11_use_0 rfl (lv_at hl 0 rfl) ?_
  refine fg_X11_123 (v := .ref (a_o 38)) hx hb hts hown hK hW 0 rfl rfl dX11_use_1 ?_
  refine lv_iconst (v := 0) hx hb dX11_use_4 (by decide) ?_
  refine lv_iconst (v := 0) hx hb dX11_use_5 (by decide) ?_
  refine g_iast (ws9 := oc_X11 T a_o (upo x_o 41 (0 : Int32).toNatClampNeg 0) ++ Z) hx hb hK hW 38 rfl (by decide) sa_X11_41 dX11_use_6 (fun H locs hW => ?_)
  obtain ⟨x_o1, ex_o1⟩ : ∃ y : Ob, y = upo x_o 41 (0 : Int32).toNatClampNeg 0 := ⟨_, rfl⟩
  rw [← ex_o1] at hW
  have h := lb_at ex_o1 h
  refine lv_aload_n hx hb dX11_use_7 rfl (lv_at hl 0 rfl) ?_
  refine fg_X11_123 (v := .ref (a_o 38)) hx hb hts hown hK hW 0 rfl rfl dX11_use_8 ?_
  refine lv_iconst (v := 1) hx hb dX11_use_11 (by decide) ?_
  refine lv_iconst (v := 0) hx hb dX11_use_12 (by decide) ?_
  refine g_iast (ws9 := oc_X11 T a_o (upo x_o1 41 (1 : Int32).toNatClampNeg 0) ++ Z) hx hb hK hW 38 rfl (by decide) sa_X11_41 dX11_use_13 (fun H locs hW => ?_)
  obtain ⟨x_o2, ex_o2⟩ : ∃ y : Ob, y = upo x_o1 41 (1 : Int32).toNatClampNeg 0 := ⟨_, rfl⟩
  rw [← ex_o2] at hW
  have h := lb_at ex_o2 h
  refine lv_aload_n hx hb dX11_use_14 rfl (lv_at hl 0 rfl) ?_
  refine fg_X11_123 (v := .ref (a_o 38)) hx hb hts hown hK hW 0 rfl rfl dX11_use_15 ?_
  refine lv_iconst (v := 2) hx hb dX11_use_18 (by decide) ?_
  refine lv_iconst (v := 0) hx hb dX11_use_19 (by decide) ?_
  refine g_iast (ws9 := oc_X11 T a_o (upo x_o2 41 (2 : Int32).toNatClampNeg 0) ++ Z) hx hb hK hW 38 rfl (by decide) sa_X11_41 dX11_use_20 (fun H locs hW => ?_)
  obtain ⟨x_o3, ex_o3⟩ : ∃ y : Ob, y = upo x_o2 41 (2 : Int32).toNatClampNeg 0 := ⟨_, rfl⟩
  rw [← ex_o3] at hW
  have h := lb_at ex_o3 h
  refine lv_aload_n hx hb dX11_use_21 rfl (lv_at hl 0 rfl) ?_
  refine lv_iconst (v := 1) hx hb dX11_use_22 (by decide) ?_
  refine lv_iload_n hx hb dX11_use_23 rfl (lv_at hl 2 rfl) ?_
  obtain ⟨x_o4, q5, h⟩ := bnd1_s h
  refine cl_X11_265 hx hb hml hown hts hK hN hW (c_X11_load l D T A a_o (Z) x_o3 1 p2 x_o4 q5) ⟨Nat.le_of_ble_eq_true rfl, Nat.le_of_ble_eq_true rfl⟩ hl.1 rfl (Nat.le_of_ble_eq_true rfl) dX11_use_24 ⟨Nat.zero_le _, Nat.zero_le _⟩ rfl (fun H locs hW => ?_)
  refine lv_aload_n hx hb dX11_use_27 rfl (lv_at hl 0 rfl) ?_
  refine lv_aload_n hx hb dX11_use_28 rfl (lv_at hl 0 rfl) ?_
  refine fg_X11_102 (v := .ref (a_o 31)) hx hb hts hown hK hW 0 rfl rfl dX11_use_29 ?_
  refine lv_iload_n hx hb dX11_use_32 rfl (lv_at hl 2 rfl) ?_
  obtain ⟨g6, h⟩ := grd_s h
  refine g_iald hx hb hK hW 31 rfl g6 dX11_use_33 ?_
  refine fp_X11_268 (ws9 := oc_X11 T a_o (upo x_o4 42 0 (x_o4 34 p2.toNatClampNeg)) ++ Z) hx hb hts hown hK hW 0 rfl (Nat.le_of_ble_eq_true rfl) sf_X11_42 dX11_use_34 (fun H locs hW => ?_)
  obtain ⟨x_o7, ex_o7⟩ : ∃ y : Ob, y = upo x_o4 42 0 (x_o4 34 p2.toNatClampNeg) := ⟨_, rfl⟩
  rw [← ex_o7] at hW
  have h := lb_at ex_o7 h
  refine lv_aload_n hx hb dX11_use_37 rfl (lv_at hl 0 rfl) ?_
  refine fg_X11_74 (v := .ref (a_o 22)) hx hb hts hown hK hW 0 rfl rfl dX11_use_38 ?_
  refine lv_iload_n hx hb dX11_use_41 rfl (lv_at hl 1 rfl) ?_
  obtain ⟨g8, h⟩ := grd_s h
  refine g_iald hx hb hK hW 22 rfl g8 dX11_use_42 ?_
  refine lv_iconst (v := (-1)) hx hb dX11_use_43 (by decide) ?_
  refine lv_icmp_eq (tgt := 68) hx hb dX11_use_44 (by decide) (fun c9 => ?_) (fun c9 => ?_)
  · have h := ite_t c9 h
    exact J68 _ _ _ H locs ls hW (lv_sub hl [0, 1, 4] rfl) h
  · have h := ite_f c9 h
    refine lv_aload_n hx hb dX11_use_47 rfl (lv_at hl 0 rfl) ?_
    refine lv_iconst (v := 2) hx hb dX11_use_48 (by decide) ?_
    refine lv_iload_n hx hb dX11_use_49 rfl (lv_at hl 3 rfl) ?_
    obtain ⟨x_o43, q44, h⟩ := bnd1_s h
    refine cl_X11_265 hx hb hml hown hts hK hN hW (c_X11_load l D T A a_o (Z) x_o7 2 p3 x_o43 q44) ⟨Nat.le_of_ble_eq_true rfl, Nat.le_of_ble_eq_true rfl⟩ hl.1 rfl (Nat.le_of_ble_eq_true rfl) dX11_use_50 ⟨Nat.zero_le _, Nat.zero_le _⟩ rfl (fun H locs hW => ?_)
    refine lv_aload_n hx hb dX11_use_53 rfl (lv_at hl 0 rfl) ?_
    refine lv_dup hx hb dX11_use_54 rfl ?_
    refine fg_X11_268 (v := .int (x_o43 42 0)) hx hb hts hown hK hW 0 rfl rfl dX11_use_55 ?_
    refine lv_aload_n hx hb dX11_use_58 rfl (lv_at hl 0 rfl) ?_
    refine fg_X11_102 (v := .ref (a_o 31)) hx hb hts hown hK hW 0 rfl rfl dX11_use_59 ?_
    refine lv_iload_n hx hb dX11_use_62 rfl (lv_at hl 3 rfl) ?_
    obtain ⟨g45, h⟩ := grd_s h
    refine g_iald hx hb hK hW 31 rfl g45 dX11_use_63 ?_
    refine lv_iadd hx hb dX11_use_64 ?_
    refine fp_X11_268 (ws9 := oc_X11 T a_o (upo x_o43 42 0 ((x_o43 42 0) + (x_o43 34 p3.toNatClampNeg))) ++ Z) hx hb hts hown hK hW 0 rfl (Nat.le_of_ble_eq_true rfl) sf_X11_42 dX11_use_65 (fun H locs hW => ?_)
    obtain ⟨x_o46, ex_o46⟩ : ∃ y : Ob, y = upo x_o43 42 0 ((x_o43 42 0) + (x_o43 34 p3.toNatClampNeg)) := ⟨_, rfl⟩
    rw [← ex_o46] at hW
    have h := lb_at ex_o46 h
    exact J68 _ _ _ H locs ls hW (lv_sub hl [0, 1, 4] rfl) h
set_option maxHeartbeats 4000000 in
set_option maxRecDepth 100000 in
theorem c_X11_add (l : Launch) (D : va_G) (T : Nat → ClassId) (A : Nat → Prop) (a_o : Nat → Nat) (Z : va_W)  (x_o : Ob) (p1 : Int32) (p2 : Int32) (p3 : Int32) (p4 : Int32) (p5 : Int32) (p6 : Int32) (p7 : Int32) (x_o9 : Ob) (h : f_X11_add x_o p1 p2 p3 p4 p5 p6 p7 = some x_o9) : Met l yX11_add (Cond.code yX11_add cX11_add 11 none :: wsL_law) (rmd 0) (Pg D T A (oc_X11 T a_o x_o ++ Z) [.ref (a_o 0), .int p1, .int p2, .int p3, .int p4, .int p5, .int p6, .int p7]) (Qgv D A (oc_X11 T a_o x_o9 ++ Z)) 0 0 A := by
  refine Met.ofW (cc := cX11_add) (maxL := 11) (ret := none) (by decide +kernel) rfl ?_
  intro p e s m args below meth c s₁ B hml hv
  obtain ⟨ha, hP, hK, hD, hN⟩ := hv
  have hx := B.exec
  have hb := B.bytes
  have hr := B.returns
  have hlk := B.notSynchronized
  have hts : ∀ w ∈ wsL_law, w.before args s = true := fun w hw => atoms_spec B.pre w (List.mem_cons_of_mem _ hw)
  have hown : s.vm.findClass RX11 = some m.cls := findClass_of_methodNamed B.named
  have hW : Wd D A s.heap (oc_X11 T a_o x_o ++ Z) s.heap [] := ⟨hP, hD, va_S.rf⟩
  have hl := lv_entry [.ref (a_o 0), .int p1, .int p2, .int p3, .int p4, .int p5, .int p6, .int p7] (n := 11) (Nat.le_of_ble_eq_true rfl)
  refine W.eq (en_eq ha) ?_
  generalize (lg_sl [.ref (a_o 0), .int p1, .int p2, .int p3, .int p4, .int p5, .int p6, .int p7] ++ List.replicate (11 - (lg_sl [.ref (a_o 0), .int p1, .int p2, .int p3, .int p4, .int p5, .int p6, .int p7]).length) Slot.unset).toArray = ls at hl ⊢
  have hl : lv_has ls 11 [(0, .ref (a_o 0)), (1, .int p1), (2, .int p2), (3, .int p3), (4, .int p4), (5, .int p5), (6, .int p6), (7, .int p7)] := hl
  clear hP hD B ha
  obtain ⟨Q, hQ⟩ : ∃ Q, Q = MQ below (Qgv D A (oc_X11 T a_o x_o9 ++ Z)) args s 0 0 A := ⟨_, rfl⟩
  rw [← hQ]
  change W p l e (rmd 0) s m args below meth c s.heap [] 0 0 Q (F0 m 0 ls [])
  have L18 : ∀ (n : Nat) (x_o_18 : Ob) (v1_18 : Int32) (v2_18 : Int32) (v3_18 : Int32) (v4_18 : Int32) (v5_18 : Int32) (v6_18 : Int32) (v7_18 : Int32) (v8_18 : Int32) (v9_18 : Int32) (H : Heap) (locs : List Loc) (ls : Array Slot) (o8_18r : Int32) (o9_18r : Int32), Wd D A s.heap (oc_X11 T a_o x_o_18 ++ Z) H locs → lv_has ls 11 [(0, .ref (a_o 0)), (1, .int v1_18), (2, .int v2_18), (3, .int v3_18), (4, .int v4_18), (5, .int v5_18), (6, .int v6_18), (7, .int v7_18), (8, .int v8_18), (9, .int v9_18)] → f_X11_add_L18 n x_o_18 v1_18 v2_18 v3_18 v4_18 v5_18 v6_18 v7_18 v8_18 v9_18 = some (o8_18r, o9_18r) → (∀ (H : Heap) (locs : List Loc) (ls : Array Slot), Wd D A s.heap (oc_X11 T a_o x_o_18 ++ Z) H locs → lv_has ls 11 [(0, .ref (a_o 0)), (1, .int v1_18), (2, .int v2_18), (3, .int v3_18), (4, .int v4_18), (5, .int v5_18), (6, .int v6_18), (7, .int v7_18), (8, .int o8_18r)] → W p l e (rmd 0) s m args below meth c H locs 0 0 Q (F0 m 74 ls [])) → W p l e (rmd 0) s m args below meth c H locs 0 0 Q (F0 m 18 ls []) := by
    intro n
    induction n with
    | zero =>
      intro x_o_18 v1_18 v2_18 v3_18 v4_18 v5_18 v6_18 v7_18 v8_18 v9_18 H locs ls o8_18r o9_18r hW hl h k1
      rw [f_X11_add_L18] at h
      cases h
    | succ n ih =>
      intro x_o_18 v1_18 v2_18 v3_18 v4_18 v5_18 v6_18 v7_18 v8_18 v9_18 H locs ls o8_18r o9_18r hW hl h k1
      rw [f_X11_add_L18] at h
      refine lv_iload hx hb dX11_add_18 (lv_at hl 9 rfl) ?_
      refine lv_if_lt (tgt := 74) hx hb dX11_add_20 (by decide) (fun c5 => ?_) (fun c5 => ?_)
      · have h := ite_t c5 h
        obtain ⟨rfl, rfl⟩ := ret2 h
        exact k1 H locs ls hW (lv_sub hl [0, 1, 2, 3, 4, 5, 6, 7, 8] rfl)
      · have h := ite_f c5 h
        refine lv_aload_n hx hb dX11_add_23 rfl (lv_at hl 0 rfl) ?_
        refine fg_X11_120 (v := .ref (a_o 37)) hx hb hts hown hK hW 0 rfl rfl dX11_add_24 ?_
        refine lv_bipush (v := 8) hx hb dX11_add_27 (by decide) ?_
        refine lv_iload_n hx hb dX11_add_29 rfl (lv_at hl 1 rfl) ?_
        refine lv_imul hx hb dX11_add_30 ?_
        refine lv_iload hx hb dX11_add_31 (lv_at hl 9 rfl) ?_
        refine lv_iadd hx hb dX11_add_33 ?_
        obtain ⟨g6, h⟩ := grd_s h
        refine g_iald hx hb hK hW 37 rfl g6 dX11_add_34 ?_
        refine lv_topi (fun w10_7 ew10_7 => ?_)
        have h := lb_at ew10_7 h
        refine lv_istore (lv' := [(10, .int w10_7), (0, .ref (a_o 0)), (1, .int v1_18), (2, .int v2_18), (3, .int v3_18), (4, .int v4_18), (5, .int v5_18), (6, .int v6_18), (7, .int v7_18), (8, .int v8_18), (9, .int v9_18)]) hx hb dX11_add_35 hl (by decide) rfl (fun ls hl => ?_)
        refine lv_aload_n hx hb dX11_add_37 rfl (lv_at hl 1 rfl) ?_
        refine fg_X11_96 (v := .ref (a_o 29)) hx hb hts hown hK hW 0 rfl rfl dX11_add_38 ?_
        refine lv_iload hx hb dX11_add_41 (lv_at hl 0 rfl) ?_
        obtain ⟨g8, h⟩ := grd_s h
        refine g_iald hx hb hK hW 29 rfl g8 dX11_add_43 ?_
        refine lv_iload_n hx hb dX11_add_44 rfl (lv_at hl 3 rfl) ?_
        refine lv_icmp_ne (tgt := 64) hx hb dX11_add_45 (by decide) (fun c9 => ?_) (fun c9 => ?_)
        · have h := ite_f c9 h
          refine lv_iload hx hb dX11_add_64 (lv_at hl 9 rfl) ?_
          refine lv_istore (lv' := [(8, .int v8_18), (10, .int w10_7), (0, .ref (a_o 0)), (1, .int v1_18), (2, .int v2_18), (3, .int v3_18), (4, .int v4_18), (5, .int v5_18), (6, .int v6_18), (7, .int v7_18), (9, .int v9_18)]) hx hb dX11_add_66 hl (by decide) rfl (fun ls hl => ?_)
          obtain ⟨w9_10, ew9_10⟩ : ∃ y : Int32, y = v9_18 + (-1) := ⟨_, rfl⟩
          have h := lb_at ew9_10 h
          refine lv_iinc (v := w9_10) (lv' := [(9, .int w9_10), (8, .int v8_18), (10, .int w10_7), (0, .ref (a_o 0)), (1, .int v1_18), (2, .int v2_18), (3, .int v3_18), (4, .int v4_18), (5, .int v5_18), (6, .int v6_18), (7, .int v7_18)]) hx hb dX11_add_68 hl (k := 10) rfl (by rw [ew9_10]; rfl) (by decide) rfl (fun ls hl => ?_)
          refine lv_goto (tgt := 18) hx hb dX11_add_71 (by decide) ?_
          exact ih _ _ _ _ _ _ _ _ _ _ H locs ls _ _ hW (lv_sub hl [3, 4, 5, 6, 7, 8, 9, 10, 1, 0] rfl) h k1
        · have h := ite_t c9 h
          refine lv_aload_n hx hb dX11_add_48 rfl (lv_at hl 1 rfl) ?_
          refine fg_X11_99 (v := .ref (a_o 30)) hx hb hts hown hK hW 0 rfl rfl dX11_add_49 ?_
          refine lv_iload hx hb dX11_add_52 (lv_at hl 0 rfl) ?_
          obtain ⟨g11, h⟩ := grd_s h
          refine g_iald hx hb hK hW 30 rfl g11 dX11_add_54 ?_
          refine lv_iload_n hx hb dX11_add_55 rfl (lv_at hl 4 rfl) ?_
          refine lv_icmp_ne (tgt := 64) hx hb dX11_add_56 (by decide) (fun c12 => ?_) (fun c12 => ?_)
          · have h := ite_f c12 h
            refine lv_iload hx hb dX11_add_64 (lv_at hl 9 rfl) ?_
            refine lv_istore (lv' := [(8, .int v8_18), (10, .int w10_7), (0, .ref (a_o 0)), (1, .int v1_18), (2, .int v2_18), (3, .int v3_18), (4, .int v4_18), (5, .int v5_18), (6, .int v6_18), (7, .int v7_18), (9, .int v9_18)]) hx hb dX11_add_66 hl (by decide) rfl (fun ls hl => ?_)
            obtain ⟨w9_13, ew9_13⟩ : ∃ y : Int32, y = v9_18 + (-1) := ⟨_, rfl⟩
            have h := lb_at ew9_13 h
            refine lv_iinc (v := w9_13) (lv' := [(9, .int w9_13), (8, .int v8_18), (10, .int w10_7), (0, .ref (a_o 0)), (1, .int v1_18), (2, .int v2_18), (3, .int v3_18), (4, .int v4_18), (5, .int v5_18), (6, .int v6_18), (7, .int v7_18)]) hx hb dX11_add_68 hl (k := 10) rfl (by rw [ew9_13]; rfl) (by decide) rfl (fun ls hl => ?_)
            refine lv_goto (tgt := 18) hx hb dX11_add_71 (by decide) ?_
            exact ih _ _ _ _ _ _ _ _ _ _ H locs ls _ _ hW (lv_sub hl [3, 4, 5, 6, 7, 8, 9, 10, 1, 0] rfl) h k1
          · have h := ite_t c12 h
            refine lv_iload hx hb dX11_add_59 (lv_at hl 10 rfl) ?_
            refine lv_goto (tgt := 66) hx hb dX11_add_61 (by decide) ?_
            refine lv_istore (lv' := [(8, .int v9_18), (10, .int w10_7), (0, .ref (a_o 0)), (1, .int v1_18), (2, .int v2_18), (3, .int v3_18), (4, .int v4_18), (5, .int v5_18), (6, .int v6_18), (7, .int v7_18), (9, .int v9_18)]) hx hb dX11_add_66 hl (by decide) rfl (fun ls hl => ?_)
            obtain ⟨w9_14, ew9_14⟩ : ∃ y : Int32, y = v9_18 + (-1) := ⟨_, rfl⟩
            have h := lb_at ew9_14 h
            refine lv_iinc (v := w9_14) (lv' := [(9, .int w9_14), (8, .int v9_18), (10, .int w10_7), (0, .ref (a_o 0)), (1, .int v1_18), (2, .int v2_18), (3, .int v3_18), (4, .int v4_18), (5, .int v5_18), (6, .int v6_18), (7, .int v7_18)]) hx hb dX11_add_68 hl (k := 10) rfl (by rw [ew9_14]; rfl) (by decide) rfl (fun ls hl => ?_)
            refine lv_goto (tgt := 18) hx hb dX11_add_71 (by decide) ?_
            exact ih _ _ _ _ _ _ _ _ _ _ H locs ls _ _ hW (lv_sub hl [3, 4, 5, 6, 7, 8, 9, 10, 1, 0] rfl) h k1
  have J130 : ∀ (x_o_130 : Ob) (v1_130 : Int32) (v2_130 : Int32) (v3_130 : Int32) (v4_130 : Int32) (v5_130 : Int32) (v6_130 : Int32) (v7_130 : Int32) (v8_130 : Int32) (v9_130 : Int32) (H : Heap) (locs : List Loc) (ls : Array Slot), Wd D A s.heap (oc_X11 T a_o x_o_130 ++ Z) H locs → lv_has ls 11 [(0, .ref (a_o 0)), (1, .int v1_130), (2, .int v2_130), (3, .int v3_130), (4, .int v4_130), (5, .int v5_130), (6, .int v6_130), (7, .int v7_130), (8, .int v8_130), (9, .int v9_130)] → f_X11_add_J130 x_o_130 v1_130 v2_130 v3_130 v4_130 v5_130 v6_130 v7_130 v8_130 v9_130 = some x_o9 → W p l e (rmd 0) s m args below meth c H locs 0 0 Q (F0 m 130 ls []) := by
    intro x_o_130 v1_130 v2_130 v3_130 v4_130 v5_130 v6_130 v7_130 v8_130 v9_130 H locs ls hW hl h
    rw [f_X11_add_J130] at h
    refine lv_aload_n hx hb dX11_add_130 rfl (lv_at hl 0 rfl) ?_
    refine fg_X11_96 (v := .ref (a_o 29)) hx hb hts hown hK hW 0 rfl rfl dX11_add_131 ?_
    refine lv_aload_n hx hb dX11_add_134 rfl (lv_at hl 0 rfl) ?_
    refine fg_X11_271 (v := .int (x_o_130 31 0)) hx hb hts hown hK hW 0 rfl rfl dX11_add_135 ?_
    refine lv_iload_n hx hb dX11_add_138 rfl (lv_at hl 2 rfl) ?_
    obtain ⟨g23, h⟩ := grd_s h
    refine g_iast (ws9 := oc_X11 T a_o (upo x_o_130 32 (x_o_130 31 0).toNatClampNeg v2_130) ++ Z) hx hb hK hW 29 rfl g23 sa_X11_32 dX11_add_139 (fun H locs hW => ?_)
    obtain ⟨x_o24, ex_o24⟩ : ∃ y : Ob, y = upo x_o_130 32 (x_o_130 31 0).toNatClampNeg v2_130 := ⟨_, rfl⟩
    rw [← ex_o24] at hW
    have h := lb_at ex_o24 h
    refine lv_aload_n hx hb dX11_add_140 rfl (lv_at hl 0 rfl) ?_
    refine fg_X11_99 (v := .ref (a_o 30)) hx hb hts hown hK hW 0 rfl rfl dX11_add_141 ?_
    refine lv_aload_n hx hb dX11_add_144 rfl (lv_at hl 0 rfl) ?_
    refine fg_X11_271 (v := .int (x_o24 31 0)) hx hb hts hown hK hW 0 rfl rfl dX11_add_145 ?_
    refine lv_iload_n hx hb dX11_add_148 rfl (lv_at hl 3 rfl) ?_
    obtain ⟨g25, h⟩ := grd_s h
    refine g_iast (ws9 := oc_X11 T a_o (upo x_o24 33 (x_o24 31 0).toNatClampNeg v3_130) ++ Z) hx hb hK hW 30 rfl g25 sa_X11_33 dX11_add_149 (fun H locs hW => ?_)
    obtain ⟨x_o26, ex_o26⟩ : ∃ y : Ob, y = upo x_o24 33 (x_o24 31 0).toNatClampNeg v3_130 := ⟨_, rfl⟩
    rw [← ex_o26] at hW
    have h := lb_at ex_o26 h
    refine lv_aload_n hx hb dX11_add_150 rfl (lv_at hl 0 rfl) ?_
    refine fg_X11_102 (v := .ref (a_o 31)) hx hb hts hown hK hW 0 rfl rfl dX11_add_151 ?_
    refine lv_aload_n hx hb dX11_add_154 rfl (lv_at hl 0 rfl) ?_
    refine fg_X11_271 (v := .int (x_o26 31 0)) hx hb hts hown hK hW 0 rfl rfl dX11_add_155 ?_
    refine lv_iload hx hb dX11_add_158 (lv_at hl 4 rfl) ?_
    obtain ⟨g27, h⟩ := grd_s h
    refine g_iast (ws9 := oc_X11 T a_o (upo x_o26 34 (x_o26 31 0).toNatClampNeg v4_130) ++ Z) hx hb hK hW 31 rfl g27 sa_X11_34 dX11_add_160 (fun H locs hW => ?_)
    obtain ⟨x_o28, ex_o28⟩ : ∃ y : Ob, y = upo x_o26 34 (x_o26 31 0).toNatClampNeg v4_130 := ⟨_, rfl⟩
    rw [← ex_o28] at hW
    have h := lb_at ex_o28 h
    refine lv_aload_n hx hb dX11_add_161 rfl (lv_at hl 0 rfl) ?_
    refine fg_X11_105 (v := .ref (a_o 32)) hx hb hts hown hK hW 0 rfl rfl dX11_add_162 ?_
    refine lv_aload_n hx hb dX11_add_165 rfl (lv_at hl 0 rfl) ?_
    refine fg_X11_271 (v := .int (x_o28 31 0)) hx hb hts hown hK hW 0 rfl rfl dX11_add_166 ?_
    refine lv_iload hx hb dX11_add_169 (lv_at hl 5 rfl) ?_
    obtain ⟨g29, h⟩ := grd_s h
    refine g_iast (ws9 := oc_X11 T a_o (upo x_o28 35 (x_o28 31 0).toNatClampNeg v5_130) ++ Z) hx hb hK hW 32 rfl g29 sa_X11_35 dX11_add_171 (fun H locs hW => ?_)
    obtain ⟨x_o30, ex_o30⟩ : ∃ y : Ob, y = upo x_o28 35 (x_o28 31 0).toNatClampNeg v5_130 := ⟨_, rfl⟩
    rw [← ex_o30] at hW
    have h := lb_at ex_o30 h
    refine lv_aload_n hx hb dX11_add_172 rfl (lv_at hl 0 rfl) ?_
    refine fg_X11_108 (v := .ref (a_o 33)) hx hb hts hown hK hW 0 rfl rfl dX11_add_173 ?_
    refine lv_aload_n hx hb dX11_add_176 rfl (lv_at hl 0 rfl) ?_
    refine fg_X11_271 (v := .int (x_o30 31 0)) hx hb hts hown hK hW 0 rfl rfl dX11_add_177 ?_
    refine lv_iload hx hb dX11_add_180 (lv_at hl 6 rfl) ?_
    obtain ⟨g31, h⟩ := grd_s h
    refine g_iast (ws9 := oc_X11 T a_o (upo x_o30 36 (x_o30 31 0).toNatClampNeg v6_130) ++ Z) hx hb hK hW 33 rfl g31 sa_X11_36 dX11_add_182 (fun H locs hW => ?_)
    obtain ⟨x_o32, ex_o32⟩ : ∃ y : Ob, y = upo x_o30 36 (x_o30 31 0).toNatClampNeg v6_130 := ⟨_, rfl⟩
    rw [← ex_o32] at hW
    have h := lb_at ex_o32 h
    refine lv_aload_n hx hb dX11_add_183 rfl (lv_at hl 0 rfl) ?_
    refine fg_X11_111 (v := .ref (a_o 34)) hx hb hts hown hK hW 0 rfl rfl dX11_add_184 ?_
    refine lv_aload_n hx hb dX11_add_187 rfl (lv_at hl 0 rfl) ?_
    refine fg_X11_271 (v := .int (x_o32 31 0)) hx hb hts hown hK hW 0 rfl rfl dX11_add_188 ?_
    refine lv_iload hx hb dX11_add_191 (lv_at hl 7 rfl) ?_
    obtain ⟨g33, h⟩ := grd_s h
    refine g_iast (ws9 := oc_X11 T a_o (upo x_o32 37 (x_o32 31 0).toNatClampNeg v7_130) ++ Z) hx hb hK hW 34 rfl g33 sa_X11_37 dX11_add_193 (fun H locs hW => ?_)
    obtain ⟨x_o34, ex_o34⟩ : ∃ y : Ob, y = upo x_o32 37 (x_o32 31 0).toNatClampNeg v7_130 := ⟨_, rfl⟩
    rw [← ex_o34] at hW
    have h := lb_at ex_o34 h
    refine lv_aload_n hx hb dX11_add_194 rfl (lv_at hl 0 rfl) ?_
    refine fg_X11_114 (v := .ref (a_o 35)) hx hb hts hown hK hW 0 rfl rfl dX11_add_195 ?_
    refine lv_aload_n hx hb dX11_add_198 rfl (lv_at hl 0 rfl) ?_
    refine fg_X11_271 (v := .int (x_o34 31 0)) hx hb hts hown hK hW 0 rfl rfl dX11_add_199 ?_
    refine lv_iload_n hx hb dX11_add_202 rfl (lv_at hl 1 rfl) ?_
    obtain ⟨g35, h⟩ := grd_s h
    refine g_iast (ws9 := oc_X11 T a_o (upo x_o34 38 (x_o34 31 0).toNatClampNeg v1_130) ++ Z) hx hb hK hW 35 rfl g35 sa_X11_38 dX11_add_203 (fun H locs hW => ?_)
    obtain ⟨x_o36, ex_o36⟩ : ∃ y : Ob, y = upo x_o34 38 (x_o34 31 0).toNatClampNeg v1_130 := ⟨_, rfl⟩
    rw [← ex_o36] at hW
    have h := lb_at ex_o36 h
    refine lv_aload_n hx hb dX11_add_204 rfl (lv_at hl 0 rfl) ?_
    refine fg_X11_120 (v := .ref (a_o 37)) hx hb hts hown hK hW 0 rfl rfl dX11_add_205 ?_
    refine lv_bipush (v := 8) hx hb dX11_add_208 (by decide) ?_
    refine lv_iload_n hx hb dX11_add_210 rfl (lv_at hl 1 rfl) ?_
    refine lv_imul hx hb dX11_add_211 ?_
    refine lv_iload hx hb dX11_add_212 (lv_at hl 8 rfl) ?_
    refine lv_iadd hx hb dX11_add_214 ?_
    refine lv_aload_n hx hb dX11_add_215 rfl (lv_at hl 0 rfl) ?_
    refine fg_X11_271 (v := .int (x_o36 31 0)) hx hb hts hown hK hW 0 rfl rfl dX11_add_216 ?_
    obtain ⟨g37, h⟩ := grd_s h
    refine g_iast (ws9 := oc_X11 T a_o (upo x_o36 40 ((8 * v1_130) + v8_130).toNatClampNeg (x_o36 31 0)) ++ Z) hx hb hK hW 37 rfl g37 sa_X11_40 dX11_add_219 (fun H locs hW => ?_)
    obtain ⟨x_o38, ex_o38⟩ : ∃ y : Ob, y = upo x_o36 40 ((8 * v1_130) + v8_130).toNatClampNeg (x_o36 31 0) := ⟨_, rfl⟩
    rw [← ex_o38] at hW
    have h := lb_at ex_o38 h
    refine lv_aload_n hx hb dX11_add_220 rfl (lv_at hl 0 rfl) ?_
    refine fg_X11_117 (v := .ref (a_o 36)) hx hb hts hown hK hW 0 rfl rfl dX11_add_221 ?_
    refine lv_iload_n hx hb dX11_add_224 rfl (lv_at hl 1 rfl) ?_
    refine lv_dup2_11 hx hb dX11_add_225 rfl rfl ?_
    obtain ⟨g39, h⟩ := grd_s h
    refine g_iald hx hb hK hW 36 rfl g39 dX11_add_226 ?_
    refine lv_iload hx hb dX11_add_227 (lv_at hl 9 rfl) ?_
    refine lv_if_eq (tgt := 236) hx hb dX11_add_229 (by decide) (fun c40 => ?_) (fun c40 => ?_)
    · have h := ite_t c40 h
      refine lv_iconst (v := 0) hx hb dX11_add_236 (by decide) ?_
      refine lv_iadd hx hb dX11_add_237 ?_
      obtain ⟨g41, h⟩ := grd_s h
      refine g_iast (ws9 := oc_X11 T a_o (upo x_o38 39 v1_130.toNatClampNeg ((x_o38 39 v1_130.toNatClampNeg) + 0)) ++ Z) hx hb hK hW 36 rfl g41 sa_X11_39 dX11_add_238 (fun H locs hW => ?_)
      obtain ⟨x_o42, ex_o42⟩ : ∃ y : Ob, y = upo x_o38 39 v1_130.toNatClampNeg ((x_o38 39 v1_130.toNatClampNeg) + 0) := ⟨_, rfl⟩
      rw [← ex_o42] at hW
      have h := lb_at ex_o42 h
      refine lv_aload_n hx hb dX11_add_239 rfl (lv_at hl 0 rfl) ?_
      refine lv_dup hx hb dX11_add_240 rfl ?_
      refine fg_X11_271 (v := .int (x_o42 31 0)) hx hb hts hown hK hW 0 rfl rfl dX11_add_241 ?_
      refine lv_iconst (v := 1) hx hb dX11_add_244 (by decide) ?_
      refine lv_iadd hx hb dX11_add_245 ?_
      refine fp_X11_271 (ws9 := oc_X11 T a_o (upo x_o42 31 0 ((x_o42 31 0) + 1)) ++ Z) hx hb hts hown hK hW 0 rfl (Nat.le_of_ble_eq_true rfl) sf_X11_31 dX11_add_246 (fun H locs hW => ?_)
      obtain ⟨x_o43, ex_o43⟩ : ∃ y : Ob, y = upo x_o42 31 0 ((x_o42 31 0) + 1) := ⟨_, rfl⟩
      rw [← ex_o43] at hW
      have h := lb_at ex_o43 h
      obtain rfl := ret1 h
      rw [hQ]
      exact g_retv hx hb hr hlk hW dX11_add_249
    · have h := ite_f c40 h
      refine lv_iconst (v := 1) hx hb dX11_add_232 (by decide) ?_
      refine lv_goto (tgt := 237) hx hb dX11_add_233 (by decide) ?_
      refine lv_iadd hx hb dX11_add_237 ?_
      obtain ⟨g44, h⟩ := grd_s h
      refine g_iast (ws9 := oc_X11 T a_o (upo x_o38 39 v1_130.toNatClampNeg ((x_o38 39 v1_130.toNatClampNeg) + 1)) ++ Z) hx hb hK hW 36 rfl g44 sa_X11_39 dX11_add_238 (fun H locs hW => ?_)
      obtain ⟨x_o45, ex_o45⟩ : ∃ y : Ob, y = upo x_o38 39 v1_130.toNatClampNeg ((x_o38 39 v1_130.toNatClampNeg) + 1) := ⟨_, rfl⟩
      rw [← ex_o45] at hW
      have h := lb_at ex_o45 h
      refine lv_aload_n hx hb dX11_add_239 rfl (lv_at hl 0 rfl) ?_
      refine lv_dup hx hb dX11_add_240 rfl ?_
      refine fg_X11_271 (v := .int (x_o45 31 0)) hx hb hts hown hK hW 0 rfl rfl dX11_add_241 ?_
      refine lv_iconst (v := 1) hx hb dX11_add_244 (by decide) ?_
      refine lv_iadd hx hb dX11_add_245 ?_
      refine fp_X11_271 (ws9 := oc_X11 T a_o (upo x_o45 31 0 ((x_o45 31 0) + 1)) ++ Z) hx hb hts hown hK hW 0 rfl (Nat.le_of_ble_eq_true rfl) sf_X11_31 dX11_add_246 (fun H locs hW => ?_)
      obtain ⟨x_o46, ex_o46⟩ : ∃ y : Ob, y = upo x_o45 31 0 ((x_o45 31 0) + 1) := ⟨_, rfl⟩
      rw [← ex_o46] at hW
      have h := lb_at ex_o46 h
      obtain rfl := ret1 h
      rw [hQ]
      exact g_retv hx hb hr hlk hW dX11_add_249
  have J90 : ∀ (x_o_90 : Ob) (v1_90 : Int32) (v2_90 : Int32) (v3_90 : Int32) (v4_90 : Int32) (v5_90 : Int32) (v6_90 : Int32) (v7_90 : Int32) (v8_90 : Int32) (s0_90 : Int32) (H : Heap) (locs : List Loc) (ls : Array Slot), Wd D A s.heap (oc_X11 T a_o x_o_90 ++ Z) H locs → lv_has ls 11 [(0, .ref (a_o 0)), (1, .int v1_90), (2, .int v2_90), (3, .int v3_90), (4, .int v4_90), (5, .int v5_90), (6, .int v6_90), (7, .int v7_90), (8, .int v8_90)] → f_X11_add_J90 x_o_90 v1_90 v2_90 v3_90 v4_90 v5_90 v6_90 v7_90 v8_90 s0_90 = some x_o9 → W p l e (rmd 0) s m args below meth c H locs 0 0 Q (F0 m 90 ls [.int s0_90]) := by
    intro x_o_90 v1_90 v2_90 v3_90 v4_90 v5_90 v6_90 v7_90 v8_90 s0_90 H locs ls hW hl h
    rw [f_X11_add_J90] at h
    refine lv_istore (lv' := [(9, .int s0_90), (0, .ref (a_o 0)), (1, .int v1_90), (2, .int v2_90), (3, .int v3_90), (4, .int v4_90), (5, .int v5_90), (6, .int v6_90), (7, .int v7_90), (8, .int v8_90)]) hx hb dX11_add_90 hl (by decide) rfl (fun ls hl => ?_)
    refine lv_iload hx hb dX11_add_92 (lv_at hl 0 rfl) ?_
    refine lv_if_eq (tgt := 107) hx hb dX11_add_94 (by decide) (fun c19 => ?_) (fun c19 => ?_)
    · have h := ite_t c19 h
      refine lv_iload hx hb dX11_add_107 (lv_at hl 5 rfl) ?_
      refine lv_aload_n hx hb dX11_add_109 rfl (lv_at hl 1 rfl) ?_
      refine fg_X11_102 (v := .ref (a_o 31)) hx hb hts hown hK hW 0 rfl rfl dX11_add_110 ?_
      refine lv_aload_n hx hb dX11_add_113 rfl (lv_at hl 1 rfl) ?_
      refine fg_X11_120 (v := .ref (a_o 37)) hx hb hts hown hK hW 0 rfl rfl dX11_add_114 ?_
      refine lv_bipush (v := 8) hx hb dX11_add_117 (by decide) ?_
      refine lv_iload_n hx hb dX11_add_119 rfl (lv_at hl 2 rfl) ?_
      refine lv_imul hx hb dX11_add_120 ?_
      refine lv_iload hx hb dX11_add_121 (lv_at hl 9 rfl) ?_
      refine lv_iadd hx hb dX11_add_123 ?_
      obtain ⟨g20, h⟩ := grd_s h
      refine g_iald hx hb hK hW 37 rfl g20 dX11_add_124 ?_
      obtain ⟨g21, h⟩ := grd_s h
      refine g_iald hx hb hK hW 31 rfl g21 dX11_add_125 ?_
      refine lv_icmp_lt (tgt := 130) hx hb dX11_add_126 (by decide) (fun c22 => ?_) (fun c22 => ?_)
      · have h := ite_t c22 h
        exact J130 _ _ _ _ _ _ _ _ _ _ H locs ls hW (lv_sub hl [1, 2, 3, 4, 5, 6, 7, 8, 9, 0] rfl) h
      · have h := ite_f c22 h
        obtain rfl := ret1 h
        rw [hQ]
        exact g_retv hx hb hr hlk hW dX11_add_129
    · have h := ite_f c19 h
      refine lv_iload hx hb dX11_add_97 (lv_at hl 9 rfl) ?_
      refine lv_bipush (v := 8) hx hb dX11_add_99 (by decide) ?_
      refine lv_icmp_ne (tgt := 130) hx hb dX11_add_101 (by decide) (fun c47 => ?_) (fun c47 => ?_)
      · have h := ite_f c47 h
        exact J130 _ _ _ _ _ _ _ _ _ _ H locs ls hW (lv_sub hl [1, 2, 3, 4, 5, 6, 7, 8, 9, 0] rfl) h
      · have h := ite_t c47 h
        refine lv_goto (tgt := 129) hx hb dX11_add_104 (by decide) ?_
        obtain rfl := ret1 h
        rw [hQ]
        exact g_retv hx hb hr hlk hW dX11_add_129
  rw [f_X11_add] at h
  suffices hm : ∀ (H : Heap) (locs : List Loc), Wd D A s.heap (oc_X11 T a_o x_o ++ Z) H locs → W p l e (rmd 0) s m args below meth c H locs 0 0 Q (F0 m 0 ls []) from hm _ _ hW
  intro H locs hW
  refine lv_aload_n hx hb dX11_add_0 rfl (lv_at hl 0 rfl) ?_
  refine fg_X11_117 (v := .ref (a_o 36)) hx hb hts hown hK hW 0 rfl rfl dX11_add_1 ?_
  refine lv_iload_n hx hb dX11_add_4 rfl (lv_at hl 1 rfl) ?_
  obtain ⟨g1, h⟩ := grd_s h
  refine g_iald hx hb hK hW 36 rfl g1 dX11_add_5 ?_
  refine lv_topi (fun w8_2 ew8_2 => ?_)
  have h := lb_at ew8_2 h
  refine lv_istore (lv' := [(8, .int w8_2), (0, .ref (a_o 0)), (1, .int p1), (2, .int p2), (3, .int p3), (4, .int p4), (5, .int p5), (6, .int p6), (7, .int p7)]) hx hb dX11_add_6 hl (by decide) rfl (fun ls hl => ?_)
  refine lv_aload_n hx hb dX11_add_8 rfl (lv_at hl 1 rfl) ?_
  refine fg_X11_117 (v := .ref (a_o 36)) hx hb hts hown hK hW 0 rfl rfl dX11_add_9 ?_
  refine lv_iload_n hx hb dX11_add_12 rfl (lv_at hl 2 rfl) ?_
  obtain ⟨g3, h⟩ := grd_s h
  refine g_iald hx hb hK hW 36 rfl g3 dX11_add_13 ?_
  refine lv_iconst (v := 1) hx hb dX11_add_14 (by decide) ?_
  refine lv_isub hx hb dX11_add_15 ?_
  refine lv_topi (fun w9_4 ew9_4 => ?_)
  have h := lb_at ew9_4 h
  refine lv_istore (lv' := [(9, .int w9_4), (8, .int w8_2), (0, .ref (a_o 0)), (1, .int p1), (2, .int p2), (3, .int p3), (4, .int p4), (5, .int p5), (6, .int p6), (7, .int p7)]) hx hb dX11_add_16 hl (by decide) rfl (fun ls hl => ?_)
  obtain ⟨o8_u15, o9_u15, q16, h⟩ := bnd2_s h
  refine L18 200 _ _ _ _ _ _ _ _ _ _ H locs ls o8_u15 o9_u15 hW (lv_sub hl [2, 3, 4, 5, 6, 7, 8, 9, 1, 0] rfl) q16 (fun H locs ls hW hl => ?_)
  refine lv_iload hx hb dX11_add_74 (lv_at hl 8 rfl) ?_
  refine lv_aload_n hx hb dX11_add_76 rfl (lv_at hl 0 rfl) ?_
  refine fg_X11_117 (v := .ref (a_o 36)) hx hb hts hown hK hW 0 rfl rfl dX11_add_77 ?_
  refine lv_iload_n hx hb dX11_add_80 rfl (lv_at hl 1 rfl) ?_
  obtain ⟨g17, h⟩ := grd_s h
  refine g_iald hx hb hK hW 36 rfl g17 dX11_add_81 ?_
  refine lv_icmp_ne (tgt := 89) hx hb dX11_add_82 (by decide) (fun c18 => ?_) (fun c18 => ?_)
  · have h := ite_f c18 h
    refine lv_iconst (v := 0) hx hb dX11_add_89 (by decide) ?_
    exact J90 _ _ _ _ _ _ _ _ _ _ H locs ls hW (lv_sub hl [0, 1, 2, 3, 4, 5, 6, 7, 8] rfl) h
  · have h := ite_t c18 h
    refine lv_iconst (v := 1) hx hb dX11_add_85 (by decide) ?_
    refine lv_goto (tgt := 90) hx hb dX11_add_86 (by decide) ?_
    exact J90 _ _ _ _ _ _ _ _ _ _ H locs ls hW (lv_sub hl [0, 1, 2, 3, 4, 5, 6, 7, 8] rfl) h
set_option maxHeartbeats 4000000 in
set_option maxRecDepth 100000 in
theorem c_X11_tryRule (l : Launch) (D : va_G) (T : Nat → ClassId) (A : Nat → Prop) (a_o : Nat → Nat) (Z : va_W)  (x_o : Ob) (p1 : Int32) (p2 : Int32) (p3 : Int32) (p4 : Int32) (x_o9 : Ob) (h : f_X11_tryRule x_o p1 p2 p3 p4 = some x_o9) : Met l yX11_tryRule (Cond.code yX11_tryRule cX11_tryRule 5 none :: wsL_law) (rmd 2) (Pg D T A (oc_X11 T a_o x_o ++ Z) [.ref (a_o 0), .int p1, .int p2, .int p3, .int p4]) (Qgv D A (oc_X11 T a_o x_o9 ++ Z)) 0 0 A := by
  refine Met.ofW (cc := cX11_tryRule) (maxL := 5) (ret := none) (by decide +kernel) rfl ?_
  intro p e s m args below meth c s₁ B hml hv
  obtain ⟨ha, hP, hK, hD, hN⟩ := hv
  have hx := B.exec
  have hb := B.bytes
  have hr := B.returns
  have hlk := B.notSynchronized
  have hts : ∀ w ∈ wsL_law, w.before args s = true := fun w hw => atoms_spec B.pre w (List.mem_cons_of_mem _ hw)
  have hown : s.vm.findClass RX11 = some m.cls := findClass_of_methodNamed B.named
  have hW : Wd D A s.heap (oc_X11 T a_o x_o ++ Z) s.heap [] := ⟨hP, hD, va_S.rf⟩
  have hl := lv_entry [.ref (a_o 0), .int p1, .int p2, .int p3, .int p4] (n := 5) (Nat.le_of_ble_eq_true rfl)
  refine W.eq (en_eq ha) ?_
  generalize (lg_sl [.ref (a_o 0), .int p1, .int p2, .int p3, .int p4] ++ List.replicate (5 - (lg_sl [.ref (a_o 0), .int p1, .int p2, .int p3, .int p4]).length) Slot.unset).toArray = ls at hl ⊢
  have hl : lv_has ls 5 [(0, .ref (a_o 0)), (1, .int p1), (2, .int p2), (3, .int p3), (4, .int p4)] := hl
  clear hP hD B ha
  obtain ⟨Q, hQ⟩ : ∃ Q, Q = MQ below (Qgv D A (oc_X11 T a_o x_o9 ++ Z)) args s 0 0 A := ⟨_, rfl⟩
  rw [← hQ]
  change W p l e (rmd 2) s m args below meth c s.heap [] 0 0 Q (F0 m 0 ls [])
  rw [f_X11_tryRule] at h
  suffices hm : ∀ (H : Heap) (locs : List Loc), Wd D A s.heap (oc_X11 T a_o x_o ++ Z) H locs → W p l e (rmd 2) s m args below meth c H locs 0 0 Q (F0 m 0 ls []) from hm _ _ hW
  intro H locs hW
  refine lv_aload_n hx hb dX11_tryRule_0 rfl (lv_at hl 0 rfl) ?_
  refine lv_iload_n hx hb dX11_tryRule_1 rfl (lv_at hl 2 rfl) ?_
  refine lv_iload_n hx hb dX11_tryRule_2 rfl (lv_at hl 3 rfl) ?_
  refine lv_iload hx hb dX11_tryRule_3 (lv_at hl 4 rfl) ?_
  refine lv_aload_n hx hb dX11_tryRule_5 rfl (lv_at hl 0 rfl) ?_
  refine fg_X11_80 (v := .ref (a_o 24)) hx hb hts hown hK hW 0 rfl rfl dX11_tryRule_6 ?_
  refine lv_iload_n hx hb dX11_tryRule_9 rfl (lv_at hl 2 rfl) ?_
  obtain ⟨g1, h⟩ := grd_s h
  refine g_iald hx hb hK hW 24 rfl g1 dX11_tryRule_10 ?_
  obtain ⟨r2, x_o3, q4, h⟩ := bnd2_s h
  refine cl_X11_274 hx hb hml hown hts hK hN hW (c_X11_use l D T A a_o (Z) x_o p2 p3 p4 (x_o 26 p2.toNatClampNeg) r2 x_o3 q4) ⟨Nat.le_of_ble_eq_true rfl, Nat.le_of_ble_eq_true rfl⟩ hl.1 rfl (Nat.le_of_ble_eq_true rfl) dX11_tryRule_11 ⟨Nat.zero_le _, Nat.zero_le _⟩ rfl (fun H locs hW => ?_)
  refine lv_iconst (v := (-1)) hx hb dX11_tryRule_14 (by decide) ?_
  refine lv_icmp_eq (tgt := 63) hx hb dX11_tryRule_15 (by decide) (fun c5 => ?_) (fun c5 => ?_)
  · have h := ite_t c5 h
    obtain rfl := ret1 h
    rw [hQ]
    exact g_retv hx hb hr hlk hW dX11_tryRule_63
  · have h := ite_f c5 h
    refine lv_aload_n hx hb dX11_tryRule_18 rfl (lv_at hl 0 rfl) ?_
    refine lv_iload_n hx hb dX11_tryRule_19 rfl (lv_at hl 1 rfl) ?_
    refine lv_aload_n hx hb dX11_tryRule_20 rfl (lv_at hl 0 rfl) ?_
    refine fg_X11_68 (v := .ref (a_o 20)) hx hb hts hown hK hW 0 rfl rfl dX11_tryRule_21 ?_
    refine lv_iload_n hx hb dX11_tryRule_24 rfl (lv_at hl 2 rfl) ?_
    obtain ⟨g6, h⟩ := grd_s h
    refine g_iald hx hb hK hW 20 rfl g6 dX11_tryRule_25 ?_
    refine lv_bipush (v := 100) hx hb dX11_tryRule_26 (by decide) ?_
    refine lv_aload_n hx hb dX11_tryRule_28 rfl (lv_at hl 0 rfl) ?_
    refine fg_X11_123 (v := .ref (a_o 38)) hx hb hts hown hK hW 0 rfl rfl dX11_tryRule_29 ?_
    refine lv_iconst (v := 0) hx hb dX11_tryRule_32 (by decide) ?_
    refine g_iald hx hb hK hW 38 rfl (by decide) dX11_tryRule_33 ?_
    refine lv_imul hx hb dX11_tryRule_34 ?_
    refine lv_bipush (v := 10) hx hb dX11_tryRule_35 (by decide) ?_
    refine lv_aload_n hx hb dX11_tryRule_37 rfl (lv_at hl 0 rfl) ?_
    refine fg_X11_123 (v := .ref (a_o 38)) hx hb hts hown hK hW 0 rfl rfl dX11_tryRule_38 ?_
    refine lv_iconst (v := 1) hx hb dX11_tryRule_41 (by decide) ?_
    refine g_iald hx hb hK hW 38 rfl (by decide) dX11_tryRule_42 ?_
    refine lv_imul hx hb dX11_tryRule_43 ?_
    refine lv_iadd hx hb dX11_tryRule_44 ?_
    refine lv_aload_n hx hb dX11_tryRule_45 rfl (lv_at hl 0 rfl) ?_
    refine fg_X11_123 (v := .ref (a_o 38)) hx hb hts hown hK hW 0 rfl rfl dX11_tryRule_46 ?_
    refine lv_iconst (v := 2) hx hb dX11_tryRule_49 (by decide) ?_
    refine g_iald hx hb hK hW 38 rfl (by decide) dX11_tryRule_50 ?_
    refine lv_iadd hx hb dX11_tryRule_51 ?_
    refine lv_aload_n hx hb dX11_tryRule_52 rfl (lv_at hl 0 rfl) ?_
    refine fg_X11_268 (v := .int (x_o3 42 0)) hx hb hts hown hK hW 0 rfl rfl dX11_tryRule_53 ?_
    refine lv_iload_n hx hb dX11_tryRule_56 rfl (lv_at hl 2 rfl) ?_
    refine lv_iload_n hx hb dX11_tryRule_57 rfl (lv_at hl 3 rfl) ?_
    refine lv_iload hx hb dX11_tryRule_58 (lv_at hl 4 rfl) ?_
    obtain ⟨x_o7, q8, h⟩ := bnd1_s h
    refine cl_X11_278 hx hb hml hown hts hK hN hW (c_X11_add l D T A a_o (Z) x_o3 p1 (x_o3 22 p2.toNatClampNeg) (((100 * (x_o3 41 (0 : Int32).toNatClampNeg)) + (10 * (x_o3 41 (1 : Int32).toNatClampNeg))) + (x_o3 41 (2 : Int32).toNatClampNeg)) (x_o3 42 0) p2 p3 p4 x_o7 q8) ⟨Nat.le_of_ble_eq_true rfl, Nat.le_of_ble_eq_true rfl⟩ hl.1 rfl (Nat.le_of_ble_eq_true rfl) dX11_tryRule_60 ⟨Nat.zero_le _, Nat.zero_le _⟩ rfl (fun H locs hW => ?_)
    obtain rfl := ret1 h
    rw [hQ]
    exact g_retv hx hb hr hlk hW dX11_tryRule_63
set_option maxHeartbeats 4000000 in
set_option maxRecDepth 100000 in
theorem c_X11_readWord (l : Launch) (D : va_G) (T : Nat → ClassId) (A : Nat → Prop) (a_o : Nat → Nat) (Z : va_W)  (x_o : Ob) (p1 : Int32) (p2 : Int32) (x_o9 : Ob) (h : f_X11_readWord x_o p1 p2 = some x_o9) : Met l yX11_readWord (Cond.code yX11_readWord cX11_readWord 9 none :: wsL_law) (rmd 1) (Pg D T A (oc_X11 T a_o x_o ++ Z) [.ref (a_o 0), .int p1, .int p2]) (Qgv D A (oc_X11 T a_o x_o9 ++ Z)) 0 0 A := by
  refine Met.ofW (cc := cX11_readWord) (maxL := 9) (ret := none) (by decide +kernel) rfl ?_
  intro p e s m args below meth c s₁ B hml hv
  obtain ⟨ha, hP, hK, hD, hN⟩ := hv
  have hx := B.exec
  have hb := B.bytes
  have hr := B.returns
  have hlk := B.notSynchronized
  have hts : ∀ w ∈ wsL_law, w.before args s = true := fun w hw => atoms_spec B.pre w (List.mem_cons_of_mem _ hw)
  have hown : s.vm.findClass RX11 = some m.cls := findClass_of_methodNamed B.named
  have hW : Wd D A s.heap (oc_X11 T a_o x_o ++ Z) s.heap [] := ⟨hP, hD, va_S.rf⟩
  have hl := lv_entry [.ref (a_o 0), .int p1, .int p2] (n := 9) (Nat.le_of_ble_eq_true rfl)
  refine W.eq (en_eq ha) ?_
  generalize (lg_sl [.ref (a_o 0), .int p1, .int p2] ++ List.replicate (9 - (lg_sl [.ref (a_o 0), .int p1, .int p2]).length) Slot.unset).toArray = ls at hl ⊢
  have hl : lv_has ls 9 [(0, .ref (a_o 0)), (1, .int p1), (2, .int p2)] := hl
  clear hP hD B ha
  obtain ⟨Q, hQ⟩ : ∃ Q, Q = MQ below (Qgv D A (oc_X11 T a_o x_o9 ++ Z)) args s 0 0 A := ⟨_, rfl⟩
  rw [← hQ]
  change W p l e (rmd 1) s m args below meth c s.heap [] 0 0 Q (F0 m 0 ls [])
  have J141 : ∀ (x_o_141 : Ob) (v2_141 : Int32) (v3_141 : Int32) (v4_141 : Int32) (v5_141 : Int32) (v6_141 : Int32) (s0_141 : Int32) (H : Heap) (locs : List Loc) (ls : Array Slot) (code : Nat) (o4j : Int32) (y_oj : Ob), Wd D A s.heap (oc_X11 T a_o x_o_141 ++ Z) H locs → lv_has ls 9 [(0, .ref (a_o 0)), (2, .int v2_141), (3, .int v3_141), (4, .int v4_141), (5, .int v5_141), (6, .int v6_141)] → f_X11_readWord_J141 x_o_141 v2_141 v3_141 v4_141 v5_141 v6_141 s0_141 = some (code, o4j, y_oj) → (code = 0 → ∀ (H : Heap) (locs : List Loc) (ls : Array Slot), Wd D A s.heap (oc_X11 T a_o y_oj ++ Z) H locs → lv_has ls 9 [(0, .ref (a_o 0)), (2, .int v2_141), (3, .int v3_141), (4, .int o4j)] → W p l e (rmd 1) s m args below meth c H locs 0 0 Q (F0 m 10 ls [])) → (code = 1 → ∀ (H : Heap) (locs : List Loc) (ls : Array Slot), Wd D A s.heap (oc_X11 T a_o y_oj ++ Z) H locs → lv_has ls 9 [] → W p l e (rmd 1) s m args below meth c H locs 0 0 Q (F0 m 189 ls [])) → W p l e (rmd 1) s m args below meth c H locs 0 0 Q (F0 m 141 ls [.int s0_141]) := by
    intro x_o_141 v2_141 v3_141 v4_141 v5_141 v6_141 s0_141 H locs ls code o4j y_oj hW hl h k0 k1
    rw [f_X11_readWord_J141] at h
    refine lv_istore (lv' := [(7, .int s0_141), (0, .ref (a_o 0)), (2, .int v2_141), (3, .int v3_141), (4, .int v4_141), (5, .int v5_141), (6, .int v6_141)]) hx hb dX11_readWord_141 hl (by decide) rfl (fun ls hl => ?_)
    refine lv_aload_n hx hb dX11_readWord_143 rfl (lv_at hl 1 rfl) ?_
    refine lv_bipush (v := 6) hx hb dX11_readWord_144 (by decide) ?_
    refine lv_iload_n hx hb dX11_readWord_146 rfl (lv_at hl 2 rfl) ?_
    refine lv_imul hx hb dX11_readWord_147 ?_
    refine lv_iload hx hb dX11_readWord_148 (lv_at hl 5 rfl) ?_
    refine lv_bipush (v := 100) hx hb dX11_readWord_150 (by decide) ?_
    refine lv_iload hx hb dX11_readWord_152 (lv_at hl 6 rfl) ?_
    refine lv_imul hx hb dX11_readWord_154 ?_
    refine lv_bipush (v := 10) hx hb dX11_readWord_155 (by decide) ?_
    refine lv_iload hx hb dX11_readWord_157 (lv_at hl 0 rfl) ?_
    refine lv_imul hx hb dX11_readWord_159 ?_
    refine lv_iadd hx hb dX11_readWord_160 ?_
    refine lv_aload_n hx hb dX11_readWord_161 rfl (lv_at hl 1 rfl) ?_
    refine lv_aload_n hx hb dX11_readWord_162 rfl (lv_at hl 1 rfl) ?_
    refine fg_X11_37 (v := .ref (a_o 10)) hx hb hts hown hK hW 0 rfl rfl dX11_readWord_163 ?_
    refine lv_iload_n hx hb dX11_readWord_166 rfl (lv_at hl 3 rfl) ?_
    obtain ⟨g21, h⟩ := grd_s h
    refine g_iald hx hb hK hW 10 rfl g21 dX11_readWord_167 ?_
    refine lv_iload hx hb dX11_readWord_168 (lv_at hl 4 rfl) ?_
    refine lv_iconst (v := 2) hx hb dX11_readWord_170 (by decide) ?_
    obtain ⟨r22, q23, h⟩ := bnd1_s h
    refine cl_X11_247 hx hb hml hown hts hK hN hW (c_X11_featureOf l D T A a_o (Z) x_o_141 (x_o_141 10 v3_141.toNatClampNeg) v4_141 2 r22 q23) ⟨Nat.le_of_ble_eq_true rfl, Nat.le_of_ble_eq_true rfl⟩ hl.1 rfl (Nat.le_of_ble_eq_true rfl) dX11_readWord_171 ⟨Nat.zero_le _, Nat.zero_le _⟩ rfl (fun H locs hW => ?_)
    refine lv_iadd hx hb dX11_readWord_174 ?_
    refine lv_iconst (v := 0) hx hb dX11_readWord_175 (by decide) ?_
    refine lv_iconst (v := (-1)) hx hb dX11_readWord_176 (by decide) ?_
    refine lv_iload_n hx hb dX11_readWord_177 rfl (lv_at hl 2 rfl) ?_
    refine lv_iload hx hb dX11_readWord_178 (lv_at hl 4 rfl) ?_
    obtain ⟨x_o24, q25, h⟩ := bnd1_s h
    refine cl_X11_278 hx hb hml hown hts hK hN hW (c_X11_add l D T A a_o (Z) x_o_141 (6 * v2_141) v5_141 (((100 * v6_141) + (10 * s0_141)) + r22) 0 (-1) v2_141 v4_141 x_o24 q25) ⟨Nat.le_of_ble_eq_true rfl, Nat.le_of_ble_eq_true rfl⟩ hl.1 rfl (Nat.le_of_ble_eq_true rfl) dX11_readWord_180 ⟨Nat.zero_le _, Nat.zero_le _⟩ rfl (fun H locs hW => ?_)
    obtain ⟨w4_26, ew4_26⟩ : ∃ y : Int32, y = v4_141 + 1 := ⟨_, rfl⟩
    have h := lb_at ew4_26 h
    refine lv_iinc (v := w4_26) (lv' := [(4, .int w4_26), (7, .int s0_141), (0, .ref (a_o 0)), (2, .int v2_141), (3, .int v3_141), (5, .int v5_141), (6, .int v6_141)]) hx hb dX11_readWord_183 hl (k := 4) rfl (by rw [ew4_26]; rfl) (by decide) rfl (fun ls hl => ?_)
    refine lv_goto (tgt := 10) hx hb dX11_readWord_186 (by decide) ?_
    obtain ⟨rfl, rfl, rfl⟩ := ret3 h
    exact k0 rfl H locs ls hW (lv_sub hl [2, 3, 4, 0] rfl)
  have J139 : ∀ (x_o_139 : Ob) (v2_139 : Int32) (v3_139 : Int32) (v4_139 : Int32) (v5_139 : Int32) (v6_139 : Int32) (v7_139 : Int32) (H : Heap) (locs : List Loc) (ls : Array Slot) (code : Nat) (o4j : Int32) (y_oj : Ob), Wd D A s.heap (oc_X11 T a_o x_o_139 ++ Z) H locs → lv_has ls 9 [(0, .ref (a_o 0)), (2, .int v2_139), (3, .int v3_139), (4, .int v4_139), (5, .int v5_139), (6, .int v6_139), (7, .int v7_139)] → f_X11_readWord_J139 x_o_139 v2_139 v3_139 v4_139 v5_139 v6_139 v7_139 = some (code, o4j, y_oj) → (code = 0 → ∀ (H : Heap) (locs : List Loc) (ls : Array Slot), Wd D A s.heap (oc_X11 T a_o y_oj ++ Z) H locs → lv_has ls 9 [(0, .ref (a_o 0)), (2, .int v2_139), (3, .int v3_139), (4, .int o4j)] → W p l e (rmd 1) s m args below meth c H locs 0 0 Q (F0 m 10 ls [])) → (code = 1 → ∀ (H : Heap) (locs : List Loc) (ls : Array Slot), Wd D A s.heap (oc_X11 T a_o y_oj ++ Z) H locs → lv_has ls 9 [] → W p l e (rmd 1) s m args below meth c H locs 0 0 Q (F0 m 189 ls [])) → W p l e (rmd 1) s m args below meth c H locs 0 0 Q (F0 m 139 ls []) := by
    intro x_o_139 v2_139 v3_139 v4_139 v5_139 v6_139 v7_139 H locs ls code o4j y_oj hW hl h k0 k1
    rw [f_X11_readWord_J139] at h
    refine lv_iload hx hb dX11_readWord_139 (lv_at hl 6 rfl) ?_
    exact J141 _ _ _ _ _ _ _ H locs ls _ _ _ hW (lv_sub hl [0, 1, 2, 3, 4, 5] rfl) h k0 k1
  have J118 : ∀ (x_o_118 : Ob) (v2_118 : Int32) (v3_118 : Int32) (v4_118 : Int32) (v5_118 : Int32) (v7_118 : Int32) (v8_118 : Int32) (s0_118 : Int32) (H : Heap) (locs : List Loc) (ls : Array Slot) (code : Nat) (o4j : Int32) (y_oj : Ob), Wd D A s.heap (oc_X11 T a_o x_o_118 ++ Z) H locs → lv_has ls 9 [(0, .ref (a_o 0)), (2, .int v2_118), (3, .int v3_118), (4, .int v4_118), (5, .int v5_118), (7, .int v7_118), (8, .int v8_118)] → f_X11_readWord_J118 x_o_118 v2_118 v3_118 v4_118 v5_118 v7_118 v8_118 s0_118 = some (code, o4j, y_oj) → (code = 0 → ∀ (H : Heap) (locs : List Loc) (ls : Array Slot), Wd D A s.heap (oc_X11 T a_o y_oj ++ Z) H locs → lv_has ls 9 [(0, .ref (a_o 0)), (2, .int v2_118), (3, .int v3_118), (4, .int o4j)] → W p l e (rmd 1) s m args below meth c H locs 0 0 Q (F0 m 10 ls [])) → (code = 1 → ∀ (H : Heap) (locs : List Loc) (ls : Array Slot), Wd D A s.heap (oc_X11 T a_o y_oj ++ Z) H locs → lv_has ls 9 [] → W p l e (rmd 1) s m args below meth c H locs 0 0 Q (F0 m 189 ls [])) → W p l e (rmd 1) s m args below meth c H locs 0 0 Q (F0 m 118 ls [.int s0_118]) := by
    intro x_o_118 v2_118 v3_118 v4_118 v5_118 v7_118 v8_118 s0_118 H locs ls code o4j y_oj hW hl h k0 k1
    rw [f_X11_readWord_J118] at h
    refine lv_istore (lv' := [(6, .int s0_118), (0, .ref (a_o 0)), (2, .int v2_118), (3, .int v3_118), (4, .int v4_118), (5, .int v5_118), (7, .int v7_118), (8, .int v8_118)]) hx hb dX11_readWord_118 hl (by decide) rfl (fun ls hl => ?_)
    refine lv_iload hx hb dX11_readWord_120 (lv_at hl 7 rfl) ?_
    refine lv_if_eq (tgt := 139) hx hb dX11_readWord_122 (by decide) (fun c20 => ?_) (fun c20 => ?_)
    · have h := ite_t c20 h
      exact J139 _ _ _ _ _ _ _ H locs ls _ _ _ hW (lv_sub hl [1, 2, 3, 4, 5, 0, 6] rfl) h k0 k1
    · have h := ite_f c20 h
      refine lv_iload hx hb dX11_readWord_125 (lv_at hl 6 rfl) ?_
      refine lv_if_ne (tgt := 139) hx hb dX11_readWord_127 (by decide) (fun c27 => ?_) (fun c27 => ?_)
      · have h := ite_f c27 h
        exact J139 _ _ _ _ _ _ _ H locs ls _ _ _ hW (lv_sub hl [1, 2, 3, 4, 5, 0, 6] rfl) h k0 k1
      · have h := ite_t c27 h
        refine lv_aload_n hx hb dX11_readWord_130 rfl (lv_at hl 1 rfl) ?_
        refine fg_X11_49 (v := .ref (a_o 14)) hx hb hts hown hK hW 0 rfl rfl dX11_readWord_131 ?_
        refine lv_iload_n hx hb dX11_readWord_134 rfl (lv_at hl 3 rfl) ?_
        obtain ⟨g28, h⟩ := grd_s h
        refine g_iald hx hb hK hW 14 rfl g28 dX11_readWord_135 ?_
        refine lv_goto (tgt := 141) hx hb dX11_readWord_136 (by decide) ?_
        exact J141 _ _ _ _ _ _ _ H locs ls _ _ _ hW (lv_sub hl [1, 2, 3, 4, 5, 0] rfl) h k0 k1
  have J116 : ∀ (x_o_116 : Ob) (v2_116 : Int32) (v3_116 : Int32) (v4_116 : Int32) (v5_116 : Int32) (v6_116 : Int32) (v7_116 : Int32) (v8_116 : Int32) (H : Heap) (locs : List Loc) (ls : Array Slot) (code : Nat) (o4j : Int32) (y_oj : Ob), Wd D A s.heap (oc_X11 T a_o x_o_116 ++ Z) H locs → lv_has ls 9 [(0, .ref (a_o 0)), (2, .int v2_116), (3, .int v3_116), (4, .int v4_116), (5, .int v5_116), (6, .int v6_116), (7, .int v7_116), (8, .int v8_116)] → f_X11_readWord_J116 x_o_116 v2_116 v3_116 v4_116 v5_116 v6_116 v7_116 v8_116 = some (code, o4j, y_oj) → (code = 0 → ∀ (H : Heap) (locs : List Loc) (ls : Array Slot), Wd D A s.heap (oc_X11 T a_o y_oj ++ Z) H locs → lv_has ls 9 [(0, .ref (a_o 0)), (2, .int v2_116), (3, .int v3_116), (4, .int o4j)] → W p l e (rmd 1) s m args below meth c H locs 0 0 Q (F0 m 10 ls [])) → (code = 1 → ∀ (H : Heap) (locs : List Loc) (ls : Array Slot), Wd D A s.heap (oc_X11 T a_o y_oj ++ Z) H locs → lv_has ls 9 [] → W p l e (rmd 1) s m args below meth c H locs 0 0 Q (F0 m 189 ls [])) → W p l e (rmd 1) s m args below meth c H locs 0 0 Q (F0 m 116 ls []) := by
    intro x_o_116 v2_116 v3_116 v4_116 v5_116 v6_116 v7_116 v8_116 H locs ls code o4j y_oj hW hl h k0 k1
    rw [f_X11_readWord_J116] at h
    refine lv_iload hx hb dX11_readWord_116 (lv_at hl 5 rfl) ?_
    exact J118 _ _ _ _ _ _ _ _ H locs ls _ _ _ hW (lv_sub hl [0, 1, 2, 3, 4, 6, 7] rfl) h k0 k1
  have J95 : ∀ (x_o_95 : Ob) (v2_95 : Int32) (v3_95 : Int32) (v4_95 : Int32) (v5_95 : Int32) (v6_95 : Int32) (v7_95 : Int32) (s0_95 : Int32) (H : Heap) (locs : List Loc) (ls : Array Slot) (code : Nat) (o4j : Int32) (y_oj : Ob), Wd D A s.heap (oc_X11 T a_o x_o_95 ++ Z) H locs → lv_has ls 9 [(0, .ref (a_o 0)), (2, .int v2_95), (3, .int v3_95), (4, .int v4_95), (5, .int v5_95), (6, .int v6_95), (7, .int v7_95)] → f_X11_readWord_J95 x_o_95 v2_95 v3_95 v4_95 v5_95 v6_95 v7_95 s0_95 = some (code, o4j, y_oj) → (code = 0 → ∀ (H : Heap) (locs : List Loc) (ls : Array Slot), Wd D A s.heap (oc_X11 T a_o y_oj ++ Z) H locs → lv_has ls 9 [(0, .ref (a_o 0)), (2, .int v2_95), (3, .int v3_95), (4, .int o4j)] → W p l e (rmd 1) s m args below meth c H locs 0 0 Q (F0 m 10 ls [])) → (code = 1 → ∀ (H : Heap) (locs : List Loc) (ls : Array Slot), Wd D A s.heap (oc_X11 T a_o y_oj ++ Z) H locs → lv_has ls 9 [] → W p l e (rmd 1) s m args below meth c H locs 0 0 Q (F0 m 189 ls [])) → W p l e (rmd 1) s m args below meth c H locs 0 0 Q (F0 m 95 ls [.int s0_95]) := by
    intro x_o_95 v2_95 v3_95 v4_95 v5_95 v6_95 v7_95 s0_95 H locs ls code o4j y_oj hW hl h k0 k1
    rw [f_X11_readWord_J95] at h
    refine lv_istore (lv' := [(8, .int s0_95), (0, .ref (a_o 0)), (2, .int v2_95), (3, .int v3_95), (4, .int v4_95), (5, .int v5_95), (6, .int v6_95), (7, .int v7_95)]) hx hb dX11_readWord_95 hl (by decide) rfl (fun ls hl => ?_)
    refine lv_iload hx hb dX11_readWord_97 (lv_at hl 0 rfl) ?_
    refine lv_if_eq (tgt := 116) hx hb dX11_readWord_99 (by decide) (fun c19 => ?_) (fun c19 => ?_)
    · have h := ite_t c19 h
      exact J116 _ _ _ _ _ _ _ _ H locs ls _ _ _ hW (lv_sub hl [1, 2, 3, 4, 5, 6, 7, 0] rfl) h k0 k1
    · have h := ite_f c19 h
      refine lv_iload hx hb dX11_readWord_102 (lv_at hl 6 rfl) ?_
      refine lv_if_ne (tgt := 116) hx hb dX11_readWord_104 (by decide) (fun c29 => ?_) (fun c29 => ?_)
      · have h := ite_f c29 h
        exact J116 _ _ _ _ _ _ _ _ H locs ls _ _ _ hW (lv_sub hl [1, 2, 3, 4, 5, 6, 7, 0] rfl) h k0 k1
      · have h := ite_t c29 h
        refine lv_aload_n hx hb dX11_readWord_107 rfl (lv_at hl 1 rfl) ?_
        refine fg_X11_46 (v := .ref (a_o 13)) hx hb hts hown hK hW 0 rfl rfl dX11_readWord_108 ?_
        refine lv_iload_n hx hb dX11_readWord_111 rfl (lv_at hl 3 rfl) ?_
        obtain ⟨g30, h⟩ := grd_s h
        refine g_iald hx hb hK hW 13 rfl g30 dX11_readWord_112 ?_
        refine lv_goto (tgt := 118) hx hb dX11_readWord_113 (by decide) ?_
        exact J118 _ _ _ _ _ _ _ _ H locs ls _ _ _ hW (lv_sub hl [1, 2, 3, 4, 5, 7, 0] rfl) h k0 k1
  have L10 : ∀ (n : Nat) (x_o_10 : Ob) (v2_10 : Int32) (v3_10 : Int32) (v4_10 : Int32) (H : Heap) (locs : List Loc) (ls : Array Slot) (o4_10r : Int32) (y_o_10r : Ob), Wd D A s.heap (oc_X11 T a_o x_o_10 ++ Z) H locs → lv_has ls 9 [(0, .ref (a_o 0)), (2, .int v2_10), (3, .int v3_10), (4, .int v4_10)] → f_X11_readWord_L10 n x_o_10 v2_10 v3_10 v4_10 = some (o4_10r, y_o_10r) → (∀ (H : Heap) (locs : List Loc) (ls : Array Slot), Wd D A s.heap (oc_X11 T a_o y_o_10r ++ Z) H locs → lv_has ls 9 [] → W p l e (rmd 1) s m args below meth c H locs 0 0 Q (F0 m 189 ls [])) → W p l e (rmd 1) s m args below meth c H locs 0 0 Q (F0 m 10 ls []) := by
    intro n
    induction n with
    | zero =>
      intro x_o_10 v2_10 v3_10 v4_10 H locs ls o4_10r y_o_10r hW hl h k1
      rw [f_X11_readWord_L10] at h
      cases h
    | succ n ih =>
      intro x_o_10 v2_10 v3_10 v4_10 H locs ls o4_10r y_o_10r hW hl h k1
      rw [f_X11_readWord_L10] at h
      refine lv_iload hx hb dX11_readWord_10 (lv_at hl 3 rfl) ?_
      refine lv_aload_n hx hb dX11_readWord_12 rfl (lv_at hl 0 rfl) ?_
      refine lv_aload_n hx hb dX11_readWord_13 rfl (lv_at hl 0 rfl) ?_
      refine fg_X11_37 (v := .ref (a_o 10)) hx hb hts hown hK hW 0 rfl rfl dX11_readWord_14 ?_
      refine lv_iload_n hx hb dX11_readWord_17 rfl (lv_at hl 2 rfl) ?_
      obtain ⟨g2, h⟩ := grd_s h
      refine g_iald hx hb hK hW 10 rfl g2 dX11_readWord_18 ?_
      obtain ⟨r3, q4, h⟩ := bnd1_s h
      refine cl_X11_226 hx hb hml hown hts hK hN hW (c_X11_countOf l D T A a_o (Z) x_o_10 (x_o_10 10 v3_10.toNatClampNeg) r3 q4) ⟨Nat.le_of_ble_eq_true rfl, Nat.le_of_ble_eq_true rfl⟩ hl.1 rfl (Nat.le_of_ble_eq_true rfl) dX11_readWord_19 ⟨Nat.zero_le _, Nat.zero_le _⟩ rfl (fun H locs hW => ?_)
      refine lv_icmp_ge (tgt := 189) hx hb dX11_readWord_22 (by decide) (fun c5 => ?_) (fun c5 => ?_)
      · have h := ite_t c5 h
        obtain ⟨rfl, rfl⟩ := ret2 h
        exact k1 H locs ls hW (lv_sub hl [] rfl)
      · have h := ite_f c5 h
        refine lv_aload_n hx hb dX11_readWord_25 rfl (lv_at hl 0 rfl) ?_
        refine fg_X11_40 (v := .ref (a_o 11)) hx hb hts hown hK hW 0 rfl rfl dX11_readWord_26 ?_
        refine lv_iload_n hx hb dX11_readWord_29 rfl (lv_at hl 2 rfl) ?_
        obtain ⟨g6, h⟩ := grd_s h
        refine g_iald hx hb hK hW 11 rfl g6 dX11_readWord_30 ?_
        refine lv_iload hx hb dX11_readWord_31 (lv_at hl 3 rfl) ?_
        refine lv_ishr hx hb dX11_readWord_33 ?_
        refine lv_iconst (v := 1) hx hb dX11_readWord_34 (by decide) ?_
        refine lv_iand hx hb dX11_readWord_35 ?_
        refine lv_iconst (v := 1) hx hb dX11_readWord_36 (by decide) ?_
        refine lv_icmp_ne (tgt := 183) hx hb dX11_readWord_37 (by decide) (fun c7 => ?_) (fun c7 => ?_)
        · have h := ite_f c7 h
          obtain ⟨w4_8, ew4_8⟩ : ∃ y : Int32, y = v4_10 + 1 := ⟨_, rfl⟩
          have h := lb_at ew4_8 h
          refine lv_iinc (v := w4_8) (lv' := [(4, .int w4_8), (0, .ref (a_o 0)), (2, .int v2_10), (3, .int v3_10)]) hx hb dX11_readWord_183 hl (k := 3) rfl (by rw [ew4_8]; rfl) (by decide) rfl (fun ls hl => ?_)
          refine lv_goto (tgt := 10) hx hb dX11_readWord_186 (by decide) ?_
          exact ih _ _ _ _ H locs ls _ _ hW (lv_sub hl [1, 2, 3, 0] rfl) h k1
        · have h := ite_t c7 h
          refine lv_aload_n hx hb dX11_readWord_40 rfl (lv_at hl 0 rfl) ?_
          refine lv_aload_n hx hb dX11_readWord_41 rfl (lv_at hl 0 rfl) ?_
          refine fg_X11_37 (v := .ref (a_o 10)) hx hb hts hown hK hW 0 rfl rfl dX11_readWord_42 ?_
          refine lv_iload_n hx hb dX11_readWord_45 rfl (lv_at hl 2 rfl) ?_
          obtain ⟨g9, h⟩ := grd_s h
          refine g_iald hx hb hK hW 10 rfl g9 dX11_readWord_46 ?_
          refine lv_iload hx hb dX11_readWord_47 (lv_at hl 3 rfl) ?_
          obtain ⟨r10, q11, h⟩ := bnd1_s h
          refine cl_X11_237 hx hb hml hown hts hK hN hW (c_X11_categoryOf l D T A a_o (Z) x_o_10 (x_o_10 10 v3_10.toNatClampNeg) v4_10 r10 q11) ⟨Nat.le_of_ble_eq_true rfl, Nat.le_of_ble_eq_true rfl⟩ hl.1 rfl (Nat.le_of_ble_eq_true rfl) dX11_readWord_49 ⟨Nat.zero_le _, Nat.zero_le _⟩ rfl (fun H locs hW => ?_)
          refine lv_istore (lv' := [(5, .int r10), (0, .ref (a_o 0)), (2, .int v2_10), (3, .int v3_10), (4, .int v4_10)]) hx hb dX11_readWord_52 hl (by decide) rfl (fun ls hl => ?_)
          refine lv_aload_n hx hb dX11_readWord_54 rfl (lv_at hl 1 rfl) ?_
          refine lv_aload_n hx hb dX11_readWord_55 rfl (lv_at hl 1 rfl) ?_
          refine fg_X11_37 (v := .ref (a_o 10)) hx hb hts hown hK hW 0 rfl rfl dX11_readWord_56 ?_
          refine lv_iload_n hx hb dX11_readWord_59 rfl (lv_at hl 3 rfl) ?_
          obtain ⟨g12, h⟩ := grd_s h
          refine g_iald hx hb hK hW 10 rfl g12 dX11_readWord_60 ?_
          refine lv_iload hx hb dX11_readWord_61 (lv_at hl 4 rfl) ?_
          refine lv_iconst (v := 0) hx hb dX11_readWord_63 (by decide) ?_
          obtain ⟨r13, q14, h⟩ := bnd1_s h
          refine cl_X11_247 hx hb hml hown hts hK hN hW (c_X11_featureOf l D T A a_o (Z) x_o_10 (x_o_10 10 v3_10.toNatClampNeg) v4_10 0 r13 q14) ⟨Nat.le_of_ble_eq_true rfl, Nat.le_of_ble_eq_true rfl⟩ hl.1 rfl (Nat.le_of_ble_eq_true rfl) dX11_readWord_64 ⟨Nat.zero_le _, Nat.zero_le _⟩ rfl (fun H locs hW => ?_)
          refine lv_istore (lv' := [(6, .int r13), (5, .int r10), (0, .ref (a_o 0)), (2, .int v2_10), (3, .int v3_10), (4, .int v4_10)]) hx hb dX11_readWord_67 hl (by decide) rfl (fun ls hl => ?_)
          refine lv_aload_n hx hb dX11_readWord_69 rfl (lv_at hl 2 rfl) ?_
          refine lv_aload_n hx hb dX11_readWord_70 rfl (lv_at hl 2 rfl) ?_
          refine fg_X11_37 (v := .ref (a_o 10)) hx hb hts hown hK hW 0 rfl rfl dX11_readWord_71 ?_
          refine lv_iload_n hx hb dX11_readWord_74 rfl (lv_at hl 4 rfl) ?_
          obtain ⟨g15, h⟩ := grd_s h
          refine g_iald hx hb hK hW 10 rfl g15 dX11_readWord_75 ?_
          refine lv_iload hx hb dX11_readWord_76 (lv_at hl 5 rfl) ?_
          refine lv_iconst (v := 1) hx hb dX11_readWord_78 (by decide) ?_
          obtain ⟨r16, q17, h⟩ := bnd1_s h
          refine cl_X11_247 hx hb hml hown hts hK hN hW (c_X11_featureOf l D T A a_o (Z) x_o_10 (x_o_10 10 v3_10.toNatClampNeg) v4_10 1 r16 q17) ⟨Nat.le_of_ble_eq_true rfl, Nat.le_of_ble_eq_true rfl⟩ hl.1 rfl (Nat.le_of_ble_eq_true rfl) dX11_readWord_79 ⟨Nat.zero_le _, Nat.zero_le _⟩ rfl (fun H locs hW => ?_)
          refine lv_istore (lv' := [(7, .int r16), (6, .int r13), (5, .int r10), (0, .ref (a_o 0)), (2, .int v2_10), (3, .int v3_10), (4, .int v4_10)]) hx hb dX11_readWord_82 hl (by decide) rfl (fun ls hl => ?_)
          refine lv_iload hx hb dX11_readWord_84 (lv_at hl 2 rfl) ?_
          refine lv_iconst (v := 1) hx hb dX11_readWord_86 (by decide) ?_
          refine lv_icmp_ne (tgt := 94) hx hb dX11_readWord_87 (by decide) (fun c18 => ?_) (fun c18 => ?_)
          · have h := ite_f c18 h
            refine lv_iconst (v := 0) hx hb dX11_readWord_94 (by decide) ?_
            obtain ⟨code32, o4_t31, y_o_t31, q33, h⟩ := bnd3_s h
            refine J95 _ _ _ _ _ _ _ _ H locs ls code32 o4_t31 y_o_t31 hW (lv_sub hl [3, 4, 5, 6, 2, 1, 0] rfl) q33 (fun hc H locs ls hW hl => ?_) (fun hc H locs ls hW hl => ?_)
            · have h := ite_t hc h
              exact ih _ _ _ _ H locs ls _ _ hW (lv_sub hl [0, 1, 2, 3] rfl) h k1
            · have h := ite_f (by rw [hc]; decide) h
              obtain ⟨rfl, rfl⟩ := ret2 h
              exact k1 H locs ls hW hl
          · have h := ite_t c18 h
            refine lv_iconst (v := 1) hx hb dX11_readWord_90 (by decide) ?_
            refine lv_goto (tgt := 95) hx hb dX11_readWord_91 (by decide) ?_
            obtain ⟨code35, o4_t34, y_o_t34, q36, h⟩ := bnd3_s h
            refine J95 _ _ _ _ _ _ _ _ H locs ls code35 o4_t34 y_o_t34 hW (lv_sub hl [3, 4, 5, 6, 2, 1, 0] rfl) q36 (fun hc H locs ls hW hl => ?_) (fun hc H locs ls hW hl => ?_)
            · have h := ite_t hc h
              exact ih _ _ _ _ H locs ls _ _ hW (lv_sub hl [0, 1, 2, 3] rfl) h k1
            · have h := ite_f (by rw [hc]; decide) h
              obtain ⟨rfl, rfl⟩ := ret2 h
              exact k1 H locs ls hW hl
  rw [f_X11_readWord] at h
  suffices hm : ∀ (H : Heap) (locs : List Loc), Wd D A s.heap (oc_X11 T a_o x_o ++ Z) H locs → W p l e (rmd 1) s m args below meth c H locs 0 0 Q (F0 m 0 ls []) from hm _ _ hW
  intro H locs hW
  refine lv_bipush (v := 6) hx hb dX11_readWord_0 (by decide) ?_
  refine lv_iload_n hx hb dX11_readWord_2 rfl (lv_at hl 1 rfl) ?_
  refine lv_imul hx hb dX11_readWord_3 ?_
  refine lv_iload_n hx hb dX11_readWord_4 rfl (lv_at hl 2 rfl) ?_
  refine lv_iadd hx hb dX11_readWord_5 ?_
  refine lv_topi (fun w3_1 ew3_1 => ?_)
  have h := lb_at ew3_1 h
  refine lv_istore_n (lv' := [(3, .int w3_1), (0, .ref (a_o 0)), (1, .int p1), (2, .int p2)]) hx hb dX11_readWord_6 rfl hl (by decide) rfl (fun ls hl => ?_)
  refine lv_iconst (v := 0) hx hb dX11_readWord_7 (by decide) ?_
  refine lv_istore (lv' := [(4, .int 0), (3, .int w3_1), (0, .ref (a_o 0)), (1, .int p1), (2, .int p2)]) hx hb dX11_readWord_8 hl (by decide) rfl (fun ls hl => ?_)
  obtain ⟨o4_u37, y_o_u37, q38, h⟩ := bnd2_s h
  refine L10 200 _ _ _ _ H locs ls o4_u37 y_o_u37 hW (lv_sub hl [2, 4, 1, 0] rfl) q38 (fun H locs ls hW hl => ?_)
  obtain rfl := ret1 h
  rw [hQ]
  exact g_retv hx hb hr hlk hW dX11_readWord_189
set_option maxHeartbeats 4000000 in
set_option maxRecDepth 100000 in
theorem c_X11_readLonger (l : Launch) (D : va_G) (T : Nat → ClassId) (A : Nat → Prop) (a_o : Nat → Nat) (Z : va_W)  (x_o : Ob) (p1 : Int32) (p2 : Int32) (x_o9 : Ob) (h : f_X11_readLonger x_o p1 p2 = some x_o9) : Met l yX11_readLonger (Cond.code yX11_readLonger cX11_readLonger 12 none :: wsL_law) (rmd 3) (Pg D T A (oc_X11 T a_o x_o ++ Z) [.ref (a_o 0), .int p1, .int p2]) (Qgv D A (oc_X11 T a_o x_o9 ++ Z)) 0 0 A := by
  refine Met.ofW (cc := cX11_readLonger) (maxL := 12) (ret := none) (by decide +kernel) rfl ?_
  intro p e s m args below meth c s₁ B hml hv
  obtain ⟨ha, hP, hK, hD, hN⟩ := hv
  have hx := B.exec
  have hb := B.bytes
  have hr := B.returns
  have hlk := B.notSynchronized
  have hts : ∀ w ∈ wsL_law, w.before args s = true := fun w hw => atoms_spec B.pre w (List.mem_cons_of_mem _ hw)
  have hown : s.vm.findClass RX11 = some m.cls := findClass_of_methodNamed B.named
  have hW : Wd D A s.heap (oc_X11 T a_o x_o ++ Z) s.heap [] := ⟨hP, hD, va_S.rf⟩
  have hl := lv_entry [.ref (a_o 0), .int p1, .int p2] (n := 12) (Nat.le_of_ble_eq_true rfl)
  refine W.eq (en_eq ha) ?_
  generalize (lg_sl [.ref (a_o 0), .int p1, .int p2] ++ List.replicate (12 - (lg_sl [.ref (a_o 0), .int p1, .int p2]).length) Slot.unset).toArray = ls at hl ⊢
  have hl : lv_has ls 12 [(0, .ref (a_o 0)), (1, .int p1), (2, .int p2)] := hl
  clear hP hD B ha
  obtain ⟨Q, hQ⟩ : ∃ Q, Q = MQ below (Qgv D A (oc_X11 T a_o x_o9 ++ Z)) args s 0 0 A := ⟨_, rfl⟩
  rw [← hQ]
  change W p l e (rmd 3) s m args below meth c s.heap [] 0 0 Q (F0 m 0 ls [])
  have L101 : ∀ (n : Nat) (x_o_101 : Ob) (v1_101 : Int32) (v2_101 : Int32) (v3_101 : Int32) (v4_101 : Int32) (v5_101 : Int32) (v6_101 : Int32) (v7_101 : Int32) (v8_101 : Int32) (v9_101 : Int32) (v10_101 : Int32) (H : Heap) (locs : List Loc) (ls : Array Slot) (o10_101r : Int32) (y_o_101r : Ob), Wd D A s.heap (oc_X11 T a_o x_o_101 ++ Z) H locs → lv_has ls 12 [(0, .ref (a_o 0)), (1, .int v1_101), (2, .int v2_101), (3, .int v3_101), (4, .int v4_101), (5, .int v5_101), (6, .int v6_101), (7, .int v7_101), (8, .int v8_101), (9, .int v9_101), (10, .int v10_101)] → f_X11_readLonger_L101 n x_o_101 v1_101 v2_101 v3_101 v4_101 v5_101 v6_101 v7_101 v8_101 v9_101 v10_101 = some (o10_101r, y_o_101r) → (∀ (H : Heap) (locs : List Loc) (ls : Array Slot), Wd D A s.heap (oc_X11 T a_o y_o_101r ++ Z) H locs → lv_has ls 12 [(0, .ref (a_o 0)), (1, .int v1_101), (2, .int v2_101), (3, .int v3_101), (4, .int v4_101), (5, .int v5_101), (6, .int v6_101), (7, .int v7_101), (8, .int v8_101)] → W p l e (rmd 3) s m args below meth c H locs 0 0 Q (F0 m 179 ls [])) → W p l e (rmd 3) s m args below meth c H locs 0 0 Q (F0 m 101 ls []) := by
    intro n
    induction n with
    | zero =>
      intro x_o_101 v1_101 v2_101 v3_101 v4_101 v5_101 v6_101 v7_101 v8_101 v9_101 v10_101 H locs ls o10_101r y_o_101r hW hl h k1
      rw [f_X11_readLonger_L101] at h
      cases h
    | succ n ih =>
      intro x_o_101 v1_101 v2_101 v3_101 v4_101 v5_101 v6_101 v7_101 v8_101 v9_101 v10_101 H locs ls o10_101r y_o_101r hW hl h k1
      rw [f_X11_readLonger_L101] at h
      refine lv_iload hx hb dX11_readLonger_101 (lv_at hl 10 rfl) ?_
      refine lv_aload_n hx hb dX11_readLonger_103 rfl (lv_at hl 0 rfl) ?_
      refine fg_X11_117 (v := .ref (a_o 36)) hx hb hts hown hK hW 0 rfl rfl dX11_readLonger_104 ?_
      refine lv_iload hx hb dX11_readLonger_107 (lv_at hl 6 rfl) ?_
      obtain ⟨g12, h⟩ := grd_s h
      refine g_iald hx hb hK hW 36 rfl g12 dX11_readLonger_109 ?_
      refine lv_icmp_ge (tgt := 179) hx hb dX11_readLonger_110 (by decide) (fun c13 => ?_) (fun c13 => ?_)
      · have h := ite_t c13 h
        obtain ⟨rfl, rfl⟩ := ret2 h
        exact k1 H locs ls hW (lv_sub hl [0, 1, 2, 3, 4, 5, 6, 7, 8] rfl)
      · have h := ite_f c13 h
        refine lv_aload_n hx hb dX11_readLonger_113 rfl (lv_at hl 0 rfl) ?_
        refine fg_X11_96 (v := .ref (a_o 29)) hx hb hts hown hK hW 0 rfl rfl dX11_readLonger_114 ?_
        refine lv_iload hx hb dX11_readLonger_117 (lv_at hl 9 rfl) ?_
        obtain ⟨g14, h⟩ := grd_s h
        refine g_iald hx hb hK hW 29 rfl g14 dX11_readLonger_119 ?_
        refine lv_aload_n hx hb dX11_readLonger_120 rfl (lv_at hl 0 rfl) ?_
        refine fg_X11_71 (v := .ref (a_o 21)) hx hb hts hown hK hW 0 rfl rfl dX11_readLonger_121 ?_
        refine lv_iload hx hb dX11_readLonger_124 (lv_at hl 7 rfl) ?_
        obtain ⟨g15, h⟩ := grd_s h
        refine g_iald hx hb hK hW 21 rfl g15 dX11_readLonger_126 ?_
        refine lv_icmp_ne (tgt := 179) hx hb dX11_readLonger_127 (by decide) (fun c16 => ?_) (fun c16 => ?_)
        · have h := ite_f c16 h
          obtain ⟨rfl, rfl⟩ := ret2 h
          exact k1 H locs ls hW (lv_sub hl [0, 1, 2, 3, 4, 5, 6, 7, 8] rfl)
        · have h := ite_t c16 h
          refine lv_aload_n hx hb dX11_readLonger_130 rfl (lv_at hl 0 rfl) ?_
          refine fg_X11_120 (v := .ref (a_o 37)) hx hb hts hown hK hW 0 rfl rfl dX11_readLonger_131 ?_
          refine lv_bipush (v := 8) hx hb dX11_readLonger_134 (by decide) ?_
          refine lv_iload hx hb dX11_readLonger_136 (lv_at hl 6 rfl) ?_
          refine lv_imul hx hb dX11_readLonger_138 ?_
          refine lv_iload hx hb dX11_readLonger_139 (lv_at hl 10 rfl) ?_
          refine lv_iadd hx hb dX11_readLonger_141 ?_
          obtain ⟨g17, h⟩ := grd_s h
          refine g_iald hx hb hK hW 37 rfl g17 dX11_readLonger_142 ?_
          refine lv_topi (fun w11_18 ew11_18 => ?_)
          have h := lb_at ew11_18 h
          refine lv_istore (lv' := [(11, .int w11_18), (0, .ref (a_o 0)), (1, .int v1_101), (2, .int v2_101), (3, .int v3_101), (4, .int v4_101), (5, .int v5_101), (6, .int v6_101), (7, .int v7_101), (8, .int v8_101), (9, .int v9_101), (10, .int v10_101)]) hx hb dX11_readLonger_143 hl (by decide) rfl (fun ls hl => ?_)
          refine lv_aload_n hx hb dX11_readLonger_145 rfl (lv_at hl 1 rfl) ?_
          refine fg_X11_96 (v := .ref (a_o 29)) hx hb hts hown hK hW 0 rfl rfl dX11_readLonger_146 ?_
          refine lv_iload hx hb dX11_readLonger_149 (lv_at hl 0 rfl) ?_
          obtain ⟨g19, h⟩ := grd_s h
          refine g_iald hx hb hK hW 29 rfl g19 dX11_readLonger_151 ?_
          refine lv_aload_n hx hb dX11_readLonger_152 rfl (lv_at hl 1 rfl) ?_
          refine fg_X11_74 (v := .ref (a_o 22)) hx hb hts hown hK hW 0 rfl rfl dX11_readLonger_153 ?_
          refine lv_iload hx hb dX11_readLonger_156 (lv_at hl 8 rfl) ?_
          obtain ⟨g20, h⟩ := grd_s h
          refine g_iald hx hb hK hW 22 rfl g20 dX11_readLonger_158 ?_
          refine lv_icmp_ne (tgt := 173) hx hb dX11_readLonger_159 (by decide) (fun c21 => ?_) (fun c21 => ?_)
          · have h := ite_f c21 h
            obtain ⟨w10_22, ew10_22⟩ : ∃ y : Int32, y = v10_101 + 1 := ⟨_, rfl⟩
            have h := lb_at ew10_22 h
            refine lv_iinc (v := w10_22) (lv' := [(10, .int w10_22), (11, .int w11_18), (0, .ref (a_o 0)), (1, .int v1_101), (2, .int v2_101), (3, .int v3_101), (4, .int v4_101), (5, .int v5_101), (6, .int v6_101), (7, .int v7_101), (8, .int v8_101), (9, .int v9_101)]) hx hb dX11_readLonger_173 hl (k := 11) rfl (by rw [ew10_22]; rfl) (by decide) rfl (fun ls hl => ?_)
            refine lv_goto (tgt := 101) hx hb dX11_readLonger_176 (by decide) ?_
            exact ih _ _ _ _ _ _ _ _ _ _ _ H locs ls _ _ hW (lv_sub hl [2, 3, 4, 5, 6, 7, 8, 9, 10, 11, 0] rfl) h k1
          · have h := ite_t c21 h
            refine lv_aload_n hx hb dX11_readLonger_162 rfl (lv_at hl 1 rfl) ?_
            refine lv_iload_n hx hb dX11_readLonger_163 rfl (lv_at hl 4 rfl) ?_
            refine lv_iload hx hb dX11_readLonger_164 (lv_at hl 8 rfl) ?_
            refine lv_iload hx hb dX11_readLonger_166 (lv_at hl 10 rfl) ?_
            refine lv_iload hx hb dX11_readLonger_168 (lv_at hl 0 rfl) ?_
            obtain ⟨x_o23, q24, h⟩ := bnd1_s h
            refine cl_X11_282 hx hb hml hown hts hK hN hW (c_X11_tryRule l D T A a_o (Z) x_o_101 v3_101 v7_101 v9_101 w11_18 x_o23 q24) ⟨Nat.le_of_ble_eq_true rfl, Nat.le_of_ble_eq_true rfl⟩ hl.1 rfl (Nat.le_of_ble_eq_true rfl) dX11_readLonger_170 ⟨Nat.zero_le _, Nat.zero_le _⟩ rfl (fun H locs hW => ?_)
            obtain ⟨w10_25, ew10_25⟩ : ∃ y : Int32, y = v10_101 + 1 := ⟨_, rfl⟩
            have h := lb_at ew10_25 h
            refine lv_iinc (v := w10_25) (lv' := [(10, .int w10_25), (11, .int w11_18), (0, .ref (a_o 0)), (1, .int v1_101), (2, .int v2_101), (3, .int v3_101), (4, .int v4_101), (5, .int v5_101), (6, .int v6_101), (7, .int v7_101), (8, .int v8_101), (9, .int v9_101)]) hx hb dX11_readLonger_173 hl (k := 11) rfl (by rw [ew10_25]; rfl) (by decide) rfl (fun ls hl => ?_)
            refine lv_goto (tgt := 101) hx hb dX11_readLonger_176 (by decide) ?_
            exact ih _ _ _ _ _ _ _ _ _ _ _ H locs ls _ _ hW (lv_sub hl [2, 3, 4, 5, 6, 7, 8, 9, 10, 11, 0] rfl) h k1
  have L60 : ∀ (n : Nat) (x_o_60 : Ob) (v1_60 : Int32) (v2_60 : Int32) (v3_60 : Int32) (v4_60 : Int32) (v5_60 : Int32) (v6_60 : Int32) (v7_60 : Int32) (v8_60 : Int32) (H : Heap) (locs : List Loc) (ls : Array Slot) (o8_60r : Int32) (y_o_60r : Ob), Wd D A s.heap (oc_X11 T a_o x_o_60 ++ Z) H locs → lv_has ls 12 [(0, .ref (a_o 0)), (1, .int v1_60), (2, .int v2_60), (3, .int v3_60), (4, .int v4_60), (5, .int v5_60), (6, .int v6_60), (7, .int v7_60), (8, .int v8_60)] → f_X11_readLonger_L60 n x_o_60 v1_60 v2_60 v3_60 v4_60 v5_60 v6_60 v7_60 v8_60 = some (o8_60r, y_o_60r) → (∀ (H : Heap) (locs : List Loc) (ls : Array Slot), Wd D A s.heap (oc_X11 T a_o y_o_60r ++ Z) H locs → lv_has ls 12 [(0, .ref (a_o 0)), (1, .int v1_60), (2, .int v2_60), (3, .int v3_60), (4, .int v4_60), (5, .int v5_60), (6, .int v6_60), (7, .int v7_60)] → W p l e (rmd 3) s m args below meth c H locs 0 0 Q (F0 m 185 ls [])) → W p l e (rmd 3) s m args below meth c H locs 0 0 Q (F0 m 60 ls []) := by
    intro n
    induction n with
    | zero =>
      intro x_o_60 v1_60 v2_60 v3_60 v4_60 v5_60 v6_60 v7_60 v8_60 H locs ls o8_60r y_o_60r hW hl h k1
      rw [f_X11_readLonger_L60] at h
      cases h
    | succ n ih =>
      intro x_o_60 v1_60 v2_60 v3_60 v4_60 v5_60 v6_60 v7_60 v8_60 H locs ls o8_60r y_o_60r hW hl h k1
      rw [f_X11_readLonger_L60] at h
      refine lv_iload hx hb dX11_readLonger_60 (lv_at hl 8 rfl) ?_
      refine lv_aload_n hx hb dX11_readLonger_62 rfl (lv_at hl 0 rfl) ?_
      refine fg_X11_117 (v := .ref (a_o 36)) hx hb hts hown hK hW 0 rfl rfl dX11_readLonger_63 ?_
      refine lv_iload hx hb dX11_readLonger_66 (lv_at hl 5 rfl) ?_
      obtain ⟨g6, h⟩ := grd_s h
      refine g_iald hx hb hK hW 36 rfl g6 dX11_readLonger_68 ?_
      refine lv_icmp_ge (tgt := 185) hx hb dX11_readLonger_69 (by decide) (fun c7 => ?_) (fun c7 => ?_)
      · have h := ite_t c7 h
        obtain ⟨rfl, rfl⟩ := ret2 h
        exact k1 H locs ls hW (lv_sub hl [0, 1, 2, 3, 4, 5, 6, 7] rfl)
      · have h := ite_f c7 h
        refine lv_aload_n hx hb dX11_readLonger_72 rfl (lv_at hl 0 rfl) ?_
        refine fg_X11_74 (v := .ref (a_o 22)) hx hb hts hown hK hW 0 rfl rfl dX11_readLonger_73 ?_
        refine lv_iload hx hb dX11_readLonger_76 (lv_at hl 7 rfl) ?_
        obtain ⟨g8, h⟩ := grd_s h
        refine g_iald hx hb hK hW 22 rfl g8 dX11_readLonger_78 ?_
        refine lv_iconst (v := (-1)) hx hb dX11_readLonger_79 (by decide) ?_
        refine lv_icmp_eq (tgt := 185) hx hb dX11_readLonger_80 (by decide) (fun c9 => ?_) (fun c9 => ?_)
        · have h := ite_t c9 h
          obtain ⟨rfl, rfl⟩ := ret2 h
          exact k1 H locs ls hW (lv_sub hl [0, 1, 2, 3, 4, 5, 6, 7] rfl)
        · have h := ite_f c9 h
          refine lv_aload_n hx hb dX11_readLonger_83 rfl (lv_at hl 0 rfl) ?_
          refine fg_X11_120 (v := .ref (a_o 37)) hx hb hts hown hK hW 0 rfl rfl dX11_readLonger_84 ?_
          refine lv_bipush (v := 8) hx hb dX11_readLonger_87 (by decide) ?_
          refine lv_iload hx hb dX11_readLonger_89 (lv_at hl 5 rfl) ?_
          refine lv_imul hx hb dX11_readLonger_91 ?_
          refine lv_iload hx hb dX11_readLonger_92 (lv_at hl 8 rfl) ?_
          refine lv_iadd hx hb dX11_readLonger_94 ?_
          obtain ⟨g10, h⟩ := grd_s h
          refine g_iald hx hb hK hW 37 rfl g10 dX11_readLonger_95 ?_
          refine lv_topi (fun w9_11 ew9_11 => ?_)
          have h := lb_at ew9_11 h
          refine lv_istore (lv' := [(9, .int w9_11), (0, .ref (a_o 0)), (1, .int v1_60), (2, .int v2_60), (3, .int v3_60), (4, .int v4_60), (5, .int v5_60), (6, .int v6_60), (7, .int v7_60), (8, .int v8_60)]) hx hb dX11_readLonger_96 hl (by decide) rfl (fun ls hl => ?_)
          refine lv_iconst (v := 0) hx hb dX11_readLonger_98 (by decide) ?_
          refine lv_istore (lv' := [(10, .int 0), (9, .int w9_11), (0, .ref (a_o 0)), (1, .int v1_60), (2, .int v2_60), (3, .int v3_60), (4, .int v4_60), (5, .int v5_60), (6, .int v6_60), (7, .int v7_60), (8, .int v8_60)]) hx hb dX11_readLonger_99 hl (by decide) rfl (fun ls hl => ?_)
          obtain ⟨o10_u26, y_o_u26, q27, h⟩ := bnd2_s h
          refine L101 200 _ _ _ _ _ _ _ _ _ _ _ H locs ls o10_u26 y_o_u26 hW (lv_sub hl [2, 3, 4, 5, 6, 7, 8, 9, 10, 1, 0] rfl) q27 (fun H locs ls hW hl => ?_)
          obtain ⟨w8_28, ew8_28⟩ : ∃ y : Int32, y = v8_60 + 1 := ⟨_, rfl⟩
          have h := lb_at ew8_28 h
          refine lv_iinc (v := w8_28) (lv' := [(8, .int w8_28), (0, .ref (a_o 0)), (1, .int v1_60), (2, .int v2_60), (3, .int v3_60), (4, .int v4_60), (5, .int v5_60), (6, .int v6_60), (7, .int v7_60)]) hx hb dX11_readLonger_179 hl (k := 8) rfl (by rw [ew8_28]; rfl) (by decide) rfl (fun ls hl => ?_)
          refine lv_goto (tgt := 60) hx hb dX11_readLonger_182 (by decide) ?_
          exact ih _ _ _ _ _ _ _ _ _ H locs ls _ _ hW (lv_sub hl [1, 2, 3, 4, 5, 6, 7, 8, 0] rfl) h k1
  have L48 : ∀ (n : Nat) (x_o_48 : Ob) (v1_48 : Int32) (v2_48 : Int32) (v3_48 : Int32) (v4_48 : Int32) (v5_48 : Int32) (v6_48 : Int32) (v7_48 : Int32) (H : Heap) (locs : List Loc) (ls : Array Slot) (o7_48r : Int32) (y_o_48r : Ob), Wd D A s.heap (oc_X11 T a_o x_o_48 ++ Z) H locs → lv_has ls 12 [(0, .ref (a_o 0)), (1, .int v1_48), (2, .int v2_48), (3, .int v3_48), (4, .int v4_48), (5, .int v5_48), (6, .int v6_48), (7, .int v7_48)] → f_X11_readLonger_L48 n x_o_48 v1_48 v2_48 v3_48 v4_48 v5_48 v6_48 v7_48 = some (o7_48r, y_o_48r) → (∀ (H : Heap) (locs : List Loc) (ls : Array Slot), Wd D A s.heap (oc_X11 T a_o y_o_48r ++ Z) H locs → lv_has ls 12 [(0, .ref (a_o 0)), (1, .int v1_48), (2, .int v2_48), (3, .int v3_48), (4, .int v4_48)] → W p l e (rmd 3) s m args below meth c H locs 0 0 Q (F0 m 191 ls [])) → W p l e (rmd 3) s m args below meth c H locs 0 0 Q (F0 m 48 ls []) := by
    intro n
    induction n with
    | zero =>
      intro x_o_48 v1_48 v2_48 v3_48 v4_48 v5_48 v6_48 v7_48 H locs ls o7_48r y_o_48r hW hl h k1
      rw [f_X11_readLonger_L48] at h
      cases h
    | succ n ih =>
      intro x_o_48 v1_48 v2_48 v3_48 v4_48 v5_48 v6_48 v7_48 H locs ls o7_48r y_o_48r hW hl h k1
      rw [f_X11_readLonger_L48] at h
      refine lv_iload hx hb dX11_readLonger_48 (lv_at hl 7 rfl) ?_
      refine lv_aload_n hx hb dX11_readLonger_50 rfl (lv_at hl 0 rfl) ?_
      refine fg_X11_262 (v := .int (x_o_48 21 0)) hx hb hts hown hK hW 0 rfl rfl dX11_readLonger_51 ?_
      refine lv_icmp_ge (tgt := 191) hx hb dX11_readLonger_54 (by decide) (fun c5 => ?_) (fun c5 => ?_)
      · have h := ite_t c5 h
        obtain ⟨rfl, rfl⟩ := ret2 h
        exact k1 H locs ls hW (lv_sub hl [0, 1, 2, 3, 4] rfl)
      · have h := ite_f c5 h
        refine lv_iconst (v := 0) hx hb dX11_readLonger_57 (by decide) ?_
        refine lv_istore (lv' := [(8, .int 0), (0, .ref (a_o 0)), (1, .int v1_48), (2, .int v2_48), (3, .int v3_48), (4, .int v4_48), (5, .int v5_48), (6, .int v6_48), (7, .int v7_48)]) hx hb dX11_readLonger_58 hl (by decide) rfl (fun ls hl => ?_)
        obtain ⟨o8_u29, y_o_u29, q30, h⟩ := bnd2_s h
        refine L60 200 _ _ _ _ _ _ _ _ _ H locs ls o8_u29 y_o_u29 hW (lv_sub hl [1, 2, 3, 4, 5, 6, 7, 8, 0] rfl) q30 (fun H locs ls hW hl => ?_)
        obtain ⟨w7_31, ew7_31⟩ : ∃ y : Int32, y = v7_48 + 1 := ⟨_, rfl⟩
        have h := lb_at ew7_31 h
        refine lv_iinc (v := w7_31) (lv' := [(7, .int w7_31), (0, .ref (a_o 0)), (1, .int v1_48), (2, .int v2_48), (3, .int v3_48), (4, .int v4_48), (5, .int v5_48), (6, .int v6_48)]) hx hb dX11_readLonger_185 hl (k := 7) rfl (by rw [ew7_31]; rfl) (by decide) rfl (fun ls hl => ?_)
        refine lv_goto (tgt := 48) hx hb dX11_readLonger_188 (by decide) ?_
        exact ih _ _ _ _ _ _ _ _ H locs ls _ _ hW (lv_sub hl [1, 2, 3, 4, 5, 6, 7, 0] rfl) h k1
  have L12 : ∀ (n : Nat) (x_o_12 : Ob) (v1_12 : Int32) (v2_12 : Int32) (v3_12 : Int32) (v4_12 : Int32) (H : Heap) (locs : List Loc) (ls : Array Slot) (o4_12r : Int32) (y_o_12r : Ob), Wd D A s.heap (oc_X11 T a_o x_o_12 ++ Z) H locs → lv_has ls 12 [(0, .ref (a_o 0)), (1, .int v1_12), (2, .int v2_12), (3, .int v3_12), (4, .int v4_12)] → f_X11_readLonger_L12 n x_o_12 v1_12 v2_12 v3_12 v4_12 = some (o4_12r, y_o_12r) → (∀ (H : Heap) (locs : List Loc) (ls : Array Slot), Wd D A s.heap (oc_X11 T a_o y_o_12r ++ Z) H locs → lv_has ls 12 [] → W p l e (rmd 3) s m args below meth c H locs 0 0 Q (F0 m 197 ls [])) → W p l e (rmd 3) s m args below meth c H locs 0 0 Q (F0 m 12 ls []) := by
    intro n
    induction n with
    | zero =>
      intro x_o_12 v1_12 v2_12 v3_12 v4_12 H locs ls o4_12r y_o_12r hW hl h k1
      rw [f_X11_readLonger_L12] at h
      cases h
    | succ n ih =>
      intro x_o_12 v1_12 v2_12 v3_12 v4_12 H locs ls o4_12r y_o_12r hW hl h k1
      rw [f_X11_readLonger_L12] at h
      refine lv_iload hx hb dX11_readLonger_12 (lv_at hl 4 rfl) ?_
      refine lv_iload_n hx hb dX11_readLonger_14 rfl (lv_at hl 2 rfl) ?_
      refine lv_icmp_ge (tgt := 197) hx hb dX11_readLonger_15 (by decide) (fun c2 => ?_) (fun c2 => ?_)
      · have h := ite_t c2 h
        obtain ⟨rfl, rfl⟩ := ret2 h
        exact k1 H locs ls hW (lv_sub hl [] rfl)
      · have h := ite_f c2 h
        refine lv_bipush (v := 6) hx hb dX11_readLonger_18 (by decide) ?_
        refine lv_iload_n hx hb dX11_readLonger_20 rfl (lv_at hl 1 rfl) ?_
        refine lv_imul hx hb dX11_readLonger_21 ?_
        refine lv_iload hx hb dX11_readLonger_22 (lv_at hl 4 rfl) ?_
        refine lv_iadd hx hb dX11_readLonger_24 ?_
        refine lv_iconst (v := 1) hx hb dX11_readLonger_25 (by decide) ?_
        refine lv_isub hx hb dX11_readLonger_26 ?_
        refine lv_topi (fun w5_3 ew5_3 => ?_)
        have h := lb_at ew5_3 h
        refine lv_istore (lv' := [(5, .int w5_3), (0, .ref (a_o 0)), (1, .int v1_12), (2, .int v2_12), (3, .int v3_12), (4, .int v4_12)]) hx hb dX11_readLonger_27 hl (by decide) rfl (fun ls hl => ?_)
        refine lv_bipush (v := 6) hx hb dX11_readLonger_29 (by decide) ?_
        refine lv_iload_n hx hb dX11_readLonger_31 rfl (lv_at hl 2 rfl) ?_
        refine lv_iload hx hb dX11_readLonger_32 (lv_at hl 5 rfl) ?_
        refine lv_iadd hx hb dX11_readLonger_34 ?_
        refine lv_imul hx hb dX11_readLonger_35 ?_
        refine lv_iload_n hx hb dX11_readLonger_36 rfl (lv_at hl 3 rfl) ?_
        refine lv_iadd hx hb dX11_readLonger_37 ?_
        refine lv_iload hx hb dX11_readLonger_38 (lv_at hl 5 rfl) ?_
        refine lv_isub hx hb dX11_readLonger_40 ?_
        refine lv_iconst (v := 1) hx hb dX11_readLonger_41 (by decide) ?_
        refine lv_isub hx hb dX11_readLonger_42 ?_
        refine lv_topi (fun w6_4 ew6_4 => ?_)
        have h := lb_at ew6_4 h
        refine lv_istore (lv' := [(6, .int w6_4), (5, .int w5_3), (0, .ref (a_o 0)), (1, .int v1_12), (2, .int v2_12), (3, .int v3_12), (4, .int v4_12)]) hx hb dX11_readLonger_43 hl (by decide) rfl (fun ls hl => ?_)
        refine lv_iconst (v := 0) hx hb dX11_readLonger_45 (by decide) ?_
        refine lv_istore (lv' := [(7, .int 0), (6, .int w6_4), (5, .int w5_3), (0, .ref (a_o 0)), (1, .int v1_12), (2, .int v2_12), (3, .int v3_12), (4, .int v4_12)]) hx hb dX11_readLonger_46 hl (by decide) rfl (fun ls hl => ?_)
        obtain ⟨o7_u32, y_o_u32, q33, h⟩ := bnd2_s h
        refine L48 200 _ _ _ _ _ _ _ _ H locs ls o7_u32 y_o_u32 hW (lv_sub hl [3, 4, 5, 6, 7, 2, 1, 0] rfl) q33 (fun H locs ls hW hl => ?_)
        obtain ⟨w4_34, ew4_34⟩ : ∃ y : Int32, y = v4_12 + 1 := ⟨_, rfl⟩
        have h := lb_at ew4_34 h
        refine lv_iinc (v := w4_34) (lv' := [(4, .int w4_34), (0, .ref (a_o 0)), (1, .int v1_12), (2, .int v2_12), (3, .int v3_12)]) hx hb dX11_readLonger_191 hl (k := 4) rfl (by rw [ew4_34]; rfl) (by decide) rfl (fun ls hl => ?_)
        refine lv_goto (tgt := 12) hx hb dX11_readLonger_194 (by decide) ?_
        exact ih _ _ _ _ _ H locs ls _ _ hW (lv_sub hl [1, 2, 3, 4, 0] rfl) h k1
  rw [f_X11_readLonger] at h
  suffices hm : ∀ (H : Heap) (locs : List Loc), Wd D A s.heap (oc_X11 T a_o x_o ++ Z) H locs → W p l e (rmd 3) s m args below meth c H locs 0 0 Q (F0 m 0 ls []) from hm _ _ hW
  intro H locs hW
  refine lv_bipush (v := 6) hx hb dX11_readLonger_0 (by decide) ?_
  refine lv_iload_n hx hb dX11_readLonger_2 rfl (lv_at hl 1 rfl) ?_
  refine lv_imul hx hb dX11_readLonger_3 ?_
  refine lv_iload_n hx hb dX11_readLonger_4 rfl (lv_at hl 2 rfl) ?_
  refine lv_iadd hx hb dX11_readLonger_5 ?_
  refine lv_iconst (v := 1) hx hb dX11_readLonger_6 (by decide) ?_
  refine lv_isub hx hb dX11_readLonger_7 ?_
  refine lv_topi (fun w3_1 ew3_1 => ?_)
  have h := lb_at ew3_1 h
  refine lv_istore_n (lv' := [(3, .int w3_1), (0, .ref (a_o 0)), (1, .int p1), (2, .int p2)]) hx hb dX11_readLonger_8 rfl hl (by decide) rfl (fun ls hl => ?_)
  refine lv_iconst (v := 1) hx hb dX11_readLonger_9 (by decide) ?_
  refine lv_istore (lv' := [(4, .int 1), (3, .int w3_1), (0, .ref (a_o 0)), (1, .int p1), (2, .int p2)]) hx hb dX11_readLonger_10 hl (by decide) rfl (fun ls hl => ?_)
  obtain ⟨o4_u35, y_o_u35, q36, h⟩ := bnd2_s h
  refine L12 200 _ _ _ _ _ H locs ls o4_u35 y_o_u35 hW (lv_sub hl [2, 3, 4, 1, 0] rfl) q36 (fun H locs ls hW hl => ?_)
  obtain rfl := ret1 h
  rw [hQ]
  exact g_retv hx hb hr hlk hW dX11_readLonger_197
set_option maxHeartbeats 4000000 in
set_option maxRecDepth 100000 in
theorem c_X11_readAbove (l : Launch) (D : va_G) (T : Nat → ClassId) (A : Nat → Prop) (a_o : Nat → Nat) (Z : va_W)  (x_o : Ob) (p1 : Int32) (x_o9 : Ob) (h : f_X11_readAbove x_o p1 = some x_o9) : Met l yX11_readAbove (Cond.code yX11_readAbove cX11_readAbove 5 none :: wsL_law) (rmd 3) (Pg D T A (oc_X11 T a_o x_o ++ Z) [.ref (a_o 0), .int p1]) (Qgv D A (oc_X11 T a_o x_o9 ++ Z)) 0 0 A := by
  refine Met.ofW (cc := cX11_readAbove) (maxL := 5) (ret := none) (by decide +kernel) rfl ?_
  intro p e s m args below meth c s₁ B hml hv
  obtain ⟨ha, hP, hK, hD, hN⟩ := hv
  have hx := B.exec
  have hb := B.bytes
  have hr := B.returns
  have hlk := B.notSynchronized
  have hts : ∀ w ∈ wsL_law, w.before args s = true := fun w hw => atoms_spec B.pre w (List.mem_cons_of_mem _ hw)
  have hown : s.vm.findClass RX11 = some m.cls := findClass_of_methodNamed B.named
  have hW : Wd D A s.heap (oc_X11 T a_o x_o ++ Z) s.heap [] := ⟨hP, hD, va_S.rf⟩
  have hl := lv_entry [.ref (a_o 0), .int p1] (n := 5) (Nat.le_of_ble_eq_true rfl)
  refine W.eq (en_eq ha) ?_
  generalize (lg_sl [.ref (a_o 0), .int p1] ++ List.replicate (5 - (lg_sl [.ref (a_o 0), .int p1]).length) Slot.unset).toArray = ls at hl ⊢
  have hl : lv_has ls 5 [(0, .ref (a_o 0)), (1, .int p1)] := hl
  clear hP hD B ha
  obtain ⟨Q, hQ⟩ : ∃ Q, Q = MQ below (Qgv D A (oc_X11 T a_o x_o9 ++ Z)) args s 0 0 A := ⟨_, rfl⟩
  rw [← hQ]
  change W p l e (rmd 3) s m args below meth c s.heap [] 0 0 Q (F0 m 0 ls [])
  have L41 : ∀ (n : Nat) (x_o_41 : Ob) (v1_41 : Int32) (v2_41 : Int32) (v3_41 : Int32) (v4_41 : Int32) (H : Heap) (locs : List Loc) (ls : Array Slot) (o4_41r : Int32) (y_o_41r : Ob), Wd D A s.heap (oc_X11 T a_o x_o_41 ++ Z) H locs → lv_has ls 5 [(0, .ref (a_o 0)), (1, .int v1_41), (2, .int v2_41), (3, .int v3_41), (4, .int v4_41)] → f_X11_readAbove_L41 n x_o_41 v1_41 v2_41 v3_41 v4_41 = some (o4_41r, y_o_41r) → (∀ (H : Heap) (locs : List Loc) (ls : Array Slot), Wd D A s.heap (oc_X11 T a_o y_o_41r ++ Z) H locs → lv_has ls 5 [(0, .ref (a_o 0)), (1, .int v1_41), (2, .int v2_41), (3, .int v3_41)] → W p l e (rmd 3) s m args below meth c H locs 0 0 Q (F0 m 103 ls [])) → W p l e (rmd 3) s m args below meth c H locs 0 0 Q (F0 m 41 ls []) := by
    intro n
    induction n with
    | zero =>
      intro x_o_41 v1_41 v2_41 v3_41 v4_41 H locs ls o4_41r y_o_41r hW hl h k1
      rw [f_X11_readAbove_L41] at h
      cases h
    | succ n ih =>
      intro x_o_41 v1_41 v2_41 v3_41 v4_41 H locs ls o4_41r y_o_41r hW hl h k1
      rw [f_X11_readAbove_L41] at h
      refine lv_iload hx hb dX11_readAbove_41 (lv_at hl 4 rfl) ?_
      refine lv_aload_n hx hb dX11_readAbove_43 rfl (lv_at hl 0 rfl) ?_
      refine fg_X11_117 (v := .ref (a_o 36)) hx hb hts hown hK hW 0 rfl rfl dX11_readAbove_44 ?_
      refine lv_iload_n hx hb dX11_readAbove_47 rfl (lv_at hl 1 rfl) ?_
      obtain ⟨g9, h⟩ := grd_s h
      refine g_iald hx hb hK hW 36 rfl g9 dX11_readAbove_48 ?_
      refine lv_icmp_ge (tgt := 103) hx hb dX11_readAbove_49 (by decide) (fun c10 => ?_) (fun c10 => ?_)
      · have h := ite_t c10 h
        obtain ⟨rfl, rfl⟩ := ret2 h
        exact k1 H locs ls hW (lv_sub hl [0, 1, 2, 3] rfl)
      · have h := ite_f c10 h
        refine lv_aload_n hx hb dX11_readAbove_52 rfl (lv_at hl 0 rfl) ?_
        refine fg_X11_96 (v := .ref (a_o 29)) hx hb hts hown hK hW 0 rfl rfl dX11_readAbove_53 ?_
        refine lv_aload_n hx hb dX11_readAbove_56 rfl (lv_at hl 0 rfl) ?_
        refine fg_X11_120 (v := .ref (a_o 37)) hx hb hts hown hK hW 0 rfl rfl dX11_readAbove_57 ?_
        refine lv_bipush (v := 8) hx hb dX11_readAbove_60 (by decide) ?_
        refine lv_iload_n hx hb dX11_readAbove_62 rfl (lv_at hl 1 rfl) ?_
        refine lv_imul hx hb dX11_readAbove_63 ?_
        refine lv_iload hx hb dX11_readAbove_64 (lv_at hl 4 rfl) ?_
        refine lv_iadd hx hb dX11_readAbove_66 ?_
        obtain ⟨g11, h⟩ := grd_s h
        refine g_iald hx hb hK hW 37 rfl g11 dX11_readAbove_67 ?_
        obtain ⟨g12, h⟩ := grd_s h
        refine g_iald hx hb hK hW 29 rfl g12 dX11_readAbove_68 ?_
        refine lv_aload_n hx hb dX11_readAbove_69 rfl (lv_at hl 0 rfl) ?_
        refine fg_X11_71 (v := .ref (a_o 21)) hx hb hts hown hK hW 0 rfl rfl dX11_readAbove_70 ?_
        refine lv_iload_n hx hb dX11_readAbove_73 rfl (lv_at hl 3 rfl) ?_
        obtain ⟨g13, h⟩ := grd_s h
        refine g_iald hx hb hK hW 21 rfl g13 dX11_readAbove_74 ?_
        refine lv_icmp_ne (tgt := 97) hx hb dX11_readAbove_75 (by decide) (fun c14 => ?_) (fun c14 => ?_)
        · have h := ite_f c14 h
          obtain ⟨w4_15, ew4_15⟩ : ∃ y : Int32, y = v4_41 + 1 := ⟨_, rfl⟩
          have h := lb_at ew4_15 h
          refine lv_iinc (v := w4_15) (lv' := [(4, .int w4_15), (0, .ref (a_o 0)), (1, .int v1_41), (2, .int v2_41), (3, .int v3_41)]) hx hb dX11_readAbove_97 hl (k := 4) rfl (by rw [ew4_15]; rfl) (by decide) rfl (fun ls hl => ?_)
          refine lv_goto (tgt := 41) hx hb dX11_readAbove_100 (by decide) ?_
          exact ih _ _ _ _ _ H locs ls _ _ hW (lv_sub hl [1, 2, 3, 4, 0] rfl) h k1
        · have h := ite_t c14 h
          refine lv_aload_n hx hb dX11_readAbove_78 rfl (lv_at hl 0 rfl) ?_
          refine lv_iload_n hx hb dX11_readAbove_79 rfl (lv_at hl 1 rfl) ?_
          refine lv_iload_n hx hb dX11_readAbove_80 rfl (lv_at hl 3 rfl) ?_
          refine lv_aload_n hx hb dX11_readAbove_81 rfl (lv_at hl 0 rfl) ?_
          refine fg_X11_120 (v := .ref (a_o 37)) hx hb hts hown hK hW 0 rfl rfl dX11_readAbove_82 ?_
          refine lv_bipush (v := 8) hx hb dX11_readAbove_85 (by decide) ?_
          refine lv_iload_n hx hb dX11_readAbove_87 rfl (lv_at hl 1 rfl) ?_
          refine lv_imul hx hb dX11_readAbove_88 ?_
          refine lv_iload hx hb dX11_readAbove_89 (lv_at hl 4 rfl) ?_
          refine lv_iadd hx hb dX11_readAbove_91 ?_
          obtain ⟨g16, h⟩ := grd_s h
          refine g_iald hx hb hK hW 37 rfl g16 dX11_readAbove_92 ?_
          refine lv_iconst (v := (-1)) hx hb dX11_readAbove_93 (by decide) ?_
          obtain ⟨x_o17, q18, h⟩ := bnd1_s h
          refine cl_X11_282 hx hb hml hown hts hK hN hW (c_X11_tryRule l D T A a_o (Z) x_o_41 v1_41 v3_41 (x_o_41 40 ((8 * v1_41) + v4_41).toNatClampNeg) (-1) x_o17 q18) ⟨Nat.le_of_ble_eq_true rfl, Nat.le_of_ble_eq_true rfl⟩ hl.1 rfl (Nat.le_of_ble_eq_true rfl) dX11_readAbove_94 ⟨Nat.zero_le _, Nat.zero_le _⟩ rfl (fun H locs hW => ?_)
          obtain ⟨w4_19, ew4_19⟩ : ∃ y : Int32, y = v4_41 + 1 := ⟨_, rfl⟩
          have h := lb_at ew4_19 h
          refine lv_iinc (v := w4_19) (lv' := [(4, .int w4_19), (0, .ref (a_o 0)), (1, .int v1_41), (2, .int v2_41), (3, .int v3_41)]) hx hb dX11_readAbove_97 hl (k := 4) rfl (by rw [ew4_19]; rfl) (by decide) rfl (fun ls hl => ?_)
          refine lv_goto (tgt := 41) hx hb dX11_readAbove_100 (by decide) ?_
          exact ih _ _ _ _ _ H locs ls _ _ hW (lv_sub hl [1, 2, 3, 4, 0] rfl) h k1
  have L10 : ∀ (n : Nat) (x_o_10 : Ob) (v1_10 : Int32) (v2_10 : Int32) (v3_10 : Int32) (H : Heap) (locs : List Loc) (ls : Array Slot) (o3_10r : Int32) (y_o_10r : Ob), Wd D A s.heap (oc_X11 T a_o x_o_10 ++ Z) H locs → lv_has ls 5 [(0, .ref (a_o 0)), (1, .int v1_10), (2, .int v2_10), (3, .int v3_10)] → f_X11_readAbove_L10 n x_o_10 v1_10 v2_10 v3_10 = some (o3_10r, y_o_10r) → (∀ (H : Heap) (locs : List Loc) (ls : Array Slot), Wd D A s.heap (oc_X11 T a_o y_o_10r ++ Z) H locs → lv_has ls 5 [(0, .ref (a_o 0)), (1, .int v1_10), (2, .int v2_10)] → W p l e (rmd 3) s m args below meth c H locs 0 0 Q (F0 m 109 ls [])) → W p l e (rmd 3) s m args below meth c H locs 0 0 Q (F0 m 10 ls []) := by
    intro n
    induction n with
    | zero =>
      intro x_o_10 v1_10 v2_10 v3_10 H locs ls o3_10r y_o_10r hW hl h k1
      rw [f_X11_readAbove_L10] at h
      cases h
    | succ n ih =>
      intro x_o_10 v1_10 v2_10 v3_10 H locs ls o3_10r y_o_10r hW hl h k1
      rw [f_X11_readAbove_L10] at h
      refine lv_iload_n hx hb dX11_readAbove_10 rfl (lv_at hl 3 rfl) ?_
      refine lv_aload_n hx hb dX11_readAbove_11 rfl (lv_at hl 0 rfl) ?_
      refine fg_X11_262 (v := .int (x_o_10 21 0)) hx hb hts hown hK hW 0 rfl rfl dX11_readAbove_12 ?_
      refine lv_icmp_ge (tgt := 109) hx hb dX11_readAbove_15 (by decide) (fun c2 => ?_) (fun c2 => ?_)
      · have h := ite_t c2 h
        obtain ⟨rfl, rfl⟩ := ret2 h
        exact k1 H locs ls hW (lv_sub hl [0, 1, 2] rfl)
      · have h := ite_f c2 h
        refine lv_aload_n hx hb dX11_readAbove_18 rfl (lv_at hl 0 rfl) ?_
        refine fg_X11_74 (v := .ref (a_o 22)) hx hb hts hown hK hW 0 rfl rfl dX11_readAbove_19 ?_
        refine lv_iload_n hx hb dX11_readAbove_22 rfl (lv_at hl 3 rfl) ?_
        obtain ⟨g3, h⟩ := grd_s h
        refine g_iald hx hb hK hW 22 rfl g3 dX11_readAbove_23 ?_
        refine lv_iconst (v := (-1)) hx hb dX11_readAbove_24 (by decide) ?_
        refine lv_icmp_ne (tgt := 103) hx hb dX11_readAbove_25 (by decide) (fun c4 => ?_) (fun c4 => ?_)
        · have h := ite_f c4 h
          obtain ⟨w3_5, ew3_5⟩ : ∃ y : Int32, y = v3_10 + 1 := ⟨_, rfl⟩
          have h := lb_at ew3_5 h
          refine lv_iinc (v := w3_5) (lv' := [(3, .int w3_5), (0, .ref (a_o 0)), (1, .int v1_10), (2, .int v2_10)]) hx hb dX11_readAbove_103 hl (k := 3) rfl (by rw [ew3_5]; rfl) (by decide) rfl (fun ls hl => ?_)
          refine lv_goto (tgt := 10) hx hb dX11_readAbove_106 (by decide) ?_
          exact ih _ _ _ _ H locs ls _ _ hW (lv_sub hl [1, 2, 3, 0] rfl) h k1
        · have h := ite_t c4 h
          refine lv_aload_n hx hb dX11_readAbove_28 rfl (lv_at hl 0 rfl) ?_
          refine fg_X11_68 (v := .ref (a_o 20)) hx hb hts hown hK hW 0 rfl rfl dX11_readAbove_29 ?_
          refine lv_iload_n hx hb dX11_readAbove_32 rfl (lv_at hl 3 rfl) ?_
          obtain ⟨g6, h⟩ := grd_s h
          refine g_iald hx hb hK hW 20 rfl g6 dX11_readAbove_33 ?_
          refine lv_iload_n hx hb dX11_readAbove_34 rfl (lv_at hl 2 rfl) ?_
          refine lv_icmp_ne (tgt := 103) hx hb dX11_readAbove_35 (by decide) (fun c7 => ?_) (fun c7 => ?_)
          · have h := ite_f c7 h
            obtain ⟨w3_8, ew3_8⟩ : ∃ y : Int32, y = v3_10 + 1 := ⟨_, rfl⟩
            have h := lb_at ew3_8 h
            refine lv_iinc (v := w3_8) (lv' := [(3, .int w3_8), (0, .ref (a_o 0)), (1, .int v1_10), (2, .int v2_10)]) hx hb dX11_readAbove_103 hl (k := 3) rfl (by rw [ew3_8]; rfl) (by decide) rfl (fun ls hl => ?_)
            refine lv_goto (tgt := 10) hx hb dX11_readAbove_106 (by decide) ?_
            exact ih _ _ _ _ H locs ls _ _ hW (lv_sub hl [1, 2, 3, 0] rfl) h k1
          · have h := ite_t c7 h
            refine lv_iconst (v := 0) hx hb dX11_readAbove_38 (by decide) ?_
            refine lv_istore (lv' := [(4, .int 0), (0, .ref (a_o 0)), (1, .int v1_10), (2, .int v2_10), (3, .int v3_10)]) hx hb dX11_readAbove_39 hl (by decide) rfl (fun ls hl => ?_)
            obtain ⟨o4_u20, y_o_u20, q21, h⟩ := bnd2_s h
            refine L41 200 _ _ _ _ _ H locs ls o4_u20 y_o_u20 hW (lv_sub hl [1, 2, 3, 4, 0] rfl) q21 (fun H locs ls hW hl => ?_)
            obtain ⟨w3_22, ew3_22⟩ : ∃ y : Int32, y = v3_10 + 1 := ⟨_, rfl⟩
            have h := lb_at ew3_22 h
            refine lv_iinc (v := w3_22) (lv' := [(3, .int w3_22), (0, .ref (a_o 0)), (1, .int v1_10), (2, .int v2_10)]) hx hb dX11_readAbove_103 hl (k := 3) rfl (by rw [ew3_22]; rfl) (by decide) rfl (fun ls hl => ?_)
            refine lv_goto (tgt := 10) hx hb dX11_readAbove_106 (by decide) ?_
            exact ih _ _ _ _ H locs ls _ _ hW (lv_sub hl [1, 2, 3, 0] rfl) h k1
  have L2 : ∀ (n : Nat) (x_o_2 : Ob) (v1_2 : Int32) (v2_2 : Int32) (H : Heap) (locs : List Loc) (ls : Array Slot) (o2_2r : Int32) (y_o_2r : Ob), Wd D A s.heap (oc_X11 T a_o x_o_2 ++ Z) H locs → lv_has ls 5 [(0, .ref (a_o 0)), (1, .int v1_2), (2, .int v2_2)] → f_X11_readAbove_L2 n x_o_2 v1_2 v2_2 = some (o2_2r, y_o_2r) → (∀ (H : Heap) (locs : List Loc) (ls : Array Slot), Wd D A s.heap (oc_X11 T a_o y_o_2r ++ Z) H locs → lv_has ls 5 [] → W p l e (rmd 3) s m args below meth c H locs 0 0 Q (F0 m 115 ls [])) → W p l e (rmd 3) s m args below meth c H locs 0 0 Q (F0 m 2 ls []) := by
    intro n
    induction n with
    | zero =>
      intro x_o_2 v1_2 v2_2 H locs ls o2_2r y_o_2r hW hl h k1
      rw [f_X11_readAbove_L2] at h
      cases h
    | succ n ih =>
      intro x_o_2 v1_2 v2_2 H locs ls o2_2r y_o_2r hW hl h k1
      rw [f_X11_readAbove_L2] at h
      refine lv_iload_n hx hb dX11_readAbove_2 rfl (lv_at hl 2 rfl) ?_
      refine lv_bipush (v := 10) hx hb dX11_readAbove_3 (by decide) ?_
      refine lv_icmp_ge (tgt := 115) hx hb dX11_readAbove_5 (by decide) (fun c1 => ?_) (fun c1 => ?_)
      · have h := ite_t c1 h
        obtain ⟨rfl, rfl⟩ := ret2 h
        exact k1 H locs ls hW (lv_sub hl [] rfl)
      · have h := ite_f c1 h
        refine lv_iconst (v := 0) hx hb dX11_readAbove_8 (by decide) ?_
        refine lv_istore_n (lv' := [(3, .int 0), (0, .ref (a_o 0)), (1, .int v1_2), (2, .int v2_2)]) hx hb dX11_readAbove_9 rfl hl (by decide) rfl (fun ls hl => ?_)
        obtain ⟨o3_u23, y_o_u23, q24, h⟩ := bnd2_s h
        refine L10 200 _ _ _ _ H locs ls o3_u23 y_o_u23 hW (lv_sub hl [1, 2, 3, 0] rfl) q24 (fun H locs ls hW hl => ?_)
        obtain ⟨w2_25, ew2_25⟩ : ∃ y : Int32, y = v2_2 + 1 := ⟨_, rfl⟩
        have h := lb_at ew2_25 h
        refine lv_iinc (v := w2_25) (lv' := [(2, .int w2_25), (0, .ref (a_o 0)), (1, .int v1_2)]) hx hb dX11_readAbove_109 hl (k := 2) rfl (by rw [ew2_25]; rfl) (by decide) rfl (fun ls hl => ?_)
        refine lv_goto (tgt := 2) hx hb dX11_readAbove_112 (by decide) ?_
        exact ih _ _ _ H locs ls _ _ hW (lv_sub hl [1, 2, 0] rfl) h k1
  rw [f_X11_readAbove] at h
  suffices hm : ∀ (H : Heap) (locs : List Loc), Wd D A s.heap (oc_X11 T a_o x_o ++ Z) H locs → W p l e (rmd 3) s m args below meth c H locs 0 0 Q (F0 m 0 ls []) from hm _ _ hW
  intro H locs hW
  refine lv_iconst (v := 0) hx hb dX11_readAbove_0 (by decide) ?_
  refine lv_istore_n (lv' := [(2, .int 0), (0, .ref (a_o 0)), (1, .int p1)]) hx hb dX11_readAbove_1 rfl hl (by decide) rfl (fun ls hl => ?_)
  obtain ⟨o2_u26, y_o_u26, q27, h⟩ := bnd2_s h
  refine L2 200 _ _ _ H locs ls o2_u26 y_o_u26 hW (lv_sub hl [1, 2, 0] rfl) q27 (fun H locs ls hW hl => ?_)
  obtain rfl := ret1 h
  rw [hQ]
  exact g_retv hx hb hr hlk hW dX11_readAbove_115
set_option maxHeartbeats 4000000 in
set_option maxRecDepth 100000 in
theorem c_X11_chart (l : Launch) (D : va_G) (T : Nat → ClassId) (A : Nat → Prop) (a_o : Nat → Nat) (Z : va_W)  (x_o : Ob) (p1 : Int32) (x_o9 : Ob) (h : f_X11_chart x_o p1 = some x_o9) : Met l yX11_chart (Cond.code yX11_chart cX11_chart 4 none :: wsL_law) (rmd 5) (Pg D T A (oc_X11 T a_o x_o ++ Z) [.ref (a_o 0), .int p1]) (Qgv D A (oc_X11 T a_o x_o9 ++ Z)) 0 0 A := by
  refine Met.ofW (cc := cX11_chart) (maxL := 4) (ret := none) (by decide +kernel) rfl ?_
  intro p e s m args below meth c s₁ B hml hv
  obtain ⟨ha, hP, hK, hD, hN⟩ := hv
  have hx := B.exec
  have hb := B.bytes
  have hr := B.returns
  have hlk := B.notSynchronized
  have hts : ∀ w ∈ wsL_law, w.before args s = true := fun w hw => atoms_spec B.pre w (List.mem_cons_of_mem _ hw)
  have hown : s.vm.findClass RX11 = some m.cls := findClass_of_methodNamed B.named
  have hW : Wd D A s.heap (oc_X11 T a_o x_o ++ Z) s.heap [] := ⟨hP, hD, va_S.rf⟩
  have hl := lv_entry [.ref (a_o 0), .int p1] (n := 4) (Nat.le_of_ble_eq_true rfl)
  refine W.eq (en_eq ha) ?_
  generalize (lg_sl [.ref (a_o 0), .int p1] ++ List.replicate (4 - (lg_sl [.ref (a_o 0), .int p1]).length) Slot.unset).toArray = ls at hl ⊢
  have hl : lv_has ls 4 [(0, .ref (a_o 0)), (1, .int p1)] := hl
  clear hP hD B ha
  obtain ⟨Q, hQ⟩ : ∃ Q, Q = MQ below (Qgv D A (oc_X11 T a_o x_o9 ++ Z)) args s 0 0 A := ⟨_, rfl⟩
  rw [← hQ]
  change W p l e (rmd 5) s m args below meth c s.heap [] 0 0 Q (F0 m 0 ls [])
  have L12 : ∀ (n : Nat) (x_o_12 : Ob) (v1_12 : Int32) (v2_12 : Int32) (H : Heap) (locs : List Loc) (ls : Array Slot) (o2_12r : Int32) (y_o_12r : Ob), Wd D A s.heap (oc_X11 T a_o x_o_12 ++ Z) H locs → lv_has ls 4 [(0, .ref (a_o 0)), (1, .int v1_12), (2, .int v2_12)] → f_X11_chart_L12 n x_o_12 v1_12 v2_12 = some (o2_12r, y_o_12r) → (∀ (H : Heap) (locs : List Loc) (ls : Array Slot), Wd D A s.heap (oc_X11 T a_o y_o_12r ++ Z) H locs → lv_has ls 4 [(0, .ref (a_o 0)), (1, .int v1_12)] → W p l e (rmd 5) s m args below meth c H locs 0 0 Q (F0 m 31 ls [])) → W p l e (rmd 5) s m args below meth c H locs 0 0 Q (F0 m 12 ls []) := by
    intro n
    induction n with
    | zero =>
      intro x_o_12 v1_12 v2_12 H locs ls o2_12r y_o_12r hW hl h k1
      rw [f_X11_chart_L12] at h
      cases h
    | succ n ih =>
      intro x_o_12 v1_12 v2_12 H locs ls o2_12r y_o_12r hW hl h k1
      rw [f_X11_chart_L12] at h
      refine lv_iload_n hx hb dX11_chart_12 rfl (lv_at hl 2 rfl) ?_
      refine lv_bipush (v := 36) hx hb dX11_chart_13 (by decide) ?_
      refine lv_icmp_ge (tgt := 31) hx hb dX11_chart_15 (by decide) (fun c4 => ?_) (fun c4 => ?_)
      · have h := ite_t c4 h
        obtain ⟨rfl, rfl⟩ := ret2 h
        exact k1 H locs ls hW (lv_sub hl [0, 1] rfl)
      · have h := ite_f c4 h
        refine lv_aload_n hx hb dX11_chart_18 rfl (lv_at hl 0 rfl) ?_
        refine fg_X11_117 (v := .ref (a_o 36)) hx hb hts hown hK hW 0 rfl rfl dX11_chart_19 ?_
        refine lv_iload_n hx hb dX11_chart_22 rfl (lv_at hl 2 rfl) ?_
        refine lv_iconst (v := 0) hx hb dX11_chart_23 (by decide) ?_
        obtain ⟨g5, h⟩ := grd_s h
        refine g_iast (ws9 := oc_X11 T a_o (upo x_o_12 39 v2_12.toNatClampNeg 0) ++ Z) hx hb hK hW 36 rfl g5 sa_X11_39 dX11_chart_24 (fun H locs hW => ?_)
        obtain ⟨x_o6, ex_o6⟩ : ∃ y : Ob, y = upo x_o_12 39 v2_12.toNatClampNeg 0 := ⟨_, rfl⟩
        rw [← ex_o6] at hW
        have h := lb_at ex_o6 h
        obtain ⟨w2_7, ew2_7⟩ : ∃ y : Int32, y = v2_12 + 1 := ⟨_, rfl⟩
        have h := lb_at ew2_7 h
        refine lv_iinc (v := w2_7) (lv' := [(2, .int w2_7), (0, .ref (a_o 0)), (1, .int v1_12)]) hx hb dX11_chart_25 hl (k := 2) rfl (by rw [ew2_7]; rfl) (by decide) rfl (fun ls hl => ?_)
        refine lv_goto (tgt := 12) hx hb dX11_chart_28 (by decide) ?_
        exact ih _ _ _ H locs ls _ _ hW (lv_sub hl [1, 2, 0] rfl) h k1
  have L45 : ∀ (n : Nat) (x_o_45 : Ob) (v1_45 : Int32) (v2_45 : Int32) (v3_45 : Int32) (H : Heap) (locs : List Loc) (ls : Array Slot) (o3_45r : Int32) (y_o_45r : Ob), Wd D A s.heap (oc_X11 T a_o x_o_45 ++ Z) H locs → lv_has ls 4 [(0, .ref (a_o 0)), (1, .int v1_45), (2, .int v2_45), (3, .int v3_45)] → f_X11_chart_L45 n x_o_45 v1_45 v2_45 v3_45 = some (o3_45r, y_o_45r) → (∀ (H : Heap) (locs : List Loc) (ls : Array Slot), Wd D A s.heap (oc_X11 T a_o y_o_45r ++ Z) H locs → lv_has ls 4 [(0, .ref (a_o 0)), (1, .int v1_45), (2, .int v2_45)] → W p l e (rmd 5) s m args below meth c H locs 0 0 Q (F0 m 95 ls [])) → W p l e (rmd 5) s m args below meth c H locs 0 0 Q (F0 m 45 ls []) := by
    intro n
    induction n with
    | zero =>
      intro x_o_45 v1_45 v2_45 v3_45 H locs ls o3_45r y_o_45r hW hl h k1
      rw [f_X11_chart_L45] at h
      cases h
    | succ n ih =>
      intro x_o_45 v1_45 v2_45 v3_45 H locs ls o3_45r y_o_45r hW hl h k1
      rw [f_X11_chart_L45] at h
      refine lv_iload_n hx hb dX11_chart_45 rfl (lv_at hl 3 rfl) ?_
      refine lv_iload_n hx hb dX11_chart_46 rfl (lv_at hl 2 rfl) ?_
      refine lv_iadd hx hb dX11_chart_47 ?_
      refine lv_aload_n hx hb dX11_chart_48 rfl (lv_at hl 0 rfl) ?_
      refine fg_X11_34 (v := .ref (a_o 9)) hx hb hts hown hK hW 0 rfl rfl dX11_chart_49 ?_
      refine lv_iload_n hx hb dX11_chart_52 rfl (lv_at hl 1 rfl) ?_
      obtain ⟨g12, h⟩ := grd_s h
      refine g_iald hx hb hK hW 9 rfl g12 dX11_chart_53 ?_
      refine lv_icmp_gt (tgt := 95) hx hb dX11_chart_54 (by decide) (fun c13 => ?_) (fun c13 => ?_)
      · have h := ite_t c13 h
        obtain ⟨rfl, rfl⟩ := ret2 h
        exact k1 H locs ls hW (lv_sub hl [0, 1, 2] rfl)
      · have h := ite_f c13 h
        refine lv_iload_n hx hb dX11_chart_57 rfl (lv_at hl 2 rfl) ?_
        refine lv_iconst (v := 1) hx hb dX11_chart_58 (by decide) ?_
        refine lv_icmp_ne (tgt := 71) hx hb dX11_chart_59 (by decide) (fun c14 => ?_) (fun c14 => ?_)
        · have h := ite_f c14 h
          refine lv_aload_n hx hb dX11_chart_71 rfl (lv_at hl 0 rfl) ?_
          refine lv_iload_n hx hb dX11_chart_72 rfl (lv_at hl 3 rfl) ?_
          refine lv_iload_n hx hb dX11_chart_73 rfl (lv_at hl 2 rfl) ?_
          obtain ⟨x_o15, q16, h⟩ := bnd1_s h
          refine cl_X11_292 hx hb hml hown hts hK hN hW (c_X11_readLonger l D T A a_o (Z) x_o_45 v3_45 v2_45 x_o15 q16) ⟨Nat.le_of_ble_eq_true rfl, Nat.le_of_ble_eq_true rfl⟩ hl.1 rfl (Nat.le_of_ble_eq_true rfl) dX11_chart_74 ⟨Nat.zero_le _, Nat.zero_le _⟩ rfl (fun H locs hW => ?_)
          refine lv_aload_n hx hb dX11_chart_77 rfl (lv_at hl 0 rfl) ?_
          refine lv_bipush (v := 6) hx hb dX11_chart_78 (by decide) ?_
          refine lv_iload_n hx hb dX11_chart_80 rfl (lv_at hl 3 rfl) ?_
          refine lv_imul hx hb dX11_chart_81 ?_
          refine lv_iload_n hx hb dX11_chart_82 rfl (lv_at hl 2 rfl) ?_
          refine lv_iadd hx hb dX11_chart_83 ?_
          refine lv_iconst (v := 1) hx hb dX11_chart_84 (by decide) ?_
          refine lv_isub hx hb dX11_chart_85 ?_
          obtain ⟨x_o17, q18, h⟩ := bnd1_s h
          refine cl_X11_295 hx hb hml hown hts hK hN hW (c_X11_readAbove l D T A a_o (Z) x_o15 (((6 * v3_45) + v2_45) - 1) x_o17 q18) ⟨Nat.le_of_ble_eq_true rfl, Nat.le_of_ble_eq_true rfl⟩ hl.1 rfl (Nat.le_of_ble_eq_true rfl) dX11_chart_86 ⟨Nat.zero_le _, Nat.zero_le _⟩ rfl (fun H locs hW => ?_)
          obtain ⟨w3_19, ew3_19⟩ : ∃ y : Int32, y = v3_45 + 1 := ⟨_, rfl⟩
          have h := lb_at ew3_19 h
          refine lv_iinc (v := w3_19) (lv' := [(3, .int w3_19), (0, .ref (a_o 0)), (1, .int v1_45), (2, .int v2_45)]) hx hb dX11_chart_89 hl (k := 3) rfl (by rw [ew3_19]; rfl) (by decide) rfl (fun ls hl => ?_)
          refine lv_goto (tgt := 45) hx hb dX11_chart_92 (by decide) ?_
          exact ih _ _ _ _ H locs ls _ _ hW (lv_sub hl [1, 2, 3, 0] rfl) h k1
        · have h := ite_t c14 h
          refine lv_aload_n hx hb dX11_chart_62 rfl (lv_at hl 0 rfl) ?_
          refine lv_iload_n hx hb dX11_chart_63 rfl (lv_at hl 1 rfl) ?_
          refine lv_iload_n hx hb dX11_chart_64 rfl (lv_at hl 3 rfl) ?_
          obtain ⟨x_o20, q21, h⟩ := bnd1_s h
          refine cl_X11_289 hx hb hml hown hts hK hN hW (c_X11_readWord l D T A a_o (Z) x_o_45 v1_45 v3_45 x_o20 q21) ⟨Nat.le_of_ble_eq_true rfl, Nat.le_of_ble_eq_true rfl⟩ hl.1 rfl (Nat.le_of_ble_eq_true rfl) dX11_chart_65 ⟨Nat.zero_le _, Nat.zero_le _⟩ rfl (fun H locs hW => ?_)
          refine lv_goto (tgt := 77) hx hb dX11_chart_68 (by decide) ?_
          refine lv_aload_n hx hb dX11_chart_77 rfl (lv_at hl 0 rfl) ?_
          refine lv_bipush (v := 6) hx hb dX11_chart_78 (by decide) ?_
          refine lv_iload_n hx hb dX11_chart_80 rfl (lv_at hl 3 rfl) ?_
          refine lv_imul hx hb dX11_chart_81 ?_
          refine lv_iload_n hx hb dX11_chart_82 rfl (lv_at hl 2 rfl) ?_
          refine lv_iadd hx hb dX11_chart_83 ?_
          refine lv_iconst (v := 1) hx hb dX11_chart_84 (by decide) ?_
          refine lv_isub hx hb dX11_chart_85 ?_
          obtain ⟨x_o22, q23, h⟩ := bnd1_s h
          refine cl_X11_295 hx hb hml hown hts hK hN hW (c_X11_readAbove l D T A a_o (Z) x_o20 (((6 * v3_45) + v2_45) - 1) x_o22 q23) ⟨Nat.le_of_ble_eq_true rfl, Nat.le_of_ble_eq_true rfl⟩ hl.1 rfl (Nat.le_of_ble_eq_true rfl) dX11_chart_86 ⟨Nat.zero_le _, Nat.zero_le _⟩ rfl (fun H locs hW => ?_)
          obtain ⟨w3_24, ew3_24⟩ : ∃ y : Int32, y = v3_45 + 1 := ⟨_, rfl⟩
          have h := lb_at ew3_24 h
          refine lv_iinc (v := w3_24) (lv' := [(3, .int w3_24), (0, .ref (a_o 0)), (1, .int v1_45), (2, .int v2_45)]) hx hb dX11_chart_89 hl (k := 3) rfl (by rw [ew3_24]; rfl) (by decide) rfl (fun ls hl => ?_)
          refine lv_goto (tgt := 45) hx hb dX11_chart_92 (by decide) ?_
          exact ih _ _ _ _ H locs ls _ _ hW (lv_sub hl [1, 2, 3, 0] rfl) h k1
  have L33 : ∀ (n : Nat) (x_o_33 : Ob) (v1_33 : Int32) (v2_33 : Int32) (H : Heap) (locs : List Loc) (ls : Array Slot) (o2_33r : Int32) (y_o_33r : Ob), Wd D A s.heap (oc_X11 T a_o x_o_33 ++ Z) H locs → lv_has ls 4 [(0, .ref (a_o 0)), (1, .int v1_33), (2, .int v2_33)] → f_X11_chart_L33 n x_o_33 v1_33 v2_33 = some (o2_33r, y_o_33r) → (∀ (H : Heap) (locs : List Loc) (ls : Array Slot), Wd D A s.heap (oc_X11 T a_o y_o_33r ++ Z) H locs → lv_has ls 4 [] → W p l e (rmd 5) s m args below meth c H locs 0 0 Q (F0 m 101 ls [])) → W p l e (rmd 5) s m args below meth c H locs 0 0 Q (F0 m 33 ls []) := by
    intro n
    induction n with
    | zero =>
      intro x_o_33 v1_33 v2_33 H locs ls o2_33r y_o_33r hW hl h k1
      rw [f_X11_chart_L33] at h
      cases h
    | succ n ih =>
      intro x_o_33 v1_33 v2_33 H locs ls o2_33r y_o_33r hW hl h k1
      rw [f_X11_chart_L33] at h
      refine lv_iload_n hx hb dX11_chart_33 rfl (lv_at hl 2 rfl) ?_
      refine lv_aload_n hx hb dX11_chart_34 rfl (lv_at hl 0 rfl) ?_
      refine fg_X11_34 (v := .ref (a_o 9)) hx hb hts hown hK hW 0 rfl rfl dX11_chart_35 ?_
      refine lv_iload_n hx hb dX11_chart_38 rfl (lv_at hl 1 rfl) ?_
      obtain ⟨g10, h⟩ := grd_s h
      refine g_iald hx hb hK hW 9 rfl g10 dX11_chart_39 ?_
      refine lv_icmp_gt (tgt := 101) hx hb dX11_chart_40 (by decide) (fun c11 => ?_) (fun c11 => ?_)
      · have h := ite_t c11 h
        obtain ⟨rfl, rfl⟩ := ret2 h
        exact k1 H locs ls hW (lv_sub hl [] rfl)
      · have h := ite_f c11 h
        refine lv_iconst (v := 0) hx hb dX11_chart_43 (by decide) ?_
        refine lv_istore_n (lv' := [(3, .int 0), (0, .ref (a_o 0)), (1, .int v1_33), (2, .int v2_33)]) hx hb dX11_chart_44 rfl hl (by decide) rfl (fun ls hl => ?_)
        obtain ⟨o3_u25, y_o_u25, q26, h⟩ := bnd2_s h
        refine L45 200 _ _ _ _ H locs ls o3_u25 y_o_u25 hW (lv_sub hl [1, 2, 3, 0] rfl) q26 (fun H locs ls hW hl => ?_)
        obtain ⟨w2_27, ew2_27⟩ : ∃ y : Int32, y = v2_33 + 1 := ⟨_, rfl⟩
        have h := lb_at ew2_27 h
        refine lv_iinc (v := w2_27) (lv' := [(2, .int w2_27), (0, .ref (a_o 0)), (1, .int v1_33)]) hx hb dX11_chart_95 hl (k := 2) rfl (by rw [ew2_27]; rfl) (by decide) rfl (fun ls hl => ?_)
        refine lv_goto (tgt := 33) hx hb dX11_chart_98 (by decide) ?_
        exact ih _ _ _ H locs ls _ _ hW (lv_sub hl [1, 2, 0] rfl) h k1
  rw [f_X11_chart] at h
  suffices hm : ∀ (H : Heap) (locs : List Loc), Wd D A s.heap (oc_X11 T a_o x_o ++ Z) H locs → W p l e (rmd 5) s m args below meth c H locs 0 0 Q (F0 m 0 ls []) from hm _ _ hW
  intro H locs hW
  refine lv_aload_n hx hb dX11_chart_0 rfl (lv_at hl 0 rfl) ?_
  refine lv_iload_n hx hb dX11_chart_1 rfl (lv_at hl 1 rfl) ?_
  obtain ⟨x_o1, q2, h⟩ := bnd1_s h
  refine cl_X11_286 hx hb hml hown hts hK hN hW (c_X11_look l D T A a_o (Z) x_o p1 x_o1 q2) ⟨Nat.le_of_ble_eq_true rfl, Nat.le_of_ble_eq_true rfl⟩ hl.1 rfl (Nat.le_of_ble_eq_true rfl) dX11_chart_2 ⟨Nat.zero_le _, Nat.zero_le _⟩ rfl (fun H locs hW => ?_)
  refine lv_aload_n hx hb dX11_chart_5 rfl (lv_at hl 0 rfl) ?_
  refine lv_iconst (v := 0) hx hb dX11_chart_6 (by decide) ?_
  refine fp_X11_271 (ws9 := oc_X11 T a_o (upo x_o1 31 0 0) ++ Z) hx hb hts hown hK hW 0 rfl (Nat.le_of_ble_eq_true rfl) sf_X11_31 dX11_chart_7 (fun H locs hW => ?_)
  obtain ⟨x_o3, ex_o3⟩ : ∃ y : Ob, y = upo x_o1 31 0 0 := ⟨_, rfl⟩
  rw [← ex_o3] at hW
  have h := lb_at ex_o3 h
  refine lv_iconst (v := 0) hx hb dX11_chart_10 (by decide) ?_
  refine lv_istore_n (lv' := [(2, .int 0), (0, .ref (a_o 0)), (1, .int p1)]) hx hb dX11_chart_11 rfl hl (by decide) rfl (fun ls hl => ?_)
  obtain ⟨o2_u8, y_o_u8, q9, h⟩ := bnd2_s h
  refine L12 200 _ _ _ H locs ls o2_u8 y_o_u8 hW (lv_sub hl [1, 2, 0] rfl) q9 (fun H locs ls hW hl => ?_)
  refine lv_iconst (v := 1) hx hb dX11_chart_31 (by decide) ?_
  refine lv_istore_n (lv' := [(2, .int 1), (0, .ref (a_o 0)), (1, .int p1)]) hx hb dX11_chart_32 rfl hl (by decide) rfl (fun ls hl => ?_)
  obtain ⟨o2_u28, y_o_u28, q29, h⟩ := bnd2_s h
  refine L33 200 _ _ _ H locs ls o2_u28 y_o_u28 hW (lv_sub hl [1, 2, 0] rfl) q29 (fun H locs ls hW hl => ?_)
  obtain rfl := ret1 h
  rw [hQ]
  exact g_retv hx hb hr hlk hW dX11_chart_101
set_option maxHeartbeats 4000000 in
set_option maxRecDepth 100000 in
theorem c_X11_need (l : Launch) (D : va_G) (T : Nat → ClassId) (A : Nat → Prop) (a_o : Nat → Nat) (Z : va_W)  (x_o : Ob) (p1 : Int32) (x_o9 : Ob) (h : f_X11_need x_o p1 = some x_o9) : Met l yX11_need (Cond.code yX11_need cX11_need 4 none :: wsL_law) (rmd 6) (Pg D T A (oc_X11 T a_o x_o ++ Z) [.ref (a_o 0), .int p1]) (Qgv D A (oc_X11 T a_o x_o9 ++ Z)) 0 0 A := by
  refine Met.ofW (cc := cX11_need) (maxL := 4) (ret := none) (by decide +kernel) rfl ?_
  intro p e s m args below meth c s₁ B hml hv
  obtain ⟨ha, hP, hK, hD, hN⟩ := hv
  have hx := B.exec
  have hb := B.bytes
  have hr := B.returns
  have hlk := B.notSynchronized
  have hts : ∀ w ∈ wsL_law, w.before args s = true := fun w hw => atoms_spec B.pre w (List.mem_cons_of_mem _ hw)
  have hown : s.vm.findClass RX11 = some m.cls := findClass_of_methodNamed B.named
  have hW : Wd D A s.heap (oc_X11 T a_o x_o ++ Z) s.heap [] := ⟨hP, hD, va_S.rf⟩
  have hl := lv_entry [.ref (a_o 0), .int p1] (n := 4) (Nat.le_of_ble_eq_true rfl)
  refine W.eq (en_eq ha) ?_
  generalize (lg_sl [.ref (a_o 0), .int p1] ++ List.replicate (4 - (lg_sl [.ref (a_o 0), .int p1]).length) Slot.unset).toArray = ls at hl ⊢
  have hl : lv_has ls 4 [(0, .ref (a_o 0)), (1, .int p1)] := hl
  clear hP hD B ha
  obtain ⟨Q, hQ⟩ : ∃ Q, Q = MQ below (Qgv D A (oc_X11 T a_o x_o9 ++ Z)) args s 0 0 A := ⟨_, rfl⟩
  rw [← hQ]
  change W p l e (rmd 6) s m args below meth c s.heap [] 0 0 Q (F0 m 0 ls [])
  have L44 : ∀ (n : Nat) (x_o_44 : Ob) (v1_44 : Int32) (v2_44 : Int32) (v3_44 : Int32) (H : Heap) (locs : List Loc) (ls : Array Slot) (o2_44r : Int32) (o3_44r : Int32), Wd D A s.heap (oc_X11 T a_o x_o_44 ++ Z) H locs → lv_has ls 4 [(0, .ref (a_o 0)), (1, .int v1_44), (2, .int v2_44), (3, .int v3_44)] → f_X11_need_L44 n x_o_44 v1_44 v2_44 v3_44 = some (o2_44r, o3_44r) → (∀ (H : Heap) (locs : List Loc) (ls : Array Slot), Wd D A s.heap (oc_X11 T a_o x_o_44 ++ Z) H locs → lv_has ls 4 [(0, .ref (a_o 0)), (1, .int v1_44), (2, .int o2_44r)] → W p l e (rmd 6) s m args below meth c H locs 0 0 Q (F0 m 105 ls [])) → W p l e (rmd 6) s m args below meth c H locs 0 0 Q (F0 m 44 ls []) := by
    intro n
    induction n with
    | zero =>
      intro x_o_44 v1_44 v2_44 v3_44 H locs ls o2_44r o3_44r hW hl h k1
      rw [f_X11_need_L44] at h
      cases h
    | succ n ih =>
      intro x_o_44 v1_44 v2_44 v3_44 H locs ls o2_44r o3_44r hW hl h k1
      rw [f_X11_need_L44] at h
      refine lv_iload_n hx hb dX11_need_44 rfl (lv_at hl 3 rfl) ?_
      refine lv_bipush (v := 6) hx hb dX11_need_45 (by decide) ?_
      refine lv_iload_n hx hb dX11_need_47 rfl (lv_at hl 1 rfl) ?_
      refine lv_imul hx hb dX11_need_48 ?_
      refine lv_aload_n hx hb dX11_need_49 rfl (lv_at hl 0 rfl) ?_
      refine fg_X11_34 (v := .ref (a_o 9)) hx hb hts hown hK hW 0 rfl rfl dX11_need_50 ?_
      refine lv_iload_n hx hb dX11_need_53 rfl (lv_at hl 1 rfl) ?_
      obtain ⟨g6, h⟩ := grd_s h
      refine g_iald hx hb hK hW 9 rfl g6 dX11_need_54 ?_
      refine lv_iadd hx hb dX11_need_55 ?_
      refine lv_icmp_ge (tgt := 105) hx hb dX11_need_56 (by decide) (fun c7 => ?_) (fun c7 => ?_)
      · have h := ite_t c7 h
        obtain ⟨rfl, rfl⟩ := ret2 h
        exact k1 H locs ls hW (lv_sub hl [0, 1, 2] rfl)
      · have h := ite_f c7 h
        refine lv_iload_n hx hb dX11_need_59 rfl (lv_at hl 2 rfl) ?_
        refine lv_if_ne (tgt := 93) hx hb dX11_need_60 (by decide) (fun c8 => ?_) (fun c8 => ?_)
        · have h := ite_f c8 h
          refine lv_iconst (v := 1) hx hb dX11_need_93 (by decide) ?_
          refine lv_goto (tgt := 98) hx hb dX11_need_94 (by decide) ?_
          refine lv_istore_n (lv' := [(2, .int 1), (0, .ref (a_o 0)), (1, .int v1_44), (3, .int v3_44)]) hx hb dX11_need_98 rfl hl (by decide) rfl (fun ls hl => ?_)
          obtain ⟨w3_9, ew3_9⟩ : ∃ y : Int32, y = v3_44 + 1 := ⟨_, rfl⟩
          have h := lb_at ew3_9 h
          refine lv_iinc (v := w3_9) (lv' := [(3, .int w3_9), (2, .int 1), (0, .ref (a_o 0)), (1, .int v1_44)]) hx hb dX11_need_99 hl (k := 3) rfl (by rw [ew3_9]; rfl) (by decide) rfl (fun ls hl => ?_)
          refine lv_goto (tgt := 44) hx hb dX11_need_102 (by decide) ?_
          exact ih _ _ _ _ H locs ls _ _ hW (lv_sub hl [2, 3, 1, 0] rfl) h k1
        · have h := ite_t c8 h
          refine lv_aload_n hx hb dX11_need_63 rfl (lv_at hl 0 rfl) ?_
          refine fg_X11_156 (v := .ref (a_o 49)) hx hb hts hown hK hW 0 rfl rfl dX11_need_64 ?_
          refine lv_iload_n hx hb dX11_need_67 rfl (lv_at hl 3 rfl) ?_
          obtain ⟨g10, h⟩ := grd_s h
          refine g_iald hx hb hK hW 49 rfl g10 dX11_need_68 ?_
          refine lv_aload_n hx hb dX11_need_69 rfl (lv_at hl 0 rfl) ?_
          refine fg_X11_46 (v := .ref (a_o 13)) hx hb hts hown hK hW 0 rfl rfl dX11_need_70 ?_
          refine lv_iload_n hx hb dX11_need_73 rfl (lv_at hl 3 rfl) ?_
          obtain ⟨g11, h⟩ := grd_s h
          refine g_iald hx hb hK hW 13 rfl g11 dX11_need_74 ?_
          refine lv_icmp_ne (tgt := 93) hx hb dX11_need_75 (by decide) (fun c12 => ?_) (fun c12 => ?_)
          · have h := ite_f c12 h
            refine lv_iconst (v := 1) hx hb dX11_need_93 (by decide) ?_
            refine lv_goto (tgt := 98) hx hb dX11_need_94 (by decide) ?_
            refine lv_istore_n (lv' := [(2, .int 1), (0, .ref (a_o 0)), (1, .int v1_44), (3, .int v3_44)]) hx hb dX11_need_98 rfl hl (by decide) rfl (fun ls hl => ?_)
            obtain ⟨w3_13, ew3_13⟩ : ∃ y : Int32, y = v3_44 + 1 := ⟨_, rfl⟩
            have h := lb_at ew3_13 h
            refine lv_iinc (v := w3_13) (lv' := [(3, .int w3_13), (2, .int 1), (0, .ref (a_o 0)), (1, .int v1_44)]) hx hb dX11_need_99 hl (k := 3) rfl (by rw [ew3_13]; rfl) (by decide) rfl (fun ls hl => ?_)
            refine lv_goto (tgt := 44) hx hb dX11_need_102 (by decide) ?_
            exact ih _ _ _ _ H locs ls _ _ hW (lv_sub hl [2, 3, 1, 0] rfl) h k1
          · have h := ite_t c12 h
            refine lv_aload_n hx hb dX11_need_78 rfl (lv_at hl 0 rfl) ?_
            refine fg_X11_159 (v := .ref (a_o 50)) hx hb hts hown hK hW 0 rfl rfl dX11_need_79 ?_
            refine lv_iload_n hx hb dX11_need_82 rfl (lv_at hl 3 rfl) ?_
            obtain ⟨g14, h⟩ := grd_s h
            refine g_iald hx hb hK hW 50 rfl g14 dX11_need_83 ?_
            refine lv_aload_n hx hb dX11_need_84 rfl (lv_at hl 0 rfl) ?_
            refine fg_X11_49 (v := .ref (a_o 14)) hx hb hts hown hK hW 0 rfl rfl dX11_need_85 ?_
            refine lv_iload_n hx hb dX11_need_88 rfl (lv_at hl 3 rfl) ?_
            obtain ⟨g15, h⟩ := grd_s h
            refine g_iald hx hb hK hW 14 rfl g15 dX11_need_89 ?_
            refine lv_icmp_eq (tgt := 97) hx hb dX11_need_90 (by decide) (fun c16 => ?_) (fun c16 => ?_)
            · have h := ite_t c16 h
              refine lv_iconst (v := 0) hx hb dX11_need_97 (by decide) ?_
              refine lv_istore_n (lv' := [(2, .int 0), (0, .ref (a_o 0)), (1, .int v1_44), (3, .int v3_44)]) hx hb dX11_need_98 rfl hl (by decide) rfl (fun ls hl => ?_)
              obtain ⟨w3_17, ew3_17⟩ : ∃ y : Int32, y = v3_44 + 1 := ⟨_, rfl⟩
              have h := lb_at ew3_17 h
              refine lv_iinc (v := w3_17) (lv' := [(3, .int w3_17), (2, .int 0), (0, .ref (a_o 0)), (1, .int v1_44)]) hx hb dX11_need_99 hl (k := 3) rfl (by rw [ew3_17]; rfl) (by decide) rfl (fun ls hl => ?_)
              refine lv_goto (tgt := 44) hx hb dX11_need_102 (by decide) ?_
              exact ih _ _ _ _ H locs ls _ _ hW (lv_sub hl [2, 3, 1, 0] rfl) h k1
            · have h := ite_f c16 h
              refine lv_iconst (v := 1) hx hb dX11_need_93 (by decide) ?_
              refine lv_goto (tgt := 98) hx hb dX11_need_94 (by decide) ?_
              refine lv_istore_n (lv' := [(2, .int 1), (0, .ref (a_o 0)), (1, .int v1_44), (3, .int v3_44)]) hx hb dX11_need_98 rfl hl (by decide) rfl (fun ls hl => ?_)
              obtain ⟨w3_18, ew3_18⟩ : ∃ y : Int32, y = v3_44 + 1 := ⟨_, rfl⟩
              have h := lb_at ew3_18 h
              refine lv_iinc (v := w3_18) (lv' := [(3, .int w3_18), (2, .int 1), (0, .ref (a_o 0)), (1, .int v1_44)]) hx hb dX11_need_99 hl (k := 3) rfl (by rw [ew3_18]; rfl) (by decide) rfl (fun ls hl => ?_)
              refine lv_goto (tgt := 44) hx hb dX11_need_102 (by decide) ?_
              exact ih _ _ _ _ H locs ls _ _ hW (lv_sub hl [2, 3, 1, 0] rfl) h k1
  have L146 : ∀ (n : Nat) (x_o_146 : Ob) (v1_146 : Int32) (v3_146 : Int32) (H : Heap) (locs : List Loc) (ls : Array Slot) (o3_146r : Int32) (y_o_146r : Ob), Wd D A s.heap (oc_X11 T a_o x_o_146 ++ Z) H locs → lv_has ls 4 [(0, .ref (a_o 0)), (1, .int v1_146), (3, .int v3_146)] → f_X11_need_L146 n x_o_146 v1_146 v3_146 = some (o3_146r, y_o_146r) → (∀ (H : Heap) (locs : List Loc) (ls : Array Slot), Wd D A s.heap (oc_X11 T a_o y_o_146r ++ Z) H locs → lv_has ls 4 [(0, .ref (a_o 0)), (1, .int v1_146)] → W p l e (rmd 6) s m args below meth c H locs 0 0 Q (F0 m 191 ls [])) → W p l e (rmd 6) s m args below meth c H locs 0 0 Q (F0 m 146 ls []) := by
    intro n
    induction n with
    | zero =>
      intro x_o_146 v1_146 v3_146 H locs ls o3_146r y_o_146r hW hl h k1
      rw [f_X11_need_L146] at h
      cases h
    | succ n ih =>
      intro x_o_146 v1_146 v3_146 H locs ls o3_146r y_o_146r hW hl h k1
      rw [f_X11_need_L146] at h
      refine lv_iload_n hx hb dX11_need_146 rfl (lv_at hl 2 rfl) ?_
      refine lv_bipush (v := 6) hx hb dX11_need_147 (by decide) ?_
      refine lv_iload_n hx hb dX11_need_149 rfl (lv_at hl 1 rfl) ?_
      refine lv_imul hx hb dX11_need_150 ?_
      refine lv_aload_n hx hb dX11_need_151 rfl (lv_at hl 0 rfl) ?_
      refine fg_X11_34 (v := .ref (a_o 9)) hx hb hts hown hK hW 0 rfl rfl dX11_need_152 ?_
      refine lv_iload_n hx hb dX11_need_155 rfl (lv_at hl 1 rfl) ?_
      obtain ⟨g31, h⟩ := grd_s h
      refine g_iald hx hb hK hW 9 rfl g31 dX11_need_156 ?_
      refine lv_iadd hx hb dX11_need_157 ?_
      refine lv_icmp_ge (tgt := 191) hx hb dX11_need_158 (by decide) (fun c32 => ?_) (fun c32 => ?_)
      · have h := ite_t c32 h
        obtain ⟨rfl, rfl⟩ := ret2 h
        exact k1 H locs ls hW (lv_sub hl [0, 1] rfl)
      · have h := ite_f c32 h
        refine lv_aload_n hx hb dX11_need_161 rfl (lv_at hl 0 rfl) ?_
        refine fg_X11_156 (v := .ref (a_o 49)) hx hb hts hown hK hW 0 rfl rfl dX11_need_162 ?_
        refine lv_iload_n hx hb dX11_need_165 rfl (lv_at hl 2 rfl) ?_
        refine lv_aload_n hx hb dX11_need_166 rfl (lv_at hl 0 rfl) ?_
        refine fg_X11_46 (v := .ref (a_o 13)) hx hb hts hown hK hW 0 rfl rfl dX11_need_167 ?_
        refine lv_iload_n hx hb dX11_need_170 rfl (lv_at hl 2 rfl) ?_
        obtain ⟨g33, h⟩ := grd_s h
        refine g_iald hx hb hK hW 13 rfl g33 dX11_need_171 ?_
        obtain ⟨g34, h⟩ := grd_s h
        refine g_iast (ws9 := oc_X11 T a_o (upo x_o_146 57 v3_146.toNatClampNeg (x_o_146 13 v3_146.toNatClampNeg)) ++ Z) hx hb hK hW 49 rfl g34 sa_X11_57 dX11_need_172 (fun H locs hW => ?_)
        obtain ⟨x_o35, ex_o35⟩ : ∃ y : Ob, y = upo x_o_146 57 v3_146.toNatClampNeg (x_o_146 13 v3_146.toNatClampNeg) := ⟨_, rfl⟩
        rw [← ex_o35] at hW
        have h := lb_at ex_o35 h
        refine lv_aload_n hx hb dX11_need_173 rfl (lv_at hl 0 rfl) ?_
        refine fg_X11_159 (v := .ref (a_o 50)) hx hb hts hown hK hW 0 rfl rfl dX11_need_174 ?_
        refine lv_iload_n hx hb dX11_need_177 rfl (lv_at hl 2 rfl) ?_
        refine lv_aload_n hx hb dX11_need_178 rfl (lv_at hl 0 rfl) ?_
        refine fg_X11_49 (v := .ref (a_o 14)) hx hb hts hown hK hW 0 rfl rfl dX11_need_179 ?_
        refine lv_iload_n hx hb dX11_need_182 rfl (lv_at hl 2 rfl) ?_
        obtain ⟨g36, h⟩ := grd_s h
        refine g_iald hx hb hK hW 14 rfl g36 dX11_need_183 ?_
        obtain ⟨g37, h⟩ := grd_s h
        refine g_iast (ws9 := oc_X11 T a_o (upo x_o35 58 v3_146.toNatClampNeg (x_o35 14 v3_146.toNatClampNeg)) ++ Z) hx hb hK hW 50 rfl g37 sa_X11_58 dX11_need_184 (fun H locs hW => ?_)
        obtain ⟨x_o38, ex_o38⟩ : ∃ y : Ob, y = upo x_o35 58 v3_146.toNatClampNeg (x_o35 14 v3_146.toNatClampNeg) := ⟨_, rfl⟩
        rw [← ex_o38] at hW
        have h := lb_at ex_o38 h
        obtain ⟨w3_39, ew3_39⟩ : ∃ y : Int32, y = v3_146 + 1 := ⟨_, rfl⟩
        have h := lb_at ew3_39 h
        refine lv_iinc (v := w3_39) (lv' := [(3, .int w3_39), (0, .ref (a_o 0)), (1, .int v1_146)]) hx hb dX11_need_185 hl (k := 2) rfl (by rw [ew3_39]; rfl) (by decide) rfl (fun ls hl => ?_)
        refine lv_goto (tgt := 146) hx hb dX11_need_188 (by decide) ?_
        exact ih _ _ _ H locs ls _ _ hW (lv_sub hl [1, 2, 0] rfl) h k1
  have J38 : ∀ (x_o_38 : Ob) (v1_38 : Int32) (s0_38 : Int32) (H : Heap) (locs : List Loc) (ls : Array Slot), Wd D A s.heap (oc_X11 T a_o x_o_38 ++ Z) H locs → lv_has ls 4 [(0, .ref (a_o 0)), (1, .int v1_38)] → f_X11_need_J38 x_o_38 v1_38 s0_38 = some x_o9 → W p l e (rmd 6) s m args below meth c H locs 0 0 Q (F0 m 38 ls [.int s0_38]) := by
    intro x_o_38 v1_38 s0_38 H locs ls hW hl h
    rw [f_X11_need_J38] at h
    refine lv_istore_n (lv' := [(2, .int s0_38), (0, .ref (a_o 0)), (1, .int v1_38)]) hx hb dX11_need_38 rfl hl (by decide) rfl (fun ls hl => ?_)
    refine lv_bipush (v := 6) hx hb dX11_need_39 (by decide) ?_
    refine lv_iload_n hx hb dX11_need_41 rfl (lv_at hl 2 rfl) ?_
    refine lv_imul hx hb dX11_need_42 ?_
    refine lv_topi (fun w3_5 ew3_5 => ?_)
    have h := lb_at ew3_5 h
    refine lv_istore_n (lv' := [(3, .int w3_5), (2, .int s0_38), (0, .ref (a_o 0)), (1, .int v1_38)]) hx hb dX11_need_43 rfl hl (by decide) rfl (fun ls hl => ?_)
    obtain ⟨o2_u19, o3_u19, q20, h⟩ := bnd2_s h
    refine L44 200 _ _ _ _ H locs ls o2_u19 o3_u19 hW (lv_sub hl [2, 3, 1, 0] rfl) q20 (fun H locs ls hW hl => ?_)
    refine lv_iload_n hx hb dX11_need_105 rfl (lv_at hl 2 rfl) ?_
    refine lv_if_eq (tgt := 191) hx hb dX11_need_106 (by decide) (fun c21 => ?_) (fun c21 => ?_)
    · have h := ite_t c21 h
      refine lv_aload_n hx hb dX11_need_191 rfl (lv_at hl 0 rfl) ?_
      refine lv_iload_n hx hb dX11_need_192 rfl (lv_at hl 1 rfl) ?_
      obtain ⟨x_o22, q23, h⟩ := bnd1_s h
      refine cl_X11_301 hx hb hml hown hts hK hN hW (c_X11_chart l D T A a_o (Z) x_o_38 v1_38 x_o22 q23) ⟨Nat.le_of_ble_eq_true rfl, Nat.le_of_ble_eq_true rfl⟩ hl.1 rfl (Nat.le_of_ble_eq_true rfl) dX11_need_193 ⟨Nat.zero_le _, Nat.zero_le _⟩ rfl (fun H locs hW => ?_)
      obtain rfl := ret1 h
      rw [hQ]
      exact g_retv hx hb hr hlk hW dX11_need_196
    · have h := ite_f c21 h
      refine lv_aload_n hx hb dX11_need_109 rfl (lv_at hl 0 rfl) ?_
      refine lv_dup hx hb dX11_need_110 rfl ?_
      refine fg_X11_298 (v := .int (x_o_38 53 0)) hx hb hts hown hK hW 0 rfl rfl dX11_need_111 ?_
      refine lv_iconst (v := 1) hx hb dX11_need_114 (by decide) ?_
      refine lv_iadd hx hb dX11_need_115 ?_
      refine fp_X11_298 (ws9 := oc_X11 T a_o (upo x_o_38 53 0 ((x_o_38 53 0) + 1)) ++ Z) hx hb hts hown hK hW 0 rfl (Nat.le_of_ble_eq_true rfl) sf_X11_53 dX11_need_116 (fun H locs hW => ?_)
      obtain ⟨x_o24, ex_o24⟩ : ∃ y : Ob, y = upo x_o_38 53 0 ((x_o_38 53 0) + 1) := ⟨_, rfl⟩
      rw [← ex_o24] at hW
      have h := lb_at ex_o24 h
      refine lv_aload_n hx hb dX11_need_119 rfl (lv_at hl 0 rfl) ?_
      refine fg_X11_147 (v := .ref (a_o 46)) hx hb hts hown hK hW 0 rfl rfl dX11_need_120 ?_
      refine lv_iload_n hx hb dX11_need_123 rfl (lv_at hl 1 rfl) ?_
      refine lv_aload_n hx hb dX11_need_124 rfl (lv_at hl 0 rfl) ?_
      refine fg_X11_219 (v := .int (x_o24 52 0)) hx hb hts hown hK hW 0 rfl rfl dX11_need_125 ?_
      obtain ⟨g25, h⟩ := grd_s h
      refine g_iast (ws9 := oc_X11 T a_o (upo x_o24 54 v1_38.toNatClampNeg (x_o24 52 0)) ++ Z) hx hb hK hW 46 rfl g25 sa_X11_54 dX11_need_128 (fun H locs hW => ?_)
      obtain ⟨x_o26, ex_o26⟩ : ∃ y : Ob, y = upo x_o24 54 v1_38.toNatClampNeg (x_o24 52 0) := ⟨_, rfl⟩
      rw [← ex_o26] at hW
      have h := lb_at ex_o26 h
      refine lv_aload_n hx hb dX11_need_129 rfl (lv_at hl 0 rfl) ?_
      refine fg_X11_153 (v := .ref (a_o 48)) hx hb hts hown hK hW 0 rfl rfl dX11_need_130 ?_
      refine lv_iload_n hx hb dX11_need_133 rfl (lv_at hl 1 rfl) ?_
      refine lv_aload_n hx hb dX11_need_134 rfl (lv_at hl 0 rfl) ?_
      refine fg_X11_150 (v := .ref (a_o 47)) hx hb hts hown hK hW 0 rfl rfl dX11_need_135 ?_
      refine lv_iload_n hx hb dX11_need_138 rfl (lv_at hl 1 rfl) ?_
      obtain ⟨g27, h⟩ := grd_s h
      refine g_iald hx hb hK hW 47 rfl g27 dX11_need_139 ?_
      obtain ⟨g28, h⟩ := grd_s h
      refine g_iast (ws9 := oc_X11 T a_o (upo x_o26 56 v1_38.toNatClampNeg (x_o26 55 v1_38.toNatClampNeg)) ++ Z) hx hb hK hW 48 rfl g28 sa_X11_56 dX11_need_140 (fun H locs hW => ?_)
      obtain ⟨x_o29, ex_o29⟩ : ∃ y : Ob, y = upo x_o26 56 v1_38.toNatClampNeg (x_o26 55 v1_38.toNatClampNeg) := ⟨_, rfl⟩
      rw [← ex_o29] at hW
      have h := lb_at ex_o29 h
      refine lv_bipush (v := 6) hx hb dX11_need_141 (by decide) ?_
      refine lv_iload_n hx hb dX11_need_143 rfl (lv_at hl 1 rfl) ?_
      refine lv_imul hx hb dX11_need_144 ?_
      refine lv_topi (fun w3_30 ew3_30 => ?_)
      have h := lb_at ew3_30 h
      refine lv_istore_n (lv' := [(3, .int w3_30), (0, .ref (a_o 0)), (1, .int v1_38), (2, .int o2_u19)]) hx hb dX11_need_145 rfl hl (by decide) rfl (fun ls hl => ?_)
      obtain ⟨o3_u40, y_o_u40, q41, h⟩ := bnd2_s h
      refine L146 200 _ _ _ H locs ls o3_u40 y_o_u40 hW (lv_sub hl [1, 2, 0] rfl) q41 (fun H locs ls hW hl => ?_)
      refine lv_aload_n hx hb dX11_need_191 rfl (lv_at hl 0 rfl) ?_
      refine lv_iload_n hx hb dX11_need_192 rfl (lv_at hl 1 rfl) ?_
      obtain ⟨x_o42, q43, h⟩ := bnd1_s h
      refine cl_X11_301 hx hb hml hown hts hK hN hW (c_X11_chart l D T A a_o (Z) y_o_u40 v1_38 x_o42 q43) ⟨Nat.le_of_ble_eq_true rfl, Nat.le_of_ble_eq_true rfl⟩ hl.1 rfl (Nat.le_of_ble_eq_true rfl) dX11_need_193 ⟨Nat.zero_le _, Nat.zero_le _⟩ rfl (fun H locs hW => ?_)
      obtain rfl := ret1 h
      rw [hQ]
      exact g_retv hx hb hr hlk hW dX11_need_196
  have J33 : ∀ (x_o_33 : Ob) (v1_33 : Int32) (H : Heap) (locs : List Loc) (ls : Array Slot), Wd D A s.heap (oc_X11 T a_o x_o_33 ++ Z) H locs → lv_has ls 4 [(0, .ref (a_o 0)), (1, .int v1_33)] → f_X11_need_J33 x_o_33 v1_33 = some x_o9 → W p l e (rmd 6) s m args below meth c H locs 0 0 Q (F0 m 33 ls []) := by
    intro x_o_33 v1_33 H locs ls hW hl h
    rw [f_X11_need_J33] at h
    refine lv_iconst (v := 1) hx hb dX11_need_33 (by decide) ?_
    refine lv_goto (tgt := 38) hx hb dX11_need_34 (by decide) ?_
    exact J38 _ _ _ H locs ls hW (lv_sub hl [0, 1] rfl) h
  rw [f_X11_need] at h
  suffices hm : ∀ (H : Heap) (locs : List Loc), Wd D A s.heap (oc_X11 T a_o x_o ++ Z) H locs → W p l e (rmd 6) s m args below meth c H locs 0 0 Q (F0 m 0 ls []) from hm _ _ hW
  intro H locs hW
  refine lv_aload_n hx hb dX11_need_0 rfl (lv_at hl 0 rfl) ?_
  refine lv_iload_n hx hb dX11_need_1 rfl (lv_at hl 1 rfl) ?_
  obtain ⟨x_o1, q2, h⟩ := bnd1_s h
  refine cl_X11_286 hx hb hml hown hts hK hN hW (c_X11_look l D T A a_o (Z) x_o p1 x_o1 q2) ⟨Nat.le_of_ble_eq_true rfl, Nat.le_of_ble_eq_true rfl⟩ hl.1 rfl (Nat.le_of_ble_eq_true rfl) dX11_need_2 ⟨Nat.zero_le _, Nat.zero_le _⟩ rfl (fun H locs hW => ?_)
  refine lv_aload_n hx hb dX11_need_5 rfl (lv_at hl 0 rfl) ?_
  refine fg_X11_147 (v := .ref (a_o 46)) hx hb hts hown hK hW 0 rfl rfl dX11_need_6 ?_
  refine lv_iload_n hx hb dX11_need_9 rfl (lv_at hl 1 rfl) ?_
  obtain ⟨g3, h⟩ := grd_s h
  refine g_iald hx hb hK hW 46 rfl g3 dX11_need_10 ?_
  refine lv_aload_n hx hb dX11_need_11 rfl (lv_at hl 0 rfl) ?_
  refine fg_X11_219 (v := .int (x_o1 52 0)) hx hb hts hown hK hW 0 rfl rfl dX11_need_12 ?_
  refine lv_icmp_ne (tgt := 33) hx hb dX11_need_15 (by decide) (fun c4 => ?_) (fun c4 => ?_)
  · have h := ite_f c4 h
    exact J33 _ _ H locs ls hW (lv_sub hl [0, 1] rfl) h
  · have h := ite_t c4 h
    refine lv_aload_n hx hb dX11_need_18 rfl (lv_at hl 0 rfl) ?_
    refine fg_X11_153 (v := .ref (a_o 48)) hx hb hts hown hK hW 0 rfl rfl dX11_need_19 ?_
    refine lv_iload_n hx hb dX11_need_22 rfl (lv_at hl 1 rfl) ?_
    obtain ⟨g44, h⟩ := grd_s h
    refine g_iald hx hb hK hW 48 rfl g44 dX11_need_23 ?_
    refine lv_aload_n hx hb dX11_need_24 rfl (lv_at hl 0 rfl) ?_
    refine fg_X11_150 (v := .ref (a_o 47)) hx hb hts hown hK hW 0 rfl rfl dX11_need_25 ?_
    refine lv_iload_n hx hb dX11_need_28 rfl (lv_at hl 1 rfl) ?_
    obtain ⟨g45, h⟩ := grd_s h
    refine g_iald hx hb hK hW 47 rfl g45 dX11_need_29 ?_
    refine lv_icmp_eq (tgt := 37) hx hb dX11_need_30 (by decide) (fun c46 => ?_) (fun c46 => ?_)
    · have h := ite_t c46 h
      refine lv_iconst (v := 0) hx hb dX11_need_37 (by decide) ?_
      exact J38 _ _ _ H locs ls hW (lv_sub hl [0, 1] rfl) h
    · have h := ite_f c46 h
      exact J33 _ _ H locs ls hW (lv_sub hl [0, 1] rfl) h
set_option maxHeartbeats 4000000 in
set_option maxRecDepth 100000 in
theorem c_X11_whole (l : Launch) (D : va_G) (T : Nat → ClassId) (A : Nat → Prop) (a_o : Nat → Nat) (Z : va_W)  (x_o : Ob) (p1 : Int32) (r : Int32) (h : f_X11_whole x_o p1 = some r) : Met l yX11_whole (Cond.code yX11_whole cX11_whole 6 (some .int) :: wsL_law) (rmd 0) (Pg D T A (oc_X11 T a_o x_o ++ Z) [.ref (a_o 0), .int p1]) (Qgi D A (oc_X11 T a_o x_o ++ Z) r) 0 0 A := by
  refine Met.ofW (cc := cX11_whole) (maxL := 6) (ret := (some .int)) (by decide +kernel) rfl ?_
  intro p e s m args below meth c s₁ B hml hv
  obtain ⟨ha, hP, hK, hD, hN⟩ := hv
  have hx := B.exec
  have hb := B.bytes
  have hr := B.returns
  have hlk := B.notSynchronized
  have hts : ∀ w ∈ wsL_law, w.before args s = true := fun w hw => atoms_spec B.pre w (List.mem_cons_of_mem _ hw)
  have hown : s.vm.findClass RX11 = some m.cls := findClass_of_methodNamed B.named
  have hW : Wd D A s.heap (oc_X11 T a_o x_o ++ Z) s.heap [] := ⟨hP, hD, va_S.rf⟩
  have hl := lv_entry [.ref (a_o 0), .int p1] (n := 6) (Nat.le_of_ble_eq_true rfl)
  refine W.eq (en_eq ha) ?_
  generalize (lg_sl [.ref (a_o 0), .int p1] ++ List.replicate (6 - (lg_sl [.ref (a_o 0), .int p1]).length) Slot.unset).toArray = ls at hl ⊢
  have hl : lv_has ls 6 [(0, .ref (a_o 0)), (1, .int p1)] := hl
  clear hP hD B ha
  obtain ⟨Q, hQ⟩ : ∃ Q, Q = MQ below (Qgi D A (oc_X11 T a_o x_o ++ Z) r) args s 0 0 A := ⟨_, rfl⟩
  rw [← hQ]
  change W p l e (rmd 0) s m args below meth c s.heap [] 0 0 Q (F0 m 0 ls [])
  have L14 : ∀ (n : Nat) (v2_14 : Int32) (v3_14 : Int32) (v4_14 : Int32) (H : Heap) (locs : List Loc) (ls : Array Slot) (o2_14r : Int32) (o4_14r : Int32), Wd D A s.heap (oc_X11 T a_o x_o ++ Z) H locs → lv_has ls 6 [(0, .ref (a_o 0)), (2, .int v2_14), (3, .int v3_14), (4, .int v4_14)] → f_X11_whole_L14 n x_o v2_14 v3_14 v4_14 = some (o2_14r, o4_14r) → (∀ (H : Heap) (locs : List Loc) (ls : Array Slot), Wd D A s.heap (oc_X11 T a_o x_o ++ Z) H locs → lv_has ls 6 [(2, .int o2_14r)] → W p l e (rmd 0) s m args below meth c H locs 0 0 Q (F0 m 89 ls [])) → W p l e (rmd 0) s m args below meth c H locs 0 0 Q (F0 m 14 ls []) := by
    intro n
    induction n with
    | zero =>
      intro v2_14 v3_14 v4_14 H locs ls o2_14r o4_14r hW hl h k1
      rw [f_X11_whole_L14] at h
      cases h
    | succ n ih =>
      intro v2_14 v3_14 v4_14 H locs ls o2_14r o4_14r hW hl h k1
      rw [f_X11_whole_L14] at h
      refine lv_iload_n hx hb dX11_whole_14 rfl (lv_at hl 2 rfl) ?_
      refine lv_if_lt (tgt := 89) hx hb dX11_whole_15 (by decide) (fun c3 => ?_) (fun c3 => ?_)
      · have h := ite_t c3 h
        obtain ⟨rfl, rfl⟩ := ret2 h
        exact k1 H locs ls hW (lv_sub hl [1] rfl)
      · have h := ite_f c3 h
        refine lv_iload hx hb dX11_whole_18 (lv_at hl 3 rfl) ?_
        refine lv_aload_n hx hb dX11_whole_20 rfl (lv_at hl 0 rfl) ?_
        refine fg_X11_117 (v := .ref (a_o 36)) hx hb hts hown hK hW 0 rfl rfl dX11_whole_21 ?_
        refine lv_iload_n hx hb dX11_whole_24 rfl (lv_at hl 2 rfl) ?_
        obtain ⟨g4, h⟩ := grd_s h
        refine g_iald hx hb hK hW 36 rfl g4 dX11_whole_25 ?_
        refine lv_icmp_ge (tgt := 89) hx hb dX11_whole_26 (by decide) (fun c5 => ?_) (fun c5 => ?_)
        · have h := ite_t c5 h
          obtain ⟨rfl, rfl⟩ := ret2 h
          exact k1 H locs ls hW (lv_sub hl [1] rfl)
        · have h := ite_f c5 h
          refine lv_aload_n hx hb dX11_whole_29 rfl (lv_at hl 0 rfl) ?_
          refine fg_X11_120 (v := .ref (a_o 37)) hx hb hts hown hK hW 0 rfl rfl dX11_whole_30 ?_
          refine lv_bipush (v := 8) hx hb dX11_whole_33 (by decide) ?_
          refine lv_iload_n hx hb dX11_whole_35 rfl (lv_at hl 2 rfl) ?_
          refine lv_imul hx hb dX11_whole_36 ?_
          refine lv_iload hx hb dX11_whole_37 (lv_at hl 3 rfl) ?_
          refine lv_iadd hx hb dX11_whole_39 ?_
          obtain ⟨g6, h⟩ := grd_s h
          refine g_iald hx hb hK hW 37 rfl g6 dX11_whole_40 ?_
          refine lv_topi (fun w5_7 ew5_7 => ?_)
          have h := lb_at ew5_7 h
          refine lv_istore (lv' := [(5, .int w5_7), (0, .ref (a_o 0)), (2, .int v2_14), (3, .int v3_14), (4, .int v4_14)]) hx hb dX11_whole_41 hl (by decide) rfl (fun ls hl => ?_)
          refine lv_aload_n hx hb dX11_whole_43 rfl (lv_at hl 1 rfl) ?_
          refine fg_X11_96 (v := .ref (a_o 29)) hx hb hts hown hK hW 0 rfl rfl dX11_whole_44 ?_
          refine lv_iload hx hb dX11_whole_47 (lv_at hl 0 rfl) ?_
          obtain ⟨g8, h⟩ := grd_s h
          refine g_iald hx hb hK hW 29 rfl g8 dX11_whole_49 ?_
          refine lv_bipush (v := 9) hx hb dX11_whole_50 (by decide) ?_
          refine lv_icmp_ne (tgt := 81) hx hb dX11_whole_52 (by decide) (fun c9 => ?_) (fun c9 => ?_)
          · have h := ite_f c9 h
            refine lv_iload_n hx hb dX11_whole_81 rfl (lv_at hl 2 rfl) ?_
            refine lv_istore_n (lv' := [(2, .int v2_14), (5, .int w5_7), (0, .ref (a_o 0)), (3, .int v3_14), (4, .int v4_14)]) hx hb dX11_whole_82 rfl hl (by decide) rfl (fun ls hl => ?_)
            obtain ⟨w4_10, ew4_10⟩ : ∃ y : Int32, y = v4_14 + 1 := ⟨_, rfl⟩
            have h := lb_at ew4_10 h
            refine lv_iinc (v := w4_10) (lv' := [(4, .int w4_10), (2, .int v2_14), (5, .int w5_7), (0, .ref (a_o 0)), (3, .int v3_14)]) hx hb dX11_whole_83 hl (k := 4) rfl (by rw [ew4_10]; rfl) (by decide) rfl (fun ls hl => ?_)
            refine lv_goto (tgt := 14) hx hb dX11_whole_86 (by decide) ?_
            exact ih _ _ _ H locs ls _ _ hW (lv_sub hl [3, 1, 4, 0] rfl) h k1
          · have h := ite_t c9 h
            refine lv_iload_n hx hb dX11_whole_55 rfl (lv_at hl 2 rfl) ?_
            refine lv_iconst (v := (-1)) hx hb dX11_whole_56 (by decide) ?_
            refine lv_icmp_eq (tgt := 76) hx hb dX11_whole_57 (by decide) (fun c11 => ?_) (fun c11 => ?_)
            · have h := ite_t c11 h
              refine lv_iload hx hb dX11_whole_76 (lv_at hl 0 rfl) ?_
              refine lv_goto (tgt := 82) hx hb dX11_whole_78 (by decide) ?_
              refine lv_istore_n (lv' := [(2, .int w5_7), (5, .int w5_7), (0, .ref (a_o 0)), (3, .int v3_14), (4, .int v4_14)]) hx hb dX11_whole_82 rfl hl (by decide) rfl (fun ls hl => ?_)
              obtain ⟨w4_12, ew4_12⟩ : ∃ y : Int32, y = v4_14 + 1 := ⟨_, rfl⟩
              have h := lb_at ew4_12 h
              refine lv_iinc (v := w4_12) (lv' := [(4, .int w4_12), (2, .int w5_7), (5, .int w5_7), (0, .ref (a_o 0)), (3, .int v3_14)]) hx hb dX11_whole_83 hl (k := 4) rfl (by rw [ew4_12]; rfl) (by decide) rfl (fun ls hl => ?_)
              refine lv_goto (tgt := 14) hx hb dX11_whole_86 (by decide) ?_
              exact ih _ _ _ H locs ls _ _ hW (lv_sub hl [3, 1, 4, 0] rfl) h k1
            · have h := ite_f c11 h
              refine lv_aload_n hx hb dX11_whole_60 rfl (lv_at hl 1 rfl) ?_
              refine fg_X11_102 (v := .ref (a_o 31)) hx hb hts hown hK hW 0 rfl rfl dX11_whole_61 ?_
              refine lv_iload hx hb dX11_whole_64 (lv_at hl 0 rfl) ?_
              obtain ⟨g13, h⟩ := grd_s h
              refine g_iald hx hb hK hW 31 rfl g13 dX11_whole_66 ?_
              refine lv_aload_n hx hb dX11_whole_67 rfl (lv_at hl 1 rfl) ?_
              refine fg_X11_102 (v := .ref (a_o 31)) hx hb hts hown hK hW 0 rfl rfl dX11_whole_68 ?_
              refine lv_iload_n hx hb dX11_whole_71 rfl (lv_at hl 2 rfl) ?_
              obtain ⟨g14, h⟩ := grd_s h
              refine g_iald hx hb hK hW 31 rfl g14 dX11_whole_72 ?_
              refine lv_icmp_ge (tgt := 81) hx hb dX11_whole_73 (by decide) (fun c15 => ?_) (fun c15 => ?_)
              · have h := ite_t c15 h
                refine lv_iload_n hx hb dX11_whole_81 rfl (lv_at hl 2 rfl) ?_
                refine lv_istore_n (lv' := [(2, .int v2_14), (5, .int w5_7), (0, .ref (a_o 0)), (3, .int v3_14), (4, .int v4_14)]) hx hb dX11_whole_82 rfl hl (by decide) rfl (fun ls hl => ?_)
                obtain ⟨w4_16, ew4_16⟩ : ∃ y : Int32, y = v4_14 + 1 := ⟨_, rfl⟩
                have h := lb_at ew4_16 h
                refine lv_iinc (v := w4_16) (lv' := [(4, .int w4_16), (2, .int v2_14), (5, .int w5_7), (0, .ref (a_o 0)), (3, .int v3_14)]) hx hb dX11_whole_83 hl (k := 4) rfl (by rw [ew4_16]; rfl) (by decide) rfl (fun ls hl => ?_)
                refine lv_goto (tgt := 14) hx hb dX11_whole_86 (by decide) ?_
                exact ih _ _ _ H locs ls _ _ hW (lv_sub hl [3, 1, 4, 0] rfl) h k1
              · have h := ite_f c15 h
                refine lv_iload hx hb dX11_whole_76 (lv_at hl 0 rfl) ?_
                refine lv_goto (tgt := 82) hx hb dX11_whole_78 (by decide) ?_
                refine lv_istore_n (lv' := [(2, .int w5_7), (5, .int w5_7), (0, .ref (a_o 0)), (3, .int v3_14), (4, .int v4_14)]) hx hb dX11_whole_82 rfl hl (by decide) rfl (fun ls hl => ?_)
                obtain ⟨w4_17, ew4_17⟩ : ∃ y : Int32, y = v4_14 + 1 := ⟨_, rfl⟩
                have h := lb_at ew4_17 h
                refine lv_iinc (v := w4_17) (lv' := [(4, .int w4_17), (2, .int w5_7), (5, .int w5_7), (0, .ref (a_o 0)), (3, .int v3_14)]) hx hb dX11_whole_83 hl (k := 4) rfl (by rw [ew4_17]; rfl) (by decide) rfl (fun ls hl => ?_)
                refine lv_goto (tgt := 14) hx hb dX11_whole_86 (by decide) ?_
                exact ih _ _ _ H locs ls _ _ hW (lv_sub hl [3, 1, 4, 0] rfl) h k1
  rw [f_X11_whole] at h
  suffices hm : ∀ (H : Heap) (locs : List Loc), Wd D A s.heap (oc_X11 T a_o x_o ++ Z) H locs → W p l e (rmd 0) s m args below meth c H locs 0 0 Q (F0 m 0 ls []) from hm _ _ hW
  intro H locs hW
  refine lv_iconst (v := (-1)) hx hb dX11_whole_0 (by decide) ?_
  refine lv_istore_n (lv' := [(2, .int (-1)), (0, .ref (a_o 0)), (1, .int p1)]) hx hb dX11_whole_1 rfl hl (by decide) rfl (fun ls hl => ?_)
  refine lv_aload_n hx hb dX11_whole_2 rfl (lv_at hl 1 rfl) ?_
  refine fg_X11_34 (v := .ref (a_o 9)) hx hb hts hown hK hW 0 rfl rfl dX11_whole_3 ?_
  refine lv_iload_n hx hb dX11_whole_6 rfl (lv_at hl 2 rfl) ?_
  obtain ⟨g1, h⟩ := grd_s h
  refine g_iald hx hb hK hW 9 rfl g1 dX11_whole_7 ?_
  refine lv_iconst (v := 1) hx hb dX11_whole_8 (by decide) ?_
  refine lv_isub hx hb dX11_whole_9 ?_
  refine lv_topi (fun w3_2 ew3_2 => ?_)
  have h := lb_at ew3_2 h
  refine lv_istore_n (lv' := [(3, .int w3_2), (2, .int (-1)), (0, .ref (a_o 0)), (1, .int p1)]) hx hb dX11_whole_10 rfl hl (by decide) rfl (fun ls hl => ?_)
  refine lv_iconst (v := 0) hx hb dX11_whole_11 (by decide) ?_
  refine lv_istore (lv' := [(4, .int 0), (3, .int w3_2), (2, .int (-1)), (0, .ref (a_o 0)), (1, .int p1)]) hx hb dX11_whole_12 hl (by decide) rfl (fun ls hl => ?_)
  obtain ⟨o2_u18, o4_u18, q19, h⟩ := bnd2_s h
  refine L14 200 _ _ _ H locs ls o2_u18 o4_u18 hW (lv_sub hl [3, 2, 1, 0] rfl) q19 (fun H locs ls hW hl => ?_)
  refine lv_iload_n hx hb dX11_whole_89 rfl (lv_at hl 0 rfl) ?_
  obtain rfl := ret1 h
  rw [hQ]
  exact g_reti hx hb hr hlk hW dX11_whole_90
set_option maxHeartbeats 4000000 in
set_option maxRecDepth 100000 in
theorem c_X11_costNow (l : Launch) (D : va_G) (T : Nat → ClassId) (A : Nat → Prop) (a_o : Nat → Nat) (Z : va_W)  (x_o : Ob) (p1 : Int32) (r : Int32) (h : f_X11_costNow x_o p1 = some r) : Met l yX11_costNow (Cond.code yX11_costNow cX11_costNow 3 (some .int) :: wsL_law) (rmd 1) (Pg D T A (oc_X11 T a_o x_o ++ Z) [.ref (a_o 0), .int p1]) (Qgi D A (oc_X11 T a_o x_o ++ Z) r) 0 0 A := by
  refine Met.ofW (cc := cX11_costNow) (maxL := 3) (ret := (some .int)) (by decide +kernel) rfl ?_
  intro p e s m args below meth c s₁ B hml hv
  obtain ⟨ha, hP, hK, hD, hN⟩ := hv
  have hx := B.exec
  have hb := B.bytes
  have hr := B.returns
  have hlk := B.notSynchronized
  have hts : ∀ w ∈ wsL_law, w.before args s = true := fun w hw => atoms_spec B.pre w (List.mem_cons_of_mem _ hw)
  have hown : s.vm.findClass RX11 = some m.cls := findClass_of_methodNamed B.named
  have hW : Wd D A s.heap (oc_X11 T a_o x_o ++ Z) s.heap [] := ⟨hP, hD, va_S.rf⟩
  have hl := lv_entry [.ref (a_o 0), .int p1] (n := 3) (Nat.le_of_ble_eq_true rfl)
  refine W.eq (en_eq ha) ?_
  generalize (lg_sl [.ref (a_o 0), .int p1] ++ List.replicate (3 - (lg_sl [.ref (a_o 0), .int p1]).length) Slot.unset).toArray = ls at hl ⊢
  have hl : lv_has ls 3 [(0, .ref (a_o 0)), (1, .int p1)] := hl
  clear hP hD B ha
  obtain ⟨Q, hQ⟩ : ∃ Q, Q = MQ below (Qgi D A (oc_X11 T a_o x_o ++ Z) r) args s 0 0 A := ⟨_, rfl⟩
  rw [← hQ]
  change W p l e (rmd 1) s m args below meth c s.heap [] 0 0 Q (F0 m 0 ls [])
  rw [f_X11_costNow] at h
  suffices hm : ∀ (H : Heap) (locs : List Loc), Wd D A s.heap (oc_X11 T a_o x_o ++ Z) H locs → W p l e (rmd 1) s m args below meth c H locs 0 0 Q (F0 m 0 ls []) from hm _ _ hW
  intro H locs hW
  refine lv_aload_n hx hb dX11_costNow_0 rfl (lv_at hl 0 rfl) ?_
  refine lv_iload_n hx hb dX11_costNow_1 rfl (lv_at hl 1 rfl) ?_
  obtain ⟨r1, q2, h⟩ := bnd1_s h
  refine cl_X11_304 hx hb hml hown hts hK hN hW (c_X11_whole l D T A a_o (Z) x_o p1 r1 q2) ⟨Nat.le_of_ble_eq_true rfl, Nat.le_of_ble_eq_true rfl⟩ hl.1 rfl (Nat.le_of_ble_eq_true rfl) dX11_costNow_2 ⟨Nat.zero_le _, Nat.zero_le _⟩ rfl (fun H locs hW => ?_)
  refine lv_istore_n (lv' := [(2, .int r1), (0, .ref (a_o 0)), (1, .int p1)]) hx hb dX11_costNow_5 rfl hl (by decide) rfl (fun ls hl => ?_)
  refine lv_iload_n hx hb dX11_costNow_6 rfl (lv_at hl 0 rfl) ?_
  refine lv_iconst (v := (-1)) hx hb dX11_costNow_7 (by decide) ?_
  refine lv_icmp_ne (tgt := 17) hx hb dX11_costNow_8 (by decide) (fun c3 => ?_) (fun c3 => ?_)
  · have h := ite_f c3 h
    refine lv_aload_n hx hb dX11_costNow_17 rfl (lv_at hl 1 rfl) ?_
    refine fg_X11_102 (v := .ref (a_o 31)) hx hb hts hown hK hW 0 rfl rfl dX11_costNow_18 ?_
    refine lv_iload_n hx hb dX11_costNow_21 rfl (lv_at hl 0 rfl) ?_
    obtain ⟨g4, h⟩ := grd_s h
    refine g_iald hx hb hK hW 31 rfl g4 dX11_costNow_22 ?_
    obtain rfl := ret1 h
    rw [hQ]
    exact g_reti hx hb hr hlk hW dX11_costNow_23
  · have h := ite_t c3 h
    refine lv_sipush (v := 1000) hx hb dX11_costNow_11 (by decide) ?_
    refine lv_goto (tgt := 23) hx hb dX11_costNow_14 (by decide) ?_
    obtain rfl := ret1 h
    rw [hQ]
    exact g_reti hx hb hr hlk hW dX11_costNow_23
set_option maxHeartbeats 4000000 in
set_option maxRecDepth 100000 in
theorem c_X11_findFaults (l : Launch) (D : va_G) (T : Nat → ClassId) (A : Nat → Prop) (a_o : Nat → Nat) (Z : va_W)  (x_o : Ob) (p1 : Int32) (x_o9 : Ob) (h : f_X11_findFaults x_o p1 = some x_o9) : Met l yX11_findFaults (Cond.code yX11_findFaults cX11_findFaults 7 none :: wsL_law) (rmd 2) (Pg D T A (oc_X11 T a_o x_o ++ Z) [.ref (a_o 0), .int p1]) (Qgv D A (oc_X11 T a_o x_o9 ++ Z)) 0 0 A := by
  refine Met.ofW (cc := cX11_findFaults) (maxL := 7) (ret := none) (by decide +kernel) rfl ?_
  intro p e s m args below meth c s₁ B hml hv
  obtain ⟨ha, hP, hK, hD, hN⟩ := hv
  have hx := B.exec
  have hb := B.bytes
  have hr := B.returns
  have hlk := B.notSynchronized
  have hts : ∀ w ∈ wsL_law, w.before args s = true := fun w hw => atoms_spec B.pre w (List.mem_cons_of_mem _ hw)
  have hown : s.vm.findClass RX11 = some m.cls := findClass_of_methodNamed B.named
  have hW : Wd D A s.heap (oc_X11 T a_o x_o ++ Z) s.heap [] := ⟨hP, hD, va_S.rf⟩
  have hl := lv_entry [.ref (a_o 0), .int p1] (n := 7) (Nat.le_of_ble_eq_true rfl)
  refine W.eq (en_eq ha) ?_
  generalize (lg_sl [.ref (a_o 0), .int p1] ++ List.replicate (7 - (lg_sl [.ref (a_o 0), .int p1]).length) Slot.unset).toArray = ls at hl ⊢
  have hl : lv_has ls 7 [(0, .ref (a_o 0)), (1, .int p1)] := hl
  clear hP hD B ha
  obtain ⟨Q, hQ⟩ : ∃ Q, Q = MQ below (Qgv D A (oc_X11 T a_o x_o9 ++ Z)) args s 0 0 A := ⟨_, rfl⟩
  rw [← hQ]
  change W p l e (rmd 2) s m args below meth c s.heap [] 0 0 Q (F0 m 0 ls [])
  have L87 : ∀ (n : Nat) (x_o_87 : Ob) (v2_87 : Int32) (v3_87 : Int32) (v4_87 : Int32) (v5_87 : Int32) (v6_87 : Int32) (H : Heap) (locs : List Loc) (ls : Array Slot) (o6_87r : Int32) (y_o_87r : Ob), Wd D A s.heap (oc_X11 T a_o x_o_87 ++ Z) H locs → lv_has ls 7 [(0, .ref (a_o 0)), (2, .int v2_87), (3, .int v3_87), (4, .int v4_87), (5, .int v5_87), (6, .int v6_87)] → f_X11_findFaults_L87 n x_o_87 v2_87 v3_87 v4_87 v5_87 v6_87 = some (o6_87r, y_o_87r) → (∀ (H : Heap) (locs : List Loc) (ls : Array Slot), Wd D A s.heap (oc_X11 T a_o y_o_87r ++ Z) H locs → lv_has ls 7 [(0, .ref (a_o 0)), (2, .int v2_87), (3, .int v3_87), (4, .int v4_87)] → W p l e (rmd 2) s m args below meth c H locs 0 0 Q (F0 m 141 ls [])) → W p l e (rmd 2) s m args below meth c H locs 0 0 Q (F0 m 87 ls []) := by
    intro n
    induction n with
    | zero =>
      intro x_o_87 v2_87 v3_87 v4_87 v5_87 v6_87 H locs ls o6_87r y_o_87r hW hl h k1
      rw [f_X11_findFaults_L87] at h
      cases h
    | succ n ih =>
      intro x_o_87 v2_87 v3_87 v4_87 v5_87 v6_87 H locs ls o6_87r y_o_87r hW hl h k1
      rw [f_X11_findFaults_L87] at h
      refine lv_iload hx hb dX11_findFaults_87 (lv_at hl 5 rfl) ?_
      refine lv_iconst (v := 3) hx hb dX11_findFaults_89 (by decide) ?_
      refine lv_icmp_ge (tgt := 141) hx hb dX11_findFaults_90 (by decide) (fun c18 => ?_) (fun c18 => ?_)
      · have h := ite_t c18 h
        obtain ⟨rfl, rfl⟩ := ret2 h
        exact k1 H locs ls hW (lv_sub hl [0, 1, 2, 3] rfl)
      · have h := ite_f c18 h
        refine lv_iload hx hb dX11_findFaults_93 (lv_at hl 4 rfl) ?_
        refine lv_iload hx hb dX11_findFaults_95 (lv_at hl 5 rfl) ?_
        refine lv_ishr hx hb dX11_findFaults_97 ?_
        refine lv_iconst (v := 1) hx hb dX11_findFaults_98 (by decide) ?_
        refine lv_iand hx hb dX11_findFaults_99 ?_
        refine lv_iconst (v := 1) hx hb dX11_findFaults_100 (by decide) ?_
        refine lv_icmp_ne (tgt := 135) hx hb dX11_findFaults_101 (by decide) (fun c19 => ?_) (fun c19 => ?_)
        · have h := ite_f c19 h
          obtain ⟨w6_20, ew6_20⟩ : ∃ y : Int32, y = v6_87 + 1 := ⟨_, rfl⟩
          have h := lb_at ew6_20 h
          refine lv_iinc (v := w6_20) (lv' := [(6, .int w6_20), (0, .ref (a_o 0)), (2, .int v2_87), (3, .int v3_87), (4, .int v4_87), (5, .int v5_87)]) hx hb dX11_findFaults_135 hl (k := 5) rfl (by rw [ew6_20]; rfl) (by decide) rfl (fun ls hl => ?_)
          refine lv_goto (tgt := 87) hx hb dX11_findFaults_138 (by decide) ?_
          exact ih _ _ _ _ _ _ H locs ls _ _ hW (lv_sub hl [1, 2, 3, 4, 5, 0] rfl) h k1
        · have h := ite_t c19 h
          refine lv_aload_n hx hb dX11_findFaults_104 rfl (lv_at hl 0 rfl) ?_
          refine fg_X11_126 (v := .ref (a_o 39)) hx hb hts hown hK hW 0 rfl rfl dX11_findFaults_105 ?_
          refine lv_aload_n hx hb dX11_findFaults_108 rfl (lv_at hl 0 rfl) ?_
          refine fg_X11_307 (v := .int (x_o_87 43 0)) hx hb hts hown hK hW 0 rfl rfl dX11_findFaults_109 ?_
          refine lv_iload_n hx hb dX11_findFaults_112 rfl (lv_at hl 2 rfl) ?_
          obtain ⟨g21, h⟩ := grd_s h
          refine g_iast (ws9 := oc_X11 T a_o (upo x_o_87 44 (x_o_87 43 0).toNatClampNeg v3_87) ++ Z) hx hb hK hW 39 rfl g21 sa_X11_44 dX11_findFaults_113 (fun H locs hW => ?_)
          obtain ⟨x_o22, ex_o22⟩ : ∃ y : Ob, y = upo x_o_87 44 (x_o_87 43 0).toNatClampNeg v3_87 := ⟨_, rfl⟩
          rw [← ex_o22] at hW
          have h := lb_at ex_o22 h
          refine lv_aload_n hx hb dX11_findFaults_114 rfl (lv_at hl 0 rfl) ?_
          refine fg_X11_129 (v := .ref (a_o 40)) hx hb hts hown hK hW 0 rfl rfl dX11_findFaults_115 ?_
          refine lv_aload_n hx hb dX11_findFaults_118 rfl (lv_at hl 0 rfl) ?_
          refine fg_X11_307 (v := .int (x_o22 43 0)) hx hb hts hown hK hW 0 rfl rfl dX11_findFaults_119 ?_
          refine lv_iload hx hb dX11_findFaults_122 (lv_at hl 5 rfl) ?_
          obtain ⟨g23, h⟩ := grd_s h
          refine g_iast (ws9 := oc_X11 T a_o (upo x_o22 45 (x_o22 43 0).toNatClampNeg v6_87) ++ Z) hx hb hK hW 40 rfl g23 sa_X11_45 dX11_findFaults_124 (fun H locs hW => ?_)
          obtain ⟨x_o24, ex_o24⟩ : ∃ y : Ob, y = upo x_o22 45 (x_o22 43 0).toNatClampNeg v6_87 := ⟨_, rfl⟩
          rw [← ex_o24] at hW
          have h := lb_at ex_o24 h
          refine lv_aload_n hx hb dX11_findFaults_125 rfl (lv_at hl 0 rfl) ?_
          refine lv_dup hx hb dX11_findFaults_126 rfl ?_
          refine fg_X11_307 (v := .int (x_o24 43 0)) hx hb hts hown hK hW 0 rfl rfl dX11_findFaults_127 ?_
          refine lv_iconst (v := 1) hx hb dX11_findFaults_130 (by decide) ?_
          refine lv_iadd hx hb dX11_findFaults_131 ?_
          refine fp_X11_307 (ws9 := oc_X11 T a_o (upo x_o24 43 0 ((x_o24 43 0) + 1)) ++ Z) hx hb hts hown hK hW 0 rfl (Nat.le_of_ble_eq_true rfl) sf_X11_43 dX11_findFaults_132 (fun H locs hW => ?_)
          obtain ⟨x_o25, ex_o25⟩ : ∃ y : Ob, y = upo x_o24 43 0 ((x_o24 43 0) + 1) := ⟨_, rfl⟩
          rw [← ex_o25] at hW
          have h := lb_at ex_o25 h
          obtain ⟨w6_26, ew6_26⟩ : ∃ y : Int32, y = v6_87 + 1 := ⟨_, rfl⟩
          have h := lb_at ew6_26 h
          refine lv_iinc (v := w6_26) (lv' := [(6, .int w6_26), (0, .ref (a_o 0)), (2, .int v2_87), (3, .int v3_87), (4, .int v4_87), (5, .int v5_87)]) hx hb dX11_findFaults_135 hl (k := 5) rfl (by rw [ew6_26]; rfl) (by decide) rfl (fun ls hl => ?_)
          refine lv_goto (tgt := 87) hx hb dX11_findFaults_138 (by decide) ?_
          exact ih _ _ _ _ _ _ H locs ls _ _ hW (lv_sub hl [1, 2, 3, 4, 5, 0] rfl) h k1
  have L29 : ∀ (n : Nat) (x_o_29 : Ob) (v2_29 : Int32) (H : Heap) (locs : List Loc) (ls : Array Slot) (o2_29r : Int32) (y_o_29r : Ob), Wd D A s.heap (oc_X11 T a_o x_o_29 ++ Z) H locs → lv_has ls 7 [(0, .ref (a_o 0)), (2, .int v2_29)] → f_X11_findFaults_L29 n x_o_29 v2_29 = some (o2_29r, y_o_29r) → (∀ (H : Heap) (locs : List Loc) (ls : Array Slot), Wd D A s.heap (oc_X11 T a_o y_o_29r ++ Z) H locs → lv_has ls 7 [] → W p l e (rmd 2) s m args below meth c H locs 0 0 Q (F0 m 185 ls [])) → W p l e (rmd 2) s m args below meth c H locs 0 0 Q (F0 m 29 ls []) := by
    intro n
    induction n with
    | zero =>
      intro x_o_29 v2_29 H locs ls o2_29r y_o_29r hW hl h k1
      rw [f_X11_findFaults_L29] at h
      cases h
    | succ n ih =>
      intro x_o_29 v2_29 H locs ls o2_29r y_o_29r hW hl h k1
      rw [f_X11_findFaults_L29] at h
      refine lv_iload_n hx hb dX11_findFaults_29 rfl (lv_at hl 1 rfl) ?_
      refine lv_if_le (tgt := 185) hx hb dX11_findFaults_30 (by decide) (fun c5 => ?_) (fun c5 => ?_)
      · have h := ite_t c5 h
        obtain ⟨rfl, rfl⟩ := ret2 h
        exact k1 H locs ls hW (lv_sub hl [] rfl)
      · have h := ite_f c5 h
        obtain ⟨w2_6, ew2_6⟩ : ∃ y : Int32, y = v2_29 + (-1) := ⟨_, rfl⟩
        have h := lb_at ew2_6 h
        refine lv_iinc (v := w2_6) (lv' := [(2, .int w2_6), (0, .ref (a_o 0))]) hx hb dX11_findFaults_33 hl (k := 1) rfl (by rw [ew2_6]; rfl) (by decide) rfl (fun ls hl => ?_)
        refine lv_aload_n hx hb dX11_findFaults_36 rfl (lv_at hl 1 rfl) ?_
        refine fg_X11_132 (v := .ref (a_o 41)) hx hb hts hown hK hW 0 rfl rfl dX11_findFaults_37 ?_
        refine lv_iload_n hx hb dX11_findFaults_40 rfl (lv_at hl 0 rfl) ?_
        obtain ⟨g7, h⟩ := grd_s h
        refine g_iald hx hb hK hW 41 rfl g7 dX11_findFaults_41 ?_
        refine lv_topi (fun w3_8 ew3_8 => ?_)
        have h := lb_at ew3_8 h
        refine lv_istore_n (lv' := [(3, .int w3_8), (2, .int w2_6), (0, .ref (a_o 0))]) hx hb dX11_findFaults_42 rfl hl (by decide) rfl (fun ls hl => ?_)
        refine lv_aload_n hx hb dX11_findFaults_43 rfl (lv_at hl 2 rfl) ?_
        refine fg_X11_105 (v := .ref (a_o 32)) hx hb hts hown hK hW 0 rfl rfl dX11_findFaults_44 ?_
        refine lv_iload_n hx hb dX11_findFaults_47 rfl (lv_at hl 0 rfl) ?_
        obtain ⟨g9, h⟩ := grd_s h
        refine g_iald hx hb hK hW 32 rfl g9 dX11_findFaults_48 ?_
        refine lv_topi (fun w4_10 ew4_10 => ?_)
        have h := lb_at ew4_10 h
        refine lv_istore (lv' := [(4, .int w4_10), (3, .int w3_8), (2, .int w2_6), (0, .ref (a_o 0))]) hx hb dX11_findFaults_49 hl (by decide) rfl (fun ls hl => ?_)
        refine lv_iload hx hb dX11_findFaults_51 (lv_at hl 0 rfl) ?_
        refine lv_iconst (v := (-1)) hx hb dX11_findFaults_53 (by decide) ?_
        refine lv_icmp_eq (tgt := 182) hx hb dX11_findFaults_54 (by decide) (fun c11 => ?_) (fun c11 => ?_)
        · have h := ite_t c11 h
          refine lv_goto (tgt := 29) hx hb dX11_findFaults_182 (by decide) ?_
          exact ih _ _ H locs ls _ _ hW (lv_sub hl [3, 2] rfl) h k1
        · have h := ite_f c11 h
          refine lv_aload_n hx hb dX11_findFaults_57 rfl (lv_at hl 3 rfl) ?_
          refine lv_iload hx hb dX11_findFaults_58 (lv_at hl 0 rfl) ?_
          refine lv_aload_n hx hb dX11_findFaults_60 rfl (lv_at hl 3 rfl) ?_
          refine fg_X11_108 (v := .ref (a_o 33)) hx hb hts hown hK hW 0 rfl rfl dX11_findFaults_61 ?_
          refine lv_iload_n hx hb dX11_findFaults_64 rfl (lv_at hl 1 rfl) ?_
          obtain ⟨g12, h⟩ := grd_s h
          refine g_iald hx hb hK hW 33 rfl g12 dX11_findFaults_65 ?_
          refine lv_aload_n hx hb dX11_findFaults_66 rfl (lv_at hl 3 rfl) ?_
          refine fg_X11_111 (v := .ref (a_o 34)) hx hb hts hown hK hW 0 rfl rfl dX11_findFaults_67 ?_
          refine lv_iload_n hx hb dX11_findFaults_70 rfl (lv_at hl 1 rfl) ?_
          obtain ⟨g13, h⟩ := grd_s h
          refine g_iald hx hb hK hW 34 rfl g13 dX11_findFaults_71 ?_
          refine lv_aload_n hx hb dX11_findFaults_72 rfl (lv_at hl 3 rfl) ?_
          refine fg_X11_80 (v := .ref (a_o 24)) hx hb hts hown hK hW 0 rfl rfl dX11_findFaults_73 ?_
          refine lv_iload hx hb dX11_findFaults_76 (lv_at hl 0 rfl) ?_
          obtain ⟨g14, h⟩ := grd_s h
          refine g_iald hx hb hK hW 24 rfl g14 dX11_findFaults_78 ?_
          obtain ⟨r15, x_o16, q17, h⟩ := bnd2_s h
          refine cl_X11_274 hx hb hml hown hts hK hN hW (c_X11_use l D T A a_o (Z) x_o_29 w4_10 (x_o_29 36 w3_8.toNatClampNeg) (x_o_29 37 w3_8.toNatClampNeg) (x_o_29 26 w4_10.toNatClampNeg) r15 x_o16 q17) ⟨Nat.le_of_ble_eq_true rfl, Nat.le_of_ble_eq_true rfl⟩ hl.1 rfl (Nat.le_of_ble_eq_true rfl) dX11_findFaults_79 ⟨Nat.zero_le _, Nat.zero_le _⟩ rfl (fun H locs hW => ?_)
          refine lv_istore (lv' := [(5, .int r15), (4, .int w4_10), (3, .int w3_8), (2, .int w2_6), (0, .ref (a_o 0))]) hx hb dX11_findFaults_82 hl (by decide) rfl (fun ls hl => ?_)
          refine lv_iconst (v := 0) hx hb dX11_findFaults_84 (by decide) ?_
          refine lv_istore (lv' := [(6, .int 0), (5, .int r15), (4, .int w4_10), (3, .int w3_8), (2, .int w2_6), (0, .ref (a_o 0))]) hx hb dX11_findFaults_85 hl (by decide) rfl (fun ls hl => ?_)
          obtain ⟨o6_u27, y_o_u27, q28, h⟩ := bnd2_s h
          refine L87 200 _ _ _ _ _ _ H locs ls o6_u27 y_o_u27 hW (lv_sub hl [5, 4, 3, 2, 1, 0] rfl) q28 (fun H locs ls hW hl => ?_)
          refine lv_aload_n hx hb dX11_findFaults_141 rfl (lv_at hl 0 rfl) ?_
          refine fg_X11_74 (v := .ref (a_o 22)) hx hb hts hown hK hW 0 rfl rfl dX11_findFaults_142 ?_
          refine lv_iload hx hb dX11_findFaults_145 (lv_at hl 3 rfl) ?_
          obtain ⟨g29, h⟩ := grd_s h
          refine g_iald hx hb hK hW 22 rfl g29 dX11_findFaults_147 ?_
          refine lv_iconst (v := (-1)) hx hb dX11_findFaults_148 (by decide) ?_
          refine lv_icmp_eq (tgt := 167) hx hb dX11_findFaults_149 (by decide) (fun c30 => ?_) (fun c30 => ?_)
          · have h := ite_t c30 h
            refine lv_aload_n hx hb dX11_findFaults_167 rfl (lv_at hl 0 rfl) ?_
            refine fg_X11_132 (v := .ref (a_o 41)) hx hb hts hown hK hW 0 rfl rfl dX11_findFaults_168 ?_
            refine lv_iload_n hx hb dX11_findFaults_171 rfl (lv_at hl 1 rfl) ?_
            refine lv_aload_n hx hb dX11_findFaults_172 rfl (lv_at hl 0 rfl) ?_
            refine fg_X11_108 (v := .ref (a_o 33)) hx hb hts hown hK hW 0 rfl rfl dX11_findFaults_173 ?_
            refine lv_iload_n hx hb dX11_findFaults_176 rfl (lv_at hl 2 rfl) ?_
            obtain ⟨g31, h⟩ := grd_s h
            refine g_iald hx hb hK hW 33 rfl g31 dX11_findFaults_177 ?_
            obtain ⟨g32, h⟩ := grd_s h
            refine g_iast (ws9 := oc_X11 T a_o (upo y_o_u27 46 w2_6.toNatClampNeg (y_o_u27 36 w3_8.toNatClampNeg)) ++ Z) hx hb hK hW 41 rfl g32 sa_X11_46 dX11_findFaults_178 (fun H locs hW => ?_)
            obtain ⟨x_o33, ex_o33⟩ : ∃ y : Ob, y = upo y_o_u27 46 w2_6.toNatClampNeg (y_o_u27 36 w3_8.toNatClampNeg) := ⟨_, rfl⟩
            rw [← ex_o33] at hW
            have h := lb_at ex_o33 h
            obtain ⟨w2_34, ew2_34⟩ : ∃ y : Int32, y = w2_6 + 1 := ⟨_, rfl⟩
            have h := lb_at ew2_34 h
            refine lv_iinc (v := w2_34) (lv' := [(2, .int w2_34), (0, .ref (a_o 0)), (3, .int w3_8), (4, .int w4_10)]) hx hb dX11_findFaults_179 hl (k := 1) rfl (by rw [ew2_34]; rfl) (by decide) rfl (fun ls hl => ?_)
            refine lv_goto (tgt := 29) hx hb dX11_findFaults_182 (by decide) ?_
            exact ih _ _ H locs ls _ _ hW (lv_sub hl [1, 0] rfl) h k1
          · have h := ite_f c30 h
            refine lv_aload_n hx hb dX11_findFaults_152 rfl (lv_at hl 0 rfl) ?_
            refine fg_X11_132 (v := .ref (a_o 41)) hx hb hts hown hK hW 0 rfl rfl dX11_findFaults_153 ?_
            refine lv_iload_n hx hb dX11_findFaults_156 rfl (lv_at hl 1 rfl) ?_
            refine lv_aload_n hx hb dX11_findFaults_157 rfl (lv_at hl 0 rfl) ?_
            refine fg_X11_111 (v := .ref (a_o 34)) hx hb hts hown hK hW 0 rfl rfl dX11_findFaults_158 ?_
            refine lv_iload_n hx hb dX11_findFaults_161 rfl (lv_at hl 2 rfl) ?_
            obtain ⟨g35, h⟩ := grd_s h
            refine g_iald hx hb hK hW 34 rfl g35 dX11_findFaults_162 ?_
            obtain ⟨g36, h⟩ := grd_s h
            refine g_iast (ws9 := oc_X11 T a_o (upo y_o_u27 46 w2_6.toNatClampNeg (y_o_u27 37 w3_8.toNatClampNeg)) ++ Z) hx hb hK hW 41 rfl g36 sa_X11_46 dX11_findFaults_163 (fun H locs hW => ?_)
            obtain ⟨x_o37, ex_o37⟩ : ∃ y : Ob, y = upo y_o_u27 46 w2_6.toNatClampNeg (y_o_u27 37 w3_8.toNatClampNeg) := ⟨_, rfl⟩
            rw [← ex_o37] at hW
            have h := lb_at ex_o37 h
            obtain ⟨w2_38, ew2_38⟩ : ∃ y : Int32, y = w2_6 + 1 := ⟨_, rfl⟩
            have h := lb_at ew2_38 h
            refine lv_iinc (v := w2_38) (lv' := [(2, .int w2_38), (0, .ref (a_o 0)), (3, .int w3_8), (4, .int w4_10)]) hx hb dX11_findFaults_164 hl (k := 1) rfl (by rw [ew2_38]; rfl) (by decide) rfl (fun ls hl => ?_)
            refine lv_aload_n hx hb dX11_findFaults_167 rfl (lv_at hl 1 rfl) ?_
            refine fg_X11_132 (v := .ref (a_o 41)) hx hb hts hown hK hW 0 rfl rfl dX11_findFaults_168 ?_
            refine lv_iload_n hx hb dX11_findFaults_171 rfl (lv_at hl 0 rfl) ?_
            refine lv_aload_n hx hb dX11_findFaults_172 rfl (lv_at hl 1 rfl) ?_
            refine fg_X11_108 (v := .ref (a_o 33)) hx hb hts hown hK hW 0 rfl rfl dX11_findFaults_173 ?_
            refine lv_iload_n hx hb dX11_findFaults_176 rfl (lv_at hl 2 rfl) ?_
            obtain ⟨g39, h⟩ := grd_s h
            refine g_iald hx hb hK hW 33 rfl g39 dX11_findFaults_177 ?_
            obtain ⟨g40, h⟩ := grd_s h
            refine g_iast (ws9 := oc_X11 T a_o (upo x_o37 46 w2_38.toNatClampNeg (x_o37 36 w3_8.toNatClampNeg)) ++ Z) hx hb hK hW 41 rfl g40 sa_X11_46 dX11_findFaults_178 (fun H locs hW => ?_)
            obtain ⟨x_o41, ex_o41⟩ : ∃ y : Ob, y = upo x_o37 46 w2_38.toNatClampNeg (x_o37 36 w3_8.toNatClampNeg) := ⟨_, rfl⟩
            rw [← ex_o41] at hW
            have h := lb_at ex_o41 h
            obtain ⟨w2_42, ew2_42⟩ : ∃ y : Int32, y = w2_38 + 1 := ⟨_, rfl⟩
            have h := lb_at ew2_42 h
            refine lv_iinc (v := w2_42) (lv' := [(2, .int w2_42), (0, .ref (a_o 0)), (3, .int w3_8), (4, .int w4_10)]) hx hb dX11_findFaults_179 hl (k := 0) rfl (by rw [ew2_42]; rfl) (by decide) rfl (fun ls hl => ?_)
            refine lv_goto (tgt := 29) hx hb dX11_findFaults_182 (by decide) ?_
            exact ih _ _ H locs ls _ _ hW (lv_sub hl [1, 0] rfl) h k1
  have J29 : ∀ (x_o_29 : Ob) (v2_29 : Int32) (H : Heap) (locs : List Loc) (ls : Array Slot), Wd D A s.heap (oc_X11 T a_o x_o_29 ++ Z) H locs → lv_has ls 7 [(0, .ref (a_o 0)), (2, .int v2_29)] → f_X11_findFaults_J29 x_o_29 v2_29 = some x_o9 → W p l e (rmd 2) s m args below meth c H locs 0 0 Q (F0 m 29 ls []) := by
    intro x_o_29 v2_29 H locs ls hW hl h
    rw [f_X11_findFaults_J29] at h
    obtain ⟨o2_u43, y_o_u43, q44, h⟩ := bnd2_s h
    refine L29 200 _ _ H locs ls o2_u43 y_o_u43 hW (lv_sub hl [0, 1] rfl) q44 (fun H locs ls hW hl => ?_)
    obtain rfl := ret1 h
    rw [hQ]
    exact g_retv hx hb hr hlk hW dX11_findFaults_185
  rw [f_X11_findFaults] at h
  suffices hm : ∀ (H : Heap) (locs : List Loc), Wd D A s.heap (oc_X11 T a_o x_o ++ Z) H locs → W p l e (rmd 2) s m args below meth c H locs 0 0 Q (F0 m 0 ls []) from hm _ _ hW
  intro H locs hW
  refine lv_aload_n hx hb dX11_findFaults_0 rfl (lv_at hl 0 rfl) ?_
  refine lv_iconst (v := 0) hx hb dX11_findFaults_1 (by decide) ?_
  refine fp_X11_307 (ws9 := oc_X11 T a_o (upo x_o 43 0 0) ++ Z) hx hb hts hown hK hW 0 rfl (Nat.le_of_ble_eq_true rfl) sf_X11_43 dX11_findFaults_2 (fun H locs hW => ?_)
  obtain ⟨x_o1, ex_o1⟩ : ∃ y : Ob, y = upo x_o 43 0 0 := ⟨_, rfl⟩
  rw [← ex_o1] at hW
  have h := lb_at ex_o1 h
  refine lv_iconst (v := 0) hx hb dX11_findFaults_5 (by decide) ?_
  refine lv_istore_n (lv' := [(2, .int 0), (0, .ref (a_o 0)), (1, .int p1)]) hx hb dX11_findFaults_6 rfl hl (by decide) rfl (fun ls hl => ?_)
  refine lv_aload_n hx hb dX11_findFaults_7 rfl (lv_at hl 1 rfl) ?_
  refine lv_iload_n hx hb dX11_findFaults_8 rfl (lv_at hl 2 rfl) ?_
  obtain ⟨r2, q3, h⟩ := bnd1_s h
  refine cl_X11_304 hx hb hml hown hts hK hN hW (c_X11_whole l D T A a_o (Z) x_o1 p1 r2 q3) ⟨Nat.le_of_ble_eq_true rfl, Nat.le_of_ble_eq_true rfl⟩ hl.1 rfl (Nat.le_of_ble_eq_true rfl) dX11_findFaults_9 ⟨Nat.zero_le _, Nat.zero_le _⟩ rfl (fun H locs hW => ?_)
  refine lv_iconst (v := (-1)) hx hb dX11_findFaults_12 (by decide) ?_
  refine lv_icmp_eq (tgt := 29) hx hb dX11_findFaults_13 (by decide) (fun c4 => ?_) (fun c4 => ?_)
  · have h := ite_t c4 h
    exact J29 _ _ H locs ls hW (lv_sub hl [1, 0] rfl) h
  · have h := ite_f c4 h
    refine lv_aload_n hx hb dX11_findFaults_16 rfl (lv_at hl 1 rfl) ?_
    refine fg_X11_132 (v := .ref (a_o 41)) hx hb hts hown hK hW 0 rfl rfl dX11_findFaults_17 ?_
    refine lv_iconst (v := 0) hx hb dX11_findFaults_20 (by decide) ?_
    refine lv_aload_n hx hb dX11_findFaults_21 rfl (lv_at hl 1 rfl) ?_
    refine lv_iload_n hx hb dX11_findFaults_22 rfl (lv_at hl 2 rfl) ?_
    obtain ⟨r45, q46, h⟩ := bnd1_s h
    refine cl_X11_304 hx hb hml hown hts hK hN hW (c_X11_whole l D T A a_o (Z) x_o1 p1 r45 q46) ⟨Nat.le_of_ble_eq_true rfl, Nat.le_of_ble_eq_true rfl⟩ hl.1 rfl (Nat.le_of_ble_eq_true rfl) dX11_findFaults_23 ⟨Nat.zero_le _, Nat.zero_le _⟩ rfl (fun H locs hW => ?_)
    refine g_iast (ws9 := oc_X11 T a_o (upo x_o1 46 (0 : Int32).toNatClampNeg r45) ++ Z) hx hb hK hW 41 rfl (by decide) sa_X11_46 dX11_findFaults_26 (fun H locs hW => ?_)
    obtain ⟨x_o47, ex_o47⟩ : ∃ y : Ob, y = upo x_o1 46 (0 : Int32).toNatClampNeg r45 := ⟨_, rfl⟩
    rw [← ex_o47] at hW
    have h := lb_at ex_o47 h
    refine lv_iconst (v := 1) hx hb dX11_findFaults_27 (by decide) ?_
    refine lv_istore_n (lv' := [(2, .int 1), (0, .ref (a_o 0)), (1, .int p1)]) hx hb dX11_findFaults_28 rfl hl (by decide) rfl (fun ls hl => ?_)
    exact J29 _ _ H locs ls hW (lv_sub hl [1, 0] rfl) h
set_option maxHeartbeats 4000000 in
set_option maxRecDepth 100000 in
theorem c_X11_findFragments (l : Launch) (D : va_G) (T : Nat → ClassId) (A : Nat → Prop) (a_o : Nat → Nat) (Z : va_W)  (x_o : Ob) (p1 : Int32) (x_o9 : Ob) (h : f_X11_findFragments x_o p1 = some x_o9) : Met l yX11_findFragments (Cond.code yX11_findFragments cX11_findFragments 9 none :: wsL_law) (rmd 1) (Pg D T A (oc_X11 T a_o x_o ++ Z) [.ref (a_o 0), .int p1]) (Qgv D A (oc_X11 T a_o x_o9 ++ Z)) 0 0 A := by
  refine Met.ofW (cc := cX11_findFragments) (maxL := 9) (ret := none) (by decide +kernel) rfl ?_
  intro p e s m args below meth c s₁ B hml hv
  obtain ⟨ha, hP, hK, hD, hN⟩ := hv
  have hx := B.exec
  have hb := B.bytes
  have hr := B.returns
  have hlk := B.notSynchronized
  have hts : ∀ w ∈ wsL_law, w.before args s = true := fun w hw => atoms_spec B.pre w (List.mem_cons_of_mem _ hw)
  have hown : s.vm.findClass RX11 = some m.cls := findClass_of_methodNamed B.named
  have hW : Wd D A s.heap (oc_X11 T a_o x_o ++ Z) s.heap [] := ⟨hP, hD, va_S.rf⟩
  have hl := lv_entry [.ref (a_o 0), .int p1] (n := 9) (Nat.le_of_ble_eq_true rfl)
  refine W.eq (en_eq ha) ?_
  generalize (lg_sl [.ref (a_o 0), .int p1] ++ List.replicate (9 - (lg_sl [.ref (a_o 0), .int p1]).length) Slot.unset).toArray = ls at hl ⊢
  have hl : lv_has ls 9 [(0, .ref (a_o 0)), (1, .int p1)] := hl
  clear hP hD B ha
  obtain ⟨Q, hQ⟩ : ∃ Q, Q = MQ below (Qgv D A (oc_X11 T a_o x_o9 ++ Z)) args s 0 0 A := ⟨_, rfl⟩
  rw [← hQ]
  change W p l e (rmd 1) s m args below meth c s.heap [] 0 0 Q (F0 m 0 ls [])
  have L95 : ∀ (n : Nat) (x_o_95 : Ob) (v1_95 : Int32) (v2_95 : Int32) (v3_95 : Int32) (v4_95 : Int32) (v5_95 : Int32) (v6_95 : Int32) (v7_95 : Int32) (H : Heap) (locs : List Loc) (ls : Array Slot) (o6_95r : Int32) (o7_95r : Int32), Wd D A s.heap (oc_X11 T a_o x_o_95 ++ Z) H locs → lv_has ls 9 [(0, .ref (a_o 0)), (1, .int v1_95), (2, .int v2_95), (3, .int v3_95), (4, .int v4_95), (5, .int v5_95), (6, .int v6_95), (7, .int v7_95)] → f_X11_findFragments_L95 n x_o_95 v1_95 v2_95 v3_95 v4_95 v5_95 v6_95 v7_95 = some (o6_95r, o7_95r) → (∀ (H : Heap) (locs : List Loc) (ls : Array Slot), Wd D A s.heap (oc_X11 T a_o x_o_95 ++ Z) H locs → lv_has ls 9 [(0, .ref (a_o 0)), (1, .int v1_95), (2, .int v2_95), (3, .int v3_95), (4, .int v4_95), (6, .int o6_95r)] → W p l e (rmd 1) s m args below meth c H locs 0 0 Q (F0 m 161 ls [])) → W p l e (rmd 1) s m args below meth c H locs 0 0 Q (F0 m 95 ls []) := by
    intro n
    induction n with
    | zero =>
      intro x_o_95 v1_95 v2_95 v3_95 v4_95 v5_95 v6_95 v7_95 H locs ls o6_95r o7_95r hW hl h k1
      rw [f_X11_findFragments_L95] at h
      cases h
    | succ n ih =>
      intro x_o_95 v1_95 v2_95 v3_95 v4_95 v5_95 v6_95 v7_95 H locs ls o6_95r o7_95r hW hl h k1
      rw [f_X11_findFragments_L95] at h
      refine lv_iload hx hb dX11_findFragments_95 (lv_at hl 7 rfl) ?_
      refine lv_aload_n hx hb dX11_findFragments_97 rfl (lv_at hl 0 rfl) ?_
      refine fg_X11_117 (v := .ref (a_o 36)) hx hb hts hown hK hW 0 rfl rfl dX11_findFragments_98 ?_
      refine lv_iload hx hb dX11_findFragments_101 (lv_at hl 5 rfl) ?_
      obtain ⟨g14, h⟩ := grd_s h
      refine g_iald hx hb hK hW 36 rfl g14 dX11_findFragments_103 ?_
      refine lv_icmp_ge (tgt := 161) hx hb dX11_findFragments_104 (by decide) (fun c15 => ?_) (fun c15 => ?_)
      · have h := ite_t c15 h
        obtain ⟨rfl, rfl⟩ := ret2 h
        exact k1 H locs ls hW (lv_sub hl [0, 1, 2, 3, 4, 6] rfl)
      · have h := ite_f c15 h
        refine lv_aload_n hx hb dX11_findFragments_107 rfl (lv_at hl 0 rfl) ?_
        refine fg_X11_102 (v := .ref (a_o 31)) hx hb hts hown hK hW 0 rfl rfl dX11_findFragments_108 ?_
        refine lv_aload_n hx hb dX11_findFragments_111 rfl (lv_at hl 0 rfl) ?_
        refine fg_X11_120 (v := .ref (a_o 37)) hx hb hts hown hK hW 0 rfl rfl dX11_findFragments_112 ?_
        refine lv_bipush (v := 8) hx hb dX11_findFragments_115 (by decide) ?_
        refine lv_iload hx hb dX11_findFragments_117 (lv_at hl 5 rfl) ?_
        refine lv_imul hx hb dX11_findFragments_119 ?_
        refine lv_iload hx hb dX11_findFragments_120 (lv_at hl 7 rfl) ?_
        refine lv_iadd hx hb dX11_findFragments_122 ?_
        obtain ⟨g16, h⟩ := grd_s h
        refine g_iald hx hb hK hW 37 rfl g16 dX11_findFragments_123 ?_
        obtain ⟨g17, h⟩ := grd_s h
        refine g_iald hx hb hK hW 31 rfl g17 dX11_findFragments_124 ?_
        refine lv_iload hx hb dX11_findFragments_125 (lv_at hl 6 rfl) ?_
        refine lv_icmp_ge (tgt := 151) hx hb dX11_findFragments_127 (by decide) (fun c18 => ?_) (fun c18 => ?_)
        · have h := ite_t c18 h
          refine lv_iload hx hb dX11_findFragments_151 (lv_at hl 6 rfl) ?_
          refine lv_istore (lv' := [(6, .int v6_95), (0, .ref (a_o 0)), (1, .int v1_95), (2, .int v2_95), (3, .int v3_95), (4, .int v4_95), (5, .int v5_95), (7, .int v7_95)]) hx hb dX11_findFragments_153 hl (by decide) rfl (fun ls hl => ?_)
          obtain ⟨w7_19, ew7_19⟩ : ∃ y : Int32, y = v7_95 + 1 := ⟨_, rfl⟩
          have h := lb_at ew7_19 h
          refine lv_iinc (v := w7_19) (lv' := [(7, .int w7_19), (6, .int v6_95), (0, .ref (a_o 0)), (1, .int v1_95), (2, .int v2_95), (3, .int v3_95), (4, .int v4_95), (5, .int v5_95)]) hx hb dX11_findFragments_155 hl (k := 7) rfl (by rw [ew7_19]; rfl) (by decide) rfl (fun ls hl => ?_)
          refine lv_goto (tgt := 95) hx hb dX11_findFragments_158 (by decide) ?_
          exact ih _ _ _ _ _ _ _ _ H locs ls _ _ hW (lv_sub hl [2, 3, 4, 5, 6, 7, 1, 0] rfl) h k1
        · have h := ite_f c18 h
          refine lv_aload_n hx hb dX11_findFragments_130 rfl (lv_at hl 0 rfl) ?_
          refine fg_X11_102 (v := .ref (a_o 31)) hx hb hts hown hK hW 0 rfl rfl dX11_findFragments_131 ?_
          refine lv_aload_n hx hb dX11_findFragments_134 rfl (lv_at hl 0 rfl) ?_
          refine fg_X11_120 (v := .ref (a_o 37)) hx hb hts hown hK hW 0 rfl rfl dX11_findFragments_135 ?_
          refine lv_bipush (v := 8) hx hb dX11_findFragments_138 (by decide) ?_
          refine lv_iload hx hb dX11_findFragments_140 (lv_at hl 5 rfl) ?_
          refine lv_imul hx hb dX11_findFragments_142 ?_
          refine lv_iload hx hb dX11_findFragments_143 (lv_at hl 7 rfl) ?_
          refine lv_iadd hx hb dX11_findFragments_145 ?_
          obtain ⟨g20, h⟩ := grd_s h
          refine g_iald hx hb hK hW 37 rfl g20 dX11_findFragments_146 ?_
          obtain ⟨g21, h⟩ := grd_s h
          refine g_iald hx hb hK hW 31 rfl g21 dX11_findFragments_147 ?_
          refine lv_goto (tgt := 153) hx hb dX11_findFragments_148 (by decide) ?_
          refine lv_topi (fun w6_22 ew6_22 => ?_)
          have h := lb_at ew6_22 h
          refine lv_istore (lv' := [(6, .int w6_22), (0, .ref (a_o 0)), (1, .int v1_95), (2, .int v2_95), (3, .int v3_95), (4, .int v4_95), (5, .int v5_95), (7, .int v7_95)]) hx hb dX11_findFragments_153 hl (by decide) rfl (fun ls hl => ?_)
          obtain ⟨w7_23, ew7_23⟩ : ∃ y : Int32, y = v7_95 + 1 := ⟨_, rfl⟩
          have h := lb_at ew7_23 h
          refine lv_iinc (v := w7_23) (lv' := [(7, .int w7_23), (6, .int w6_22), (0, .ref (a_o 0)), (1, .int v1_95), (2, .int v2_95), (3, .int v3_95), (4, .int v4_95), (5, .int v5_95)]) hx hb dX11_findFragments_155 hl (k := 7) rfl (by rw [ew7_23]; rfl) (by decide) rfl (fun ls hl => ?_)
          refine lv_goto (tgt := 95) hx hb dX11_findFragments_158 (by decide) ?_
          exact ih _ _ _ _ _ _ _ _ H locs ls _ _ hW (lv_sub hl [2, 3, 4, 5, 6, 7, 1, 0] rfl) h k1
  have J229 : ∀ (x_o_229 : Ob) (v1_229 : Int32) (v2_229 : Int32) (v3_229 : Int32) (v4_229 : Int32) (v7_229 : Int32) (v8_229 : Int32) (H : Heap) (locs : List Loc) (ls : Array Slot) (code : Nat) (o4j : Int32) (y_oj : Ob), Wd D A s.heap (oc_X11 T a_o x_o_229 ++ Z) H locs → lv_has ls 9 [(0, .ref (a_o 0)), (1, .int v1_229), (2, .int v2_229), (3, .int v3_229), (4, .int v4_229), (7, .int v7_229), (8, .int v8_229)] → f_X11_findFragments_J229 x_o_229 v1_229 v2_229 v3_229 v4_229 v7_229 v8_229 = some (code, o4j, y_oj) → (code = 0 → ∀ (H : Heap) (locs : List Loc) (ls : Array Slot), Wd D A s.heap (oc_X11 T a_o y_oj ++ Z) H locs → lv_has ls 9 [(0, .ref (a_o 0)), (1, .int v1_229), (2, .int v2_229), (3, .int v3_229), (4, .int o4j)] → W p l e (rmd 1) s m args below meth c H locs 0 0 Q (F0 m 40 ls [])) → (code = 1 → ∀ (H : Heap) (locs : List Loc) (ls : Array Slot), Wd D A s.heap (oc_X11 T a_o y_oj ++ Z) H locs → lv_has ls 9 [(0, .ref (a_o 0)), (1, .int v1_229), (2, .int v2_229), (3, .int v3_229)] → W p l e (rmd 1) s m args below meth c H locs 0 0 Q (F0 m 259 ls [])) → W p l e (rmd 1) s m args below meth c H locs 0 0 Q (F0 m 229 ls []) := by
    intro x_o_229 v1_229 v2_229 v3_229 v4_229 v7_229 v8_229 H locs ls code o4j y_oj hW hl h k0 k1
    rw [f_X11_findFragments_J229] at h
    refine lv_aload_n hx hb dX11_findFragments_229 rfl (lv_at hl 0 rfl) ?_
    refine fg_X11_138 (v := .ref (a_o 43)) hx hb hts hown hK hW 0 rfl rfl dX11_findFragments_230 ?_
    refine lv_iload_n hx hb dX11_findFragments_233 rfl (lv_at hl 3 rfl) ?_
    refine lv_iload hx hb dX11_findFragments_234 (lv_at hl 5 rfl) ?_
    obtain ⟨g34, h⟩ := grd_s h
    refine g_iast (ws9 := oc_X11 T a_o (upo x_o_229 49 v3_229.toNatClampNeg v7_229) ++ Z) hx hb hK hW 43 rfl g34 sa_X11_49 dX11_findFragments_236 (fun H locs hW => ?_)
    obtain ⟨x_o35, ex_o35⟩ : ∃ y : Ob, y = upo x_o_229 49 v3_229.toNatClampNeg v7_229 := ⟨_, rfl⟩
    rw [← ex_o35] at hW
    have h := lb_at ex_o35 h
    refine lv_aload_n hx hb dX11_findFragments_237 rfl (lv_at hl 0 rfl) ?_
    refine fg_X11_141 (v := .ref (a_o 44)) hx hb hts hown hK hW 0 rfl rfl dX11_findFragments_238 ?_
    refine lv_iload_n hx hb dX11_findFragments_241 rfl (lv_at hl 3 rfl) ?_
    refine lv_iload hx hb dX11_findFragments_242 (lv_at hl 6 rfl) ?_
    obtain ⟨g36, h⟩ := grd_s h
    refine g_iast (ws9 := oc_X11 T a_o (upo x_o35 50 v3_229.toNatClampNeg v8_229) ++ Z) hx hb hK hW 44 rfl g36 sa_X11_50 dX11_findFragments_244 (fun H locs hW => ?_)
    obtain ⟨x_o37, ex_o37⟩ : ∃ y : Ob, y = upo x_o35 50 v3_229.toNatClampNeg v8_229 := ⟨_, rfl⟩
    rw [← ex_o37] at hW
    have h := lb_at ex_o37 h
    refine lv_aload_n hx hb dX11_findFragments_245 rfl (lv_at hl 0 rfl) ?_
    refine fg_X11_144 (v := .ref (a_o 45)) hx hb hts hown hK hW 0 rfl rfl dX11_findFragments_246 ?_
    refine lv_iload_n hx hb dX11_findFragments_249 rfl (lv_at hl 3 rfl) ?_
    refine lv_iload hx hb dX11_findFragments_250 (lv_at hl 4 rfl) ?_
    obtain ⟨g38, h⟩ := grd_s h
    refine g_iast (ws9 := oc_X11 T a_o (upo x_o37 51 v3_229.toNatClampNeg v4_229) ++ Z) hx hb hK hW 45 rfl g38 sa_X11_51 dX11_findFragments_252 (fun H locs hW => ?_)
    obtain ⟨x_o39, ex_o39⟩ : ∃ y : Ob, y = upo x_o37 51 v3_229.toNatClampNeg v4_229 := ⟨_, rfl⟩
    rw [← ex_o39] at hW
    have h := lb_at ex_o39 h
    obtain ⟨w4_40, ew4_40⟩ : ∃ y : Int32, y = v4_229 + 1 := ⟨_, rfl⟩
    have h := lb_at ew4_40 h
    refine lv_iinc (v := w4_40) (lv' := [(4, .int w4_40), (0, .ref (a_o 0)), (1, .int v1_229), (2, .int v2_229), (3, .int v3_229), (7, .int v7_229), (8, .int v8_229)]) hx hb dX11_findFragments_253 hl (k := 4) rfl (by rw [ew4_40]; rfl) (by decide) rfl (fun ls hl => ?_)
    refine lv_goto (tgt := 40) hx hb dX11_findFragments_256 (by decide) ?_
    obtain ⟨rfl, rfl, rfl⟩ := ret3 h
    exact k0 rfl H locs ls hW (lv_sub hl [1, 2, 3, 4, 0] rfl)
  have J90 : ∀ (x_o_90 : Ob) (v1_90 : Int32) (v2_90 : Int32) (v3_90 : Int32) (v4_90 : Int32) (v5_90 : Int32) (s0_90 : Int32) (H : Heap) (locs : List Loc) (ls : Array Slot) (code : Nat) (o4j : Int32) (y_oj : Ob), Wd D A s.heap (oc_X11 T a_o x_o_90 ++ Z) H locs → lv_has ls 9 [(0, .ref (a_o 0)), (1, .int v1_90), (2, .int v2_90), (3, .int v3_90), (4, .int v4_90), (5, .int v5_90)] → f_X11_findFragments_J90 x_o_90 v1_90 v2_90 v3_90 v4_90 v5_90 s0_90 = some (code, o4j, y_oj) → (code = 0 → ∀ (H : Heap) (locs : List Loc) (ls : Array Slot), Wd D A s.heap (oc_X11 T a_o y_oj ++ Z) H locs → lv_has ls 9 [(0, .ref (a_o 0)), (1, .int v1_90), (2, .int v2_90), (3, .int v3_90), (4, .int o4j)] → W p l e (rmd 1) s m args below meth c H locs 0 0 Q (F0 m 40 ls [])) → (code = 1 → ∀ (H : Heap) (locs : List Loc) (ls : Array Slot), Wd D A s.heap (oc_X11 T a_o y_oj ++ Z) H locs → lv_has ls 9 [(0, .ref (a_o 0)), (1, .int v1_90), (2, .int v2_90), (3, .int v3_90)] → W p l e (rmd 1) s m args below meth c H locs 0 0 Q (F0 m 259 ls [])) → W p l e (rmd 1) s m args below meth c H locs 0 0 Q (F0 m 90 ls [.int s0_90]) := by
    intro x_o_90 v1_90 v2_90 v3_90 v4_90 v5_90 s0_90 H locs ls code o4j y_oj hW hl h k0 k1
    rw [f_X11_findFragments_J90] at h
    refine lv_istore (lv' := [(6, .int s0_90), (0, .ref (a_o 0)), (1, .int v1_90), (2, .int v2_90), (3, .int v3_90), (4, .int v4_90), (5, .int v5_90)]) hx hb dX11_findFragments_90 hl (by decide) rfl (fun ls hl => ?_)
    refine lv_iconst (v := 0) hx hb dX11_findFragments_92 (by decide) ?_
    refine lv_istore (lv' := [(7, .int 0), (6, .int s0_90), (0, .ref (a_o 0)), (1, .int v1_90), (2, .int v2_90), (3, .int v3_90), (4, .int v4_90), (5, .int v5_90)]) hx hb dX11_findFragments_93 hl (by decide) rfl (fun ls hl => ?_)
    obtain ⟨o6_u24, o7_u24, q25, h⟩ := bnd2_s h
    refine L95 200 _ _ _ _ _ _ _ _ H locs ls o6_u24 o7_u24 hW (lv_sub hl [2, 3, 4, 5, 6, 7, 1, 0] rfl) q25 (fun H locs ls hW hl => ?_)
    refine lv_iconst (v := 1) hx hb dX11_findFragments_161 (by decide) ?_
    refine lv_aload_n hx hb dX11_findFragments_162 rfl (lv_at hl 0 rfl) ?_
    refine fg_X11_138 (v := .ref (a_o 43)) hx hb hts hown hK hW 0 rfl rfl dX11_findFragments_163 ?_
    refine lv_iload_n hx hb dX11_findFragments_166 rfl (lv_at hl 3 rfl) ?_
    refine lv_iload hx hb dX11_findFragments_167 (lv_at hl 4 rfl) ?_
    refine lv_iadd hx hb dX11_findFragments_169 ?_
    obtain ⟨g26, h⟩ := grd_s h
    refine g_iald hx hb hK hW 43 rfl g26 dX11_findFragments_170 ?_
    refine lv_iadd hx hb dX11_findFragments_171 ?_
    refine lv_topi (fun w7_27 ew7_27 => ?_)
    have h := lb_at ew7_27 h
    refine lv_istore (lv' := [(7, .int w7_27), (0, .ref (a_o 0)), (1, .int v1_90), (2, .int v2_90), (3, .int v3_90), (4, .int v4_90), (6, .int o6_u24)]) hx hb dX11_findFragments_172 hl (by decide) rfl (fun ls hl => ?_)
    refine lv_iload hx hb dX11_findFragments_174 (lv_at hl 6 rfl) ?_
    refine lv_aload_n hx hb dX11_findFragments_176 rfl (lv_at hl 1 rfl) ?_
    refine fg_X11_141 (v := .ref (a_o 44)) hx hb hts hown hK hW 0 rfl rfl dX11_findFragments_177 ?_
    refine lv_iload_n hx hb dX11_findFragments_180 rfl (lv_at hl 4 rfl) ?_
    refine lv_iload hx hb dX11_findFragments_181 (lv_at hl 5 rfl) ?_
    refine lv_iadd hx hb dX11_findFragments_183 ?_
    obtain ⟨g28, h⟩ := grd_s h
    refine g_iald hx hb hK hW 44 rfl g28 dX11_findFragments_184 ?_
    refine lv_iadd hx hb dX11_findFragments_185 ?_
    refine lv_topi (fun w8_29 ew8_29 => ?_)
    have h := lb_at ew8_29 h
    refine lv_istore (lv' := [(8, .int w8_29), (7, .int w7_27), (0, .ref (a_o 0)), (1, .int v1_90), (2, .int v2_90), (3, .int v3_90), (4, .int v4_90), (6, .int o6_u24)]) hx hb dX11_findFragments_186 hl (by decide) rfl (fun ls hl => ?_)
    refine lv_iload hx hb dX11_findFragments_188 (lv_at hl 7 rfl) ?_
    refine lv_ldcw (v := 100000) hx hb hown (hts _ wm43_6) dX11_findFragments_190 ?_
    refine lv_icmp_ge (tgt := 253) hx hb dX11_findFragments_193 (by decide) (fun c30 => ?_) (fun c30 => ?_)
    · have h := ite_t c30 h
      obtain ⟨w4_31, ew4_31⟩ : ∃ y : Int32, y = v4_90 + 1 := ⟨_, rfl⟩
      have h := lb_at ew4_31 h
      refine lv_iinc (v := w4_31) (lv' := [(4, .int w4_31), (8, .int w8_29), (7, .int w7_27), (0, .ref (a_o 0)), (1, .int v1_90), (2, .int v2_90), (3, .int v3_90), (6, .int o6_u24)]) hx hb dX11_findFragments_253 hl (k := 6) rfl (by rw [ew4_31]; rfl) (by decide) rfl (fun ls hl => ?_)
      refine lv_goto (tgt := 40) hx hb dX11_findFragments_256 (by decide) ?_
      obtain ⟨rfl, rfl, rfl⟩ := ret3 h
      exact k0 rfl H locs ls hW (lv_sub hl [3, 4, 5, 6, 0] rfl)
    · have h := ite_f c30 h
      refine lv_iload hx hb dX11_findFragments_196 (lv_at hl 1 rfl) ?_
      refine lv_aload_n hx hb dX11_findFragments_198 rfl (lv_at hl 2 rfl) ?_
      refine fg_X11_138 (v := .ref (a_o 43)) hx hb hts hown hK hW 0 rfl rfl dX11_findFragments_199 ?_
      refine lv_iload_n hx hb dX11_findFragments_202 rfl (lv_at hl 5 rfl) ?_
      obtain ⟨g32, h⟩ := grd_s h
      refine g_iald hx hb hK hW 43 rfl g32 dX11_findFragments_203 ?_
      refine lv_icmp_lt (tgt := 229) hx hb dX11_findFragments_204 (by decide) (fun c33 => ?_) (fun c33 => ?_)
      · have h := ite_t c33 h
        exact J229 _ _ _ _ _ _ _ H locs ls _ _ _ hW (lv_sub hl [2, 3, 4, 5, 6, 1, 0] rfl) h k0 k1
      · have h := ite_f c33 h
        refine lv_iload hx hb dX11_findFragments_207 (lv_at hl 1 rfl) ?_
        refine lv_aload_n hx hb dX11_findFragments_209 rfl (lv_at hl 2 rfl) ?_
        refine fg_X11_138 (v := .ref (a_o 43)) hx hb hts hown hK hW 0 rfl rfl dX11_findFragments_210 ?_
        refine lv_iload_n hx hb dX11_findFragments_213 rfl (lv_at hl 5 rfl) ?_
        obtain ⟨g41, h⟩ := grd_s h
        refine g_iald hx hb hK hW 43 rfl g41 dX11_findFragments_214 ?_
        refine lv_icmp_ne (tgt := 253) hx hb dX11_findFragments_215 (by decide) (fun c42 => ?_) (fun c42 => ?_)
        · have h := ite_f c42 h
          obtain ⟨w4_43, ew4_43⟩ : ∃ y : Int32, y = v4_90 + 1 := ⟨_, rfl⟩
          have h := lb_at ew4_43 h
          refine lv_iinc (v := w4_43) (lv' := [(4, .int w4_43), (8, .int w8_29), (7, .int w7_27), (0, .ref (a_o 0)), (1, .int v1_90), (2, .int v2_90), (3, .int v3_90), (6, .int o6_u24)]) hx hb dX11_findFragments_253 hl (k := 6) rfl (by rw [ew4_43]; rfl) (by decide) rfl (fun ls hl => ?_)
          refine lv_goto (tgt := 40) hx hb dX11_findFragments_256 (by decide) ?_
          obtain ⟨rfl, rfl, rfl⟩ := ret3 h
          exact k0 rfl H locs ls hW (lv_sub hl [3, 4, 5, 6, 0] rfl)
        · have h := ite_t c42 h
          refine lv_iload hx hb dX11_findFragments_218 (lv_at hl 0 rfl) ?_
          refine lv_aload_n hx hb dX11_findFragments_220 rfl (lv_at hl 2 rfl) ?_
          refine fg_X11_141 (v := .ref (a_o 44)) hx hb hts hown hK hW 0 rfl rfl dX11_findFragments_221 ?_
          refine lv_iload_n hx hb dX11_findFragments_224 rfl (lv_at hl 5 rfl) ?_
          obtain ⟨g44, h⟩ := grd_s h
          refine g_iald hx hb hK hW 44 rfl g44 dX11_findFragments_225 ?_
          refine lv_icmp_gt (tgt := 253) hx hb dX11_findFragments_226 (by decide) (fun c45 => ?_) (fun c45 => ?_)
          · have h := ite_t c45 h
            obtain ⟨w4_46, ew4_46⟩ : ∃ y : Int32, y = v4_90 + 1 := ⟨_, rfl⟩
            have h := lb_at ew4_46 h
            refine lv_iinc (v := w4_46) (lv' := [(4, .int w4_46), (8, .int w8_29), (7, .int w7_27), (0, .ref (a_o 0)), (1, .int v1_90), (2, .int v2_90), (3, .int v3_90), (6, .int o6_u24)]) hx hb dX11_findFragments_253 hl (k := 6) rfl (by rw [ew4_46]; rfl) (by decide) rfl (fun ls hl => ?_)
            refine lv_goto (tgt := 40) hx hb dX11_findFragments_256 (by decide) ?_
            obtain ⟨rfl, rfl, rfl⟩ := ret3 h
            exact k0 rfl H locs ls hW (lv_sub hl [3, 4, 5, 6, 0] rfl)
          · have h := ite_f c45 h
            exact J229 _ _ _ _ _ _ _ H locs ls _ _ _ hW (lv_sub hl [2, 3, 4, 5, 6, 1, 0] rfl) h k0 k1
  have J87 : ∀ (x_o_87 : Ob) (v1_87 : Int32) (v2_87 : Int32) (v3_87 : Int32) (v4_87 : Int32) (v5_87 : Int32) (H : Heap) (locs : List Loc) (ls : Array Slot) (code : Nat) (o4j : Int32) (y_oj : Ob), Wd D A s.heap (oc_X11 T a_o x_o_87 ++ Z) H locs → lv_has ls 9 [(0, .ref (a_o 0)), (1, .int v1_87), (2, .int v2_87), (3, .int v3_87), (4, .int v4_87), (5, .int v5_87)] → f_X11_findFragments_J87 x_o_87 v1_87 v2_87 v3_87 v4_87 v5_87 = some (code, o4j, y_oj) → (code = 0 → ∀ (H : Heap) (locs : List Loc) (ls : Array Slot), Wd D A s.heap (oc_X11 T a_o y_oj ++ Z) H locs → lv_has ls 9 [(0, .ref (a_o 0)), (1, .int v1_87), (2, .int v2_87), (3, .int v3_87), (4, .int o4j)] → W p l e (rmd 1) s m args below meth c H locs 0 0 Q (F0 m 40 ls [])) → (code = 1 → ∀ (H : Heap) (locs : List Loc) (ls : Array Slot), Wd D A s.heap (oc_X11 T a_o y_oj ++ Z) H locs → lv_has ls 9 [(0, .ref (a_o 0)), (1, .int v1_87), (2, .int v2_87), (3, .int v3_87)] → W p l e (rmd 1) s m args below meth c H locs 0 0 Q (F0 m 259 ls [])) → W p l e (rmd 1) s m args below meth c H locs 0 0 Q (F0 m 87 ls []) := by
    intro x_o_87 v1_87 v2_87 v3_87 v4_87 v5_87 H locs ls code o4j y_oj hW hl h k0 k1
    rw [f_X11_findFragments_J87] at h
    refine lv_ldcw (v := 100000) hx hb hown (hts _ wm43_6) dX11_findFragments_87 ?_
    exact J90 _ _ _ _ _ _ _ H locs ls _ _ _ hW (lv_sub hl [0, 1, 2, 3, 4, 5] rfl) h k0 k1
  have L40 : ∀ (n : Nat) (x_o_40 : Ob) (v1_40 : Int32) (v2_40 : Int32) (v3_40 : Int32) (v4_40 : Int32) (H : Heap) (locs : List Loc) (ls : Array Slot) (o4_40r : Int32) (y_o_40r : Ob), Wd D A s.heap (oc_X11 T a_o x_o_40 ++ Z) H locs → lv_has ls 9 [(0, .ref (a_o 0)), (1, .int v1_40), (2, .int v2_40), (3, .int v3_40), (4, .int v4_40)] → f_X11_findFragments_L40 n x_o_40 v1_40 v2_40 v3_40 v4_40 = some (o4_40r, y_o_40r) → (∀ (H : Heap) (locs : List Loc) (ls : Array Slot), Wd D A s.heap (oc_X11 T a_o y_o_40r ++ Z) H locs → lv_has ls 9 [(0, .ref (a_o 0)), (1, .int v1_40), (2, .int v2_40), (3, .int v3_40)] → W p l e (rmd 1) s m args below meth c H locs 0 0 Q (F0 m 259 ls [])) → W p l e (rmd 1) s m args below meth c H locs 0 0 Q (F0 m 40 ls []) := by
    intro n
    induction n with
    | zero =>
      intro x_o_40 v1_40 v2_40 v3_40 v4_40 H locs ls o4_40r y_o_40r hW hl h k1
      rw [f_X11_findFragments_L40] at h
      cases h
    | succ n ih =>
      intro x_o_40 v1_40 v2_40 v3_40 v4_40 H locs ls o4_40r y_o_40r hW hl h k1
      rw [f_X11_findFragments_L40] at h
      refine lv_iload_n hx hb dX11_findFragments_40 rfl (lv_at hl 3 rfl) ?_
      refine lv_iload hx hb dX11_findFragments_41 (lv_at hl 4 rfl) ?_
      refine lv_iadd hx hb dX11_findFragments_43 ?_
      refine lv_iload_n hx hb dX11_findFragments_44 rfl (lv_at hl 2 rfl) ?_
      refine lv_icmp_gt (tgt := 259) hx hb dX11_findFragments_45 (by decide) (fun c11 => ?_) (fun c11 => ?_)
      · have h := ite_t c11 h
        obtain ⟨rfl, rfl⟩ := ret2 h
        exact k1 H locs ls hW (lv_sub hl [0, 1, 2, 3] rfl)
      · have h := ite_f c11 h
        refine lv_bipush (v := 6) hx hb dX11_findFragments_48 (by decide) ?_
        refine lv_iload_n hx hb dX11_findFragments_50 rfl (lv_at hl 3 rfl) ?_
        refine lv_imul hx hb dX11_findFragments_51 ?_
        refine lv_iload hx hb dX11_findFragments_52 (lv_at hl 4 rfl) ?_
        refine lv_iadd hx hb dX11_findFragments_54 ?_
        refine lv_iconst (v := 1) hx hb dX11_findFragments_55 (by decide) ?_
        refine lv_isub hx hb dX11_findFragments_56 ?_
        refine lv_topi (fun w5_12 ew5_12 => ?_)
        have h := lb_at ew5_12 h
        refine lv_istore (lv' := [(5, .int w5_12), (0, .ref (a_o 0)), (1, .int v1_40), (2, .int v2_40), (3, .int v3_40), (4, .int v4_40)]) hx hb dX11_findFragments_57 hl (by decide) rfl (fun ls hl => ?_)
        refine lv_iload hx hb dX11_findFragments_59 (lv_at hl 5 rfl) ?_
        refine lv_iconst (v := 1) hx hb dX11_findFragments_61 (by decide) ?_
        refine lv_icmp_ne (tgt := 87) hx hb dX11_findFragments_62 (by decide) (fun c13 => ?_) (fun c13 => ?_)
        · have h := ite_f c13 h
          obtain ⟨code48, o4_t47, y_o_t47, q49, h⟩ := bnd3_s h
          refine J87 _ _ _ _ _ _ H locs ls code48 o4_t47 y_o_t47 hW (lv_sub hl [1, 2, 3, 4, 5, 0] rfl) q49 (fun hc H locs ls hW hl => ?_) (fun hc H locs ls hW hl => ?_)
          · have h := ite_t hc h
            exact ih _ _ _ _ _ H locs ls _ _ hW (lv_sub hl [0, 1, 2, 3, 4] rfl) h k1
          · have h := ite_f (by rw [hc]; decide) h
            obtain ⟨rfl, rfl⟩ := ret2 h
            exact k1 H locs ls hW hl
        · have h := ite_t c13 h
          refine lv_aload_n hx hb dX11_findFragments_65 rfl (lv_at hl 1 rfl) ?_
          refine lv_aload_n hx hb dX11_findFragments_66 rfl (lv_at hl 1 rfl) ?_
          refine fg_X11_37 (v := .ref (a_o 10)) hx hb hts hown hK hW 0 rfl rfl dX11_findFragments_67 ?_
          refine lv_bipush (v := 6) hx hb dX11_findFragments_70 (by decide) ?_
          refine lv_iload_n hx hb dX11_findFragments_72 rfl (lv_at hl 2 rfl) ?_
          refine lv_imul hx hb dX11_findFragments_73 ?_
          refine lv_iload_n hx hb dX11_findFragments_74 rfl (lv_at hl 4 rfl) ?_
          refine lv_iadd hx hb dX11_findFragments_75 ?_
          obtain ⟨g50, h⟩ := grd_s h
          refine g_iald hx hb hK hW 10 rfl g50 dX11_findFragments_76 ?_
          obtain ⟨r51, q52, h⟩ := bnd1_s h
          refine cl_X11_226 hx hb hml hown hts hK hN hW (c_X11_countOf l D T A a_o (Z) x_o_40 (x_o_40 10 ((6 * v1_40) + v3_40).toNatClampNeg) r51 q52) ⟨Nat.le_of_ble_eq_true rfl, Nat.le_of_ble_eq_true rfl⟩ hl.1 rfl (Nat.le_of_ble_eq_true rfl) dX11_findFragments_77 ⟨Nat.zero_le _, Nat.zero_le _⟩ rfl (fun H locs hW => ?_)
          refine lv_if_ne (tgt := 87) hx hb dX11_findFragments_80 (by decide) (fun c53 => ?_) (fun c53 => ?_)
          · have h := ite_f c53 h
            obtain ⟨code55, o4_t54, y_o_t54, q56, h⟩ := bnd3_s h
            refine J87 _ _ _ _ _ _ H locs ls code55 o4_t54 y_o_t54 hW (lv_sub hl [1, 2, 3, 4, 5, 0] rfl) q56 (fun hc H locs ls hW hl => ?_) (fun hc H locs ls hW hl => ?_)
            · have h := ite_t hc h
              exact ih _ _ _ _ _ H locs ls _ _ hW (lv_sub hl [0, 1, 2, 3, 4] rfl) h k1
            · have h := ite_f (by rw [hc]; decide) h
              obtain ⟨rfl, rfl⟩ := ret2 h
              exact k1 H locs ls hW hl
          · have h := ite_t c53 h
            refine lv_iconst (v := 0) hx hb dX11_findFragments_83 (by decide) ?_
            refine lv_goto (tgt := 90) hx hb dX11_findFragments_84 (by decide) ?_
            obtain ⟨code58, o4_t57, y_o_t57, q59, h⟩ := bnd3_s h
            refine J90 _ _ _ _ _ _ _ H locs ls code58 o4_t57 y_o_t57 hW (lv_sub hl [1, 2, 3, 4, 5, 0] rfl) q59 (fun hc H locs ls hW hl => ?_) (fun hc H locs ls hW hl => ?_)
            · have h := ite_t hc h
              exact ih _ _ _ _ _ H locs ls _ _ hW (lv_sub hl [0, 1, 2, 3, 4] rfl) h k1
            · have h := ite_f (by rw [hc]; decide) h
              obtain ⟨rfl, rfl⟩ := ret2 h
              exact k1 H locs ls hW hl
  have L25 : ∀ (n : Nat) (x_o_25 : Ob) (v1_25 : Int32) (v2_25 : Int32) (v3_25 : Int32) (H : Heap) (locs : List Loc) (ls : Array Slot) (o3_25r : Int32) (y_o_25r : Ob), Wd D A s.heap (oc_X11 T a_o x_o_25 ++ Z) H locs → lv_has ls 9 [(0, .ref (a_o 0)), (1, .int v1_25), (2, .int v2_25), (3, .int v3_25)] → f_X11_findFragments_L25 n x_o_25 v1_25 v2_25 v3_25 = some (o3_25r, y_o_25r) → (∀ (H : Heap) (locs : List Loc) (ls : Array Slot), Wd D A s.heap (oc_X11 T a_o y_o_25r ++ Z) H locs → lv_has ls 9 [(0, .ref (a_o 0)), (1, .int v1_25), (2, .int v2_25)] → W p l e (rmd 1) s m args below meth c H locs 0 0 Q (F0 m 265 ls [])) → W p l e (rmd 1) s m args below meth c H locs 0 0 Q (F0 m 25 ls []) := by
    intro n
    induction n with
    | zero =>
      intro x_o_25 v1_25 v2_25 v3_25 H locs ls o3_25r y_o_25r hW hl h k1
      rw [f_X11_findFragments_L25] at h
      cases h
    | succ n ih =>
      intro x_o_25 v1_25 v2_25 v3_25 H locs ls o3_25r y_o_25r hW hl h k1
      rw [f_X11_findFragments_L25] at h
      refine lv_iload_n hx hb dX11_findFragments_25 rfl (lv_at hl 3 rfl) ?_
      refine lv_if_lt (tgt := 265) hx hb dX11_findFragments_26 (by decide) (fun c8 => ?_) (fun c8 => ?_)
      · have h := ite_t c8 h
        obtain ⟨rfl, rfl⟩ := ret2 h
        exact k1 H locs ls hW (lv_sub hl [0, 1, 2] rfl)
      · have h := ite_f c8 h
        refine lv_aload_n hx hb dX11_findFragments_29 rfl (lv_at hl 0 rfl) ?_
        refine fg_X11_138 (v := .ref (a_o 43)) hx hb hts hown hK hW 0 rfl rfl dX11_findFragments_30 ?_
        refine lv_iload_n hx hb dX11_findFragments_33 rfl (lv_at hl 3 rfl) ?_
        refine lv_bipush (v := 100) hx hb dX11_findFragments_34 (by decide) ?_
        obtain ⟨g9, h⟩ := grd_s h
        refine g_iast (ws9 := oc_X11 T a_o (upo x_o_25 49 v3_25.toNatClampNeg 100) ++ Z) hx hb hK hW 43 rfl g9 sa_X11_49 dX11_findFragments_36 (fun H locs hW => ?_)
        obtain ⟨x_o10, ex_o10⟩ : ∃ y : Ob, y = upo x_o_25 49 v3_25.toNatClampNeg 100 := ⟨_, rfl⟩
        rw [← ex_o10] at hW
        have h := lb_at ex_o10 h
        refine lv_iconst (v := 1) hx hb dX11_findFragments_37 (by decide) ?_
        refine lv_istore (lv' := [(4, .int 1), (0, .ref (a_o 0)), (1, .int v1_25), (2, .int v2_25), (3, .int v3_25)]) hx hb dX11_findFragments_38 hl (by decide) rfl (fun ls hl => ?_)
        obtain ⟨o4_u60, y_o_u60, q61, h⟩ := bnd2_s h
        refine L40 200 _ _ _ _ _ H locs ls o4_u60 y_o_u60 hW (lv_sub hl [1, 2, 3, 4, 0] rfl) q61 (fun H locs ls hW hl => ?_)
        obtain ⟨w3_62, ew3_62⟩ : ∃ y : Int32, y = v3_25 + (-1) := ⟨_, rfl⟩
        have h := lb_at ew3_62 h
        refine lv_iinc (v := w3_62) (lv' := [(3, .int w3_62), (0, .ref (a_o 0)), (1, .int v1_25), (2, .int v2_25)]) hx hb dX11_findFragments_259 hl (k := 3) rfl (by rw [ew3_62]; rfl) (by decide) rfl (fun ls hl => ?_)
        refine lv_goto (tgt := 25) hx hb dX11_findFragments_262 (by decide) ?_
        exact ih _ _ _ _ H locs ls _ _ hW (lv_sub hl [1, 2, 3, 0] rfl) h k1
  have J322 : ∀ (x_o_322 : Ob) (v2_322 : Int32) (v3_322 : Int32) (v4_322 : Int32) (s1_322 : Int32) (s2_322 : Int32) (s3_322 : Int32) (H : Heap) (locs : List Loc) (ls : Array Slot) (code : Nat) (o4j : Int32) (y_oj : Ob), Wd D A s.heap (oc_X11 T a_o x_o_322 ++ Z) H locs → lv_has ls 9 [(0, .ref (a_o 0)), (2, .int v2_322), (3, .int v3_322), (4, .int v4_322)] → f_X11_findFragments_J322 x_o_322 v2_322 v3_322 v4_322 s1_322 s2_322 s3_322 = some (code, o4j, y_oj) → (code = 0 → ∀ (H : Heap) (locs : List Loc) (ls : Array Slot), Wd D A s.heap (oc_X11 T a_o y_oj ++ Z) H locs → lv_has ls 9 [(0, .ref (a_o 0)), (2, .int v2_322), (3, .int v3_322), (4, .int o4j)] → W p l e (rmd 1) s m args below meth c H locs 0 0 Q (F0 m 288 ls [])) → (code = 1 → ∀ (H : Heap) (locs : List Loc) (ls : Array Slot), Wd D A s.heap (oc_X11 T a_o y_oj ++ Z) H locs → lv_has ls 9 [] → W p l e (rmd 1) s m args below meth c H locs 0 0 Q (F0 m 357 ls [])) → W p l e (rmd 1) s m args below meth c H locs 0 0 Q (F0 m 322 ls [.int s3_322, .int s2_322, .int s1_322, .ref (a_o 42)]) := by
    intro x_o_322 v2_322 v3_322 v4_322 s1_322 s2_322 s3_322 H locs ls code o4j y_oj hW hl h k0 k1
    rw [f_X11_findFragments_J322] at h
    refine lv_iadd hx hb dX11_findFragments_322 ?_
    obtain ⟨g72, h⟩ := grd_s h
    refine g_iast (ws9 := oc_X11 T a_o (upo x_o_322 48 s1_322.toNatClampNeg (s2_322 + s3_322)) ++ Z) hx hb hK hW 42 rfl g72 sa_X11_48 dX11_findFragments_323 (fun H locs hW => ?_)
    obtain ⟨x_o73, ex_o73⟩ : ∃ y : Ob, y = upo x_o_322 48 s1_322.toNatClampNeg (s2_322 + s3_322) := ⟨_, rfl⟩
    rw [← ex_o73] at hW
    have h := lb_at ex_o73 h
    refine lv_aload_n hx hb dX11_findFragments_324 rfl (lv_at hl 0 rfl) ?_
    refine lv_dup hx hb dX11_findFragments_325 rfl ?_
    refine fg_X11_311 (v := .int (x_o73 47 0)) hx hb hts hown hK hW 0 rfl rfl dX11_findFragments_326 ?_
    refine lv_iconst (v := 1) hx hb dX11_findFragments_329 (by decide) ?_
    refine lv_iadd hx hb dX11_findFragments_330 ?_
    refine fp_X11_311 (ws9 := oc_X11 T a_o (upo x_o73 47 0 ((x_o73 47 0) + 1)) ++ Z) hx hb hts hown hK hW 0 rfl (Nat.le_of_ble_eq_true rfl) sf_X11_47 dX11_findFragments_331 (fun H locs hW => ?_)
    obtain ⟨x_o74, ex_o74⟩ : ∃ y : Ob, y = upo x_o73 47 0 ((x_o73 47 0) + 1) := ⟨_, rfl⟩
    rw [← ex_o74] at hW
    have h := lb_at ex_o74 h
    refine lv_iload hx hb dX11_findFragments_334 (lv_at hl 3 rfl) ?_
    refine lv_iload_n hx hb dX11_findFragments_336 rfl (lv_at hl 2 rfl) ?_
    refine lv_if_eq (tgt := 344) hx hb dX11_findFragments_337 (by decide) (fun c75 => ?_) (fun c75 => ?_)
    · have h := ite_t c75 h
      refine lv_aload_n hx hb dX11_findFragments_344 rfl (lv_at hl 0 rfl) ?_
      refine fg_X11_144 (v := .ref (a_o 45)) hx hb hts hown hK hW 0 rfl rfl dX11_findFragments_345 ?_
      refine lv_iload hx hb dX11_findFragments_348 (lv_at hl 3 rfl) ?_
      obtain ⟨g76, h⟩ := grd_s h
      refine g_iald hx hb hK hW 45 rfl g76 dX11_findFragments_350 ?_
      refine lv_iadd hx hb dX11_findFragments_351 ?_
      refine lv_topi (fun w4_77 ew4_77 => ?_)
      have h := lb_at ew4_77 h
      refine lv_istore (lv' := [(4, .int w4_77), (0, .ref (a_o 0)), (2, .int v2_322), (3, .int v3_322)]) hx hb dX11_findFragments_352 hl (by decide) rfl (fun ls hl => ?_)
      refine lv_goto (tgt := 288) hx hb dX11_findFragments_354 (by decide) ?_
      obtain ⟨rfl, rfl, rfl⟩ := ret3 h
      exact k0 rfl H locs ls hW (lv_sub hl [1, 2, 3, 0] rfl)
    · have h := ite_f c75 h
      refine lv_iload_n hx hb dX11_findFragments_340 rfl (lv_at hl 1 rfl) ?_
      refine lv_goto (tgt := 351) hx hb dX11_findFragments_341 (by decide) ?_
      refine lv_iadd hx hb dX11_findFragments_351 ?_
      refine lv_topi (fun w4_78 ew4_78 => ?_)
      have h := lb_at ew4_78 h
      refine lv_istore (lv' := [(4, .int w4_78), (0, .ref (a_o 0)), (2, .int v2_322), (3, .int v3_322)]) hx hb dX11_findFragments_352 hl (by decide) rfl (fun ls hl => ?_)
      refine lv_goto (tgt := 288) hx hb dX11_findFragments_354 (by decide) ?_
      obtain ⟨rfl, rfl, rfl⟩ := ret3 h
      exact k0 rfl H locs ls hW (lv_sub hl [1, 2, 3, 0] rfl)
  have L288 : ∀ (n : Nat) (x_o_288 : Ob) (v2_288 : Int32) (v3_288 : Int32) (v4_288 : Int32) (H : Heap) (locs : List Loc) (ls : Array Slot) (o4_288r : Int32) (y_o_288r : Ob), Wd D A s.heap (oc_X11 T a_o x_o_288 ++ Z) H locs → lv_has ls 9 [(0, .ref (a_o 0)), (2, .int v2_288), (3, .int v3_288), (4, .int v4_288)] → f_X11_findFragments_L288 n x_o_288 v2_288 v3_288 v4_288 = some (o4_288r, y_o_288r) → (∀ (H : Heap) (locs : List Loc) (ls : Array Slot), Wd D A s.heap (oc_X11 T a_o y_o_288r ++ Z) H locs → lv_has ls 9 [] → W p l e (rmd 1) s m args below meth c H locs 0 0 Q (F0 m 357 ls [])) → W p l e (rmd 1) s m args below meth c H locs 0 0 Q (F0 m 288 ls []) := by
    intro n
    induction n with
    | zero =>
      intro x_o_288 v2_288 v3_288 v4_288 H locs ls o4_288r y_o_288r hW hl h k1
      rw [f_X11_findFragments_L288] at h
      cases h
    | succ n ih =>
      intro x_o_288 v2_288 v3_288 v4_288 H locs ls o4_288r y_o_288r hW hl h k1
      rw [f_X11_findFragments_L288] at h
      refine lv_iload hx hb dX11_findFragments_288 (lv_at hl 3 rfl) ?_
      refine lv_iload_n hx hb dX11_findFragments_290 rfl (lv_at hl 1 rfl) ?_
      refine lv_icmp_ge (tgt := 357) hx hb dX11_findFragments_291 (by decide) (fun c69 => ?_) (fun c69 => ?_)
      · have h := ite_t c69 h
        obtain ⟨rfl, rfl⟩ := ret2 h
        exact k1 H locs ls hW (lv_sub hl [] rfl)
      · have h := ite_f c69 h
        refine lv_aload_n hx hb dX11_findFragments_294 rfl (lv_at hl 0 rfl) ?_
        refine fg_X11_135 (v := .ref (a_o 42)) hx hb hts hown hK hW 0 rfl rfl dX11_findFragments_295 ?_
        refine lv_aload_n hx hb dX11_findFragments_298 rfl (lv_at hl 0 rfl) ?_
        refine fg_X11_311 (v := .int (x_o_288 47 0)) hx hb hts hown hK hW 0 rfl rfl dX11_findFragments_299 ?_
        refine lv_bipush (v := 10) hx hb dX11_findFragments_302 (by decide) ?_
        refine lv_iload hx hb dX11_findFragments_304 (lv_at hl 3 rfl) ?_
        refine lv_imul hx hb dX11_findFragments_306 ?_
        refine lv_iload_n hx hb dX11_findFragments_307 rfl (lv_at hl 2 rfl) ?_
        refine lv_if_eq (tgt := 315) hx hb dX11_findFragments_308 (by decide) (fun c70 => ?_) (fun c70 => ?_)
        · have h := ite_t c70 h
          refine lv_aload_n hx hb dX11_findFragments_315 rfl (lv_at hl 0 rfl) ?_
          refine fg_X11_144 (v := .ref (a_o 45)) hx hb hts hown hK hW 0 rfl rfl dX11_findFragments_316 ?_
          refine lv_iload hx hb dX11_findFragments_319 (lv_at hl 3 rfl) ?_
          obtain ⟨g71, h⟩ := grd_s h
          refine g_iald hx hb hK hW 45 rfl g71 dX11_findFragments_321 ?_
          obtain ⟨code80, o4_t79, y_o_t79, q81, h⟩ := bnd3_s h
          refine J322 _ _ _ _ _ _ _ H locs ls code80 o4_t79 y_o_t79 hW (lv_sub hl [0, 1, 2, 3] rfl) q81 (fun hc H locs ls hW hl => ?_) (fun hc H locs ls hW hl => ?_)
          · have h := ite_t hc h
            exact ih _ _ _ _ H locs ls _ _ hW (lv_sub hl [0, 1, 2, 3] rfl) h k1
          · have h := ite_f (by rw [hc]; decide) h
            obtain ⟨rfl, rfl⟩ := ret2 h
            exact k1 H locs ls hW hl
        · have h := ite_f c70 h
          refine lv_iload_n hx hb dX11_findFragments_311 rfl (lv_at hl 1 rfl) ?_
          refine lv_goto (tgt := 322) hx hb dX11_findFragments_312 (by decide) ?_
          obtain ⟨code83, o4_t82, y_o_t82, q84, h⟩ := bnd3_s h
          refine J322 _ _ _ _ _ _ _ H locs ls code83 o4_t82 y_o_t82 hW (lv_sub hl [0, 1, 2, 3] rfl) q84 (fun hc H locs ls hW hl => ?_) (fun hc H locs ls hW hl => ?_)
          · have h := ite_t hc h
            exact ih _ _ _ _ H locs ls _ _ hW (lv_sub hl [0, 1, 2, 3] rfl) h k1
          · have h := ite_f (by rw [hc]; decide) h
            obtain ⟨rfl, rfl⟩ := ret2 h
            exact k1 H locs ls hW hl
  have J284 : ∀ (x_o_284 : Ob) (v2_284 : Int32) (s0_284 : Int32) (H : Heap) (locs : List Loc) (ls : Array Slot), Wd D A s.heap (oc_X11 T a_o x_o_284 ++ Z) H locs → lv_has ls 9 [(0, .ref (a_o 0)), (2, .int v2_284)] → f_X11_findFragments_J284 x_o_284 v2_284 s0_284 = some x_o9 → W p l e (rmd 1) s m args below meth c H locs 0 0 Q (F0 m 284 ls [.int s0_284]) := by
    intro x_o_284 v2_284 s0_284 H locs ls hW hl h
    rw [f_X11_findFragments_J284] at h
    refine lv_istore_n (lv' := [(3, .int s0_284), (0, .ref (a_o 0)), (2, .int v2_284)]) hx hb dX11_findFragments_284 rfl hl (by decide) rfl (fun ls hl => ?_)
    refine lv_iconst (v := 0) hx hb dX11_findFragments_285 (by decide) ?_
    refine lv_istore (lv' := [(4, .int 0), (3, .int s0_284), (0, .ref (a_o 0)), (2, .int v2_284)]) hx hb dX11_findFragments_286 hl (by decide) rfl (fun ls hl => ?_)
    obtain ⟨o4_u85, y_o_u85, q86, h⟩ := bnd2_s h
    refine L288 200 _ _ _ _ H locs ls o4_u85 y_o_u85 hW (lv_sub hl [2, 3, 1, 0] rfl) q86 (fun H locs ls hW hl => ?_)
    obtain rfl := ret1 h
    rw [hQ]
    exact g_retv hx hb hr hlk hW dX11_findFragments_357
  rw [f_X11_findFragments] at h
  suffices hm : ∀ (H : Heap) (locs : List Loc), Wd D A s.heap (oc_X11 T a_o x_o ++ Z) H locs → W p l e (rmd 1) s m args below meth c H locs 0 0 Q (F0 m 0 ls []) from hm _ _ hW
  intro H locs hW
  refine lv_aload_n hx hb dX11_findFragments_0 rfl (lv_at hl 0 rfl) ?_
  refine fg_X11_34 (v := .ref (a_o 9)) hx hb hts hown hK hW 0 rfl rfl dX11_findFragments_1 ?_
  refine lv_iload_n hx hb dX11_findFragments_4 rfl (lv_at hl 1 rfl) ?_
  obtain ⟨g1, h⟩ := grd_s h
  refine g_iald hx hb hK hW 9 rfl g1 dX11_findFragments_5 ?_
  refine lv_topi (fun w2_2 ew2_2 => ?_)
  have h := lb_at ew2_2 h
  refine lv_istore_n (lv' := [(2, .int w2_2), (0, .ref (a_o 0)), (1, .int p1)]) hx hb dX11_findFragments_6 rfl hl (by decide) rfl (fun ls hl => ?_)
  refine lv_aload_n hx hb dX11_findFragments_7 rfl (lv_at hl 1 rfl) ?_
  refine fg_X11_138 (v := .ref (a_o 43)) hx hb hts hown hK hW 0 rfl rfl dX11_findFragments_8 ?_
  refine lv_iload_n hx hb dX11_findFragments_11 rfl (lv_at hl 0 rfl) ?_
  refine lv_iconst (v := 0) hx hb dX11_findFragments_12 (by decide) ?_
  obtain ⟨g3, h⟩ := grd_s h
  refine g_iast (ws9 := oc_X11 T a_o (upo x_o 49 w2_2.toNatClampNeg 0) ++ Z) hx hb hK hW 43 rfl g3 sa_X11_49 dX11_findFragments_13 (fun H locs hW => ?_)
  obtain ⟨x_o4, ex_o4⟩ : ∃ y : Ob, y = upo x_o 49 w2_2.toNatClampNeg 0 := ⟨_, rfl⟩
  rw [← ex_o4] at hW
  have h := lb_at ex_o4 h
  refine lv_aload_n hx hb dX11_findFragments_14 rfl (lv_at hl 1 rfl) ?_
  refine fg_X11_141 (v := .ref (a_o 44)) hx hb hts hown hK hW 0 rfl rfl dX11_findFragments_15 ?_
  refine lv_iload_n hx hb dX11_findFragments_18 rfl (lv_at hl 0 rfl) ?_
  refine lv_iconst (v := 0) hx hb dX11_findFragments_19 (by decide) ?_
  obtain ⟨g5, h⟩ := grd_s h
  refine g_iast (ws9 := oc_X11 T a_o (upo x_o4 50 w2_2.toNatClampNeg 0) ++ Z) hx hb hK hW 44 rfl g5 sa_X11_50 dX11_findFragments_20 (fun H locs hW => ?_)
  obtain ⟨x_o6, ex_o6⟩ : ∃ y : Ob, y = upo x_o4 50 w2_2.toNatClampNeg 0 := ⟨_, rfl⟩
  rw [← ex_o6] at hW
  have h := lb_at ex_o6 h
  refine lv_iload_n hx hb dX11_findFragments_21 rfl (lv_at hl 0 rfl) ?_
  refine lv_iconst (v := 1) hx hb dX11_findFragments_22 (by decide) ?_
  refine lv_isub hx hb dX11_findFragments_23 ?_
  refine lv_topi (fun w3_7 ew3_7 => ?_)
  have h := lb_at ew3_7 h
  refine lv_istore_n (lv' := [(3, .int w3_7), (2, .int w2_2), (0, .ref (a_o 0)), (1, .int p1)]) hx hb dX11_findFragments_24 rfl hl (by decide) rfl (fun ls hl => ?_)
  obtain ⟨o3_u63, y_o_u63, q64, h⟩ := bnd2_s h
  refine L25 200 _ _ _ _ H locs ls o3_u63 y_o_u63 hW (lv_sub hl [2, 3, 1, 0] rfl) q64 (fun H locs ls hW hl => ?_)
  refine lv_aload_n hx hb dX11_findFragments_265 rfl (lv_at hl 0 rfl) ?_
  refine lv_iconst (v := 0) hx hb dX11_findFragments_266 (by decide) ?_
  refine fp_X11_311 (ws9 := oc_X11 T a_o (upo y_o_u63 47 0 0) ++ Z) hx hb hts hown hK hW 0 rfl (Nat.le_of_ble_eq_true rfl) sf_X11_47 dX11_findFragments_267 (fun H locs hW => ?_)
  obtain ⟨x_o65, ex_o65⟩ : ∃ y : Ob, y = upo y_o_u63 47 0 0 := ⟨_, rfl⟩
  rw [← ex_o65] at hW
  have h := lb_at ex_o65 h
  refine lv_aload_n hx hb dX11_findFragments_270 rfl (lv_at hl 0 rfl) ?_
  refine lv_iload_n hx hb dX11_findFragments_271 rfl (lv_at hl 1 rfl) ?_
  obtain ⟨r66, q67, h⟩ := bnd1_s h
  refine cl_X11_304 hx hb hml hown hts hK hN hW (c_X11_whole l D T A a_o (Z) x_o65 p1 r66 q67) ⟨Nat.le_of_ble_eq_true rfl, Nat.le_of_ble_eq_true rfl⟩ hl.1 rfl (Nat.le_of_ble_eq_true rfl) dX11_findFragments_272 ⟨Nat.zero_le _, Nat.zero_le _⟩ rfl (fun H locs hW => ?_)
  refine lv_iconst (v := (-1)) hx hb dX11_findFragments_275 (by decide) ?_
  refine lv_icmp_eq (tgt := 283) hx hb dX11_findFragments_276 (by decide) (fun c68 => ?_) (fun c68 => ?_)
  · have h := ite_t c68 h
    refine lv_iconst (v := 0) hx hb dX11_findFragments_283 (by decide) ?_
    exact J284 _ _ _ H locs ls hW (lv_sub hl [0, 2] rfl) h
  · have h := ite_f c68 h
    refine lv_iconst (v := 1) hx hb dX11_findFragments_279 (by decide) ?_
    refine lv_goto (tgt := 284) hx hb dX11_findFragments_280 (by decide) ?_
    exact J284 _ _ _ H locs ls hW (lv_sub hl [0, 2] rfl) h
set_option maxHeartbeats 4000000 in
set_option maxRecDepth 100000 in
theorem c_X11_edges (l : Launch) (D : va_G) (T : Nat → ClassId) (A : Nat → Prop) (a_o : Nat → Nat) (Z : va_W)  (x_o : Ob) (p1 : Int32) (p2 : Int32) (p3 : Int32) (r : Int32) (x_o9 : Ob) (h : f_X11_edges x_o p1 p2 p3 = some (r, x_o9)) : Met l yX11_edges (Cond.code yX11_edges cX11_edges 4 (some .int) :: wsL_law) (rmd 7) (Pg D T A (oc_X11 T a_o x_o ++ Z) [.ref (a_o 0), .int p1, .int p2, .int p3]) (Qgi D A (oc_X11 T a_o x_o9 ++ Z) r) 0 0 A := by
  refine Met.ofW (cc := cX11_edges) (maxL := 4) (ret := (some .int)) (by decide +kernel) rfl ?_
  intro p e s m args below meth c s₁ B hml hv
  obtain ⟨ha, hP, hK, hD, hN⟩ := hv
  have hx := B.exec
  have hb := B.bytes
  have hr := B.returns
  have hlk := B.notSynchronized
  have hts : ∀ w ∈ wsL_law, w.before args s = true := fun w hw => atoms_spec B.pre w (List.mem_cons_of_mem _ hw)
  have hown : s.vm.findClass RX11 = some m.cls := findClass_of_methodNamed B.named
  have hW : Wd D A s.heap (oc_X11 T a_o x_o ++ Z) s.heap [] := ⟨hP, hD, va_S.rf⟩
  have hl := lv_entry [.ref (a_o 0), .int p1, .int p2, .int p3] (n := 4) (Nat.le_of_ble_eq_true rfl)
  refine W.eq (en_eq ha) ?_
  generalize (lg_sl [.ref (a_o 0), .int p1, .int p2, .int p3] ++ List.replicate (4 - (lg_sl [.ref (a_o 0), .int p1, .int p2, .int p3]).length) Slot.unset).toArray = ls at hl ⊢
  have hl : lv_has ls 4 [(0, .ref (a_o 0)), (1, .int p1), (2, .int p2), (3, .int p3)] := hl
  clear hP hD B ha
  obtain ⟨Q, hQ⟩ : ∃ Q, Q = MQ below (Qgi D A (oc_X11 T a_o x_o9 ++ Z) r) args s 0 0 A := ⟨_, rfl⟩
  rw [← hQ]
  change W p l e (rmd 7) s m args below meth c s.heap [] 0 0 Q (F0 m 0 ls [])
  rw [f_X11_edges] at h
  suffices hm : ∀ (H : Heap) (locs : List Loc), Wd D A s.heap (oc_X11 T a_o x_o ++ Z) H locs → W p l e (rmd 7) s m args below meth c H locs 0 0 Q (F0 m 0 ls []) from hm _ _ hW
  intro H locs hW
  refine lv_aload_n hx hb dX11_edges_0 rfl (lv_at hl 0 rfl) ?_
  refine lv_aload_n hx hb dX11_edges_1 rfl (lv_at hl 0 rfl) ?_
  refine lv_iload_n hx hb dX11_edges_2 rfl (lv_at hl 1 rfl) ?_
  refine lv_iload_n hx hb dX11_edges_3 rfl (lv_at hl 2 rfl) ?_
  refine lv_iload_n hx hb dX11_edges_4 rfl (lv_at hl 3 rfl) ?_
  obtain ⟨r1, q2, h⟩ := bnd1_s h
  refine cl_X11_314 hx hb hml hown hts hK hN hW (c_X11_isSpan l D T A a_o (Z) x_o p1 p2 p3 r1 q2) ⟨Nat.le_of_ble_eq_true rfl, Nat.le_of_ble_eq_true rfl⟩ hl.1 rfl (Nat.le_of_ble_eq_true rfl) dX11_edges_5 ⟨Nat.zero_le _, Nat.zero_le _⟩ rfl (fun H locs hW => ?_)
  obtain ⟨r3, x_o4, q5, h⟩ := bnd2_s h
  refine cl_X11_222 hx hb hml hown hts hK hN hW (c_X11_may l D T A a_o (Z) x_o r1 r3 x_o4 q5) ⟨Nat.le_of_ble_eq_true rfl, Nat.le_of_ble_eq_true rfl⟩ hl.1 rfl (Nat.le_of_ble_eq_true rfl) dX11_edges_8 ⟨Nat.zero_le _, Nat.zero_le _⟩ rfl (fun H locs hW => ?_)
  refine lv_if_ne (tgt := 16) hx hb dX11_edges_11 (by decide) (fun c6 => ?_) (fun c6 => ?_)
  · have h := ite_f c6 h
    refine lv_aload_n hx hb dX11_edges_16 rfl (lv_at hl 0 rfl) ?_
    refine lv_iload_n hx hb dX11_edges_17 rfl (lv_at hl 1 rfl) ?_
    obtain ⟨x_o7, q8, h⟩ := bnd1_s h
    refine cl_X11_317 hx hb hml hown hts hK hN hW (c_X11_need l D T A a_o (Z) x_o4 p1 x_o7 q8) ⟨Nat.le_of_ble_eq_true rfl, Nat.le_of_ble_eq_true rfl⟩ hl.1 rfl (Nat.le_of_ble_eq_true rfl) dX11_edges_18 ⟨Nat.zero_le _, Nat.zero_le _⟩ rfl (fun H locs hW => ?_)
    refine lv_aload_n hx hb dX11_edges_21 rfl (lv_at hl 0 rfl) ?_
    refine fg_X11_117 (v := .ref (a_o 36)) hx hb hts hown hK hW 0 rfl rfl dX11_edges_22 ?_
    refine lv_bipush (v := 6) hx hb dX11_edges_25 (by decide) ?_
    refine lv_iload_n hx hb dX11_edges_27 rfl (lv_at hl 2 rfl) ?_
    refine lv_imul hx hb dX11_edges_28 ?_
    refine lv_iload_n hx hb dX11_edges_29 rfl (lv_at hl 3 rfl) ?_
    refine lv_iadd hx hb dX11_edges_30 ?_
    refine lv_iconst (v := 1) hx hb dX11_edges_31 (by decide) ?_
    refine lv_isub hx hb dX11_edges_32 ?_
    obtain ⟨g9, h⟩ := grd_s h
    refine g_iald hx hb hK hW 36 rfl g9 dX11_edges_33 ?_
    obtain ⟨rfl, rfl⟩ := ret2 h
    rw [hQ]
    exact g_reti hx hb hr hlk hW dX11_edges_34
  · have h := ite_t c6 h
    refine lv_iconst (v := 0) hx hb dX11_edges_14 (by decide) ?_
    obtain ⟨rfl, rfl⟩ := ret2 h
    rw [hQ]
    exact g_reti hx hb hr hlk hW dX11_edges_15
set_option maxHeartbeats 4000000 in
set_option maxRecDepth 100000 in
theorem c_X11_asked (l : Launch) (D : va_G) (T : Nat → ClassId) (A : Nat → Prop) (a_o : Nat → Nat) (Z : va_W)  (x_o : Ob) (p1 : Int32) (p2 : Int32) (p3 : Int32) (p4 : Int32) (r : Int32) (x_o9 : Ob) (h : f_X11_asked x_o p1 p2 p3 p4 = some (r, x_o9)) : Met l yX11_asked (Cond.code yX11_asked cX11_asked 6 (some .int) :: wsL_law) (rmd 7) (Pg D T A (oc_X11 T a_o x_o ++ Z) [.ref (a_o 0), .int p1, .int p2, .int p3, .int p4]) (Qgi D A (oc_X11 T a_o x_o9 ++ Z) r) 0 0 A := by
  refine Met.ofW (cc := cX11_asked) (maxL := 6) (ret := (some .int)) (by decide +kernel) rfl ?_
  intro p e s m args below meth c s₁ B hml hv
  obtain ⟨ha, hP, hK, hD, hN⟩ := hv
  have hx := B.exec
  have hb := B.bytes
  have hr := B.returns
  have hlk := B.notSynchronized
  have hts : ∀ w ∈ wsL_law, w.before args s = true := fun w hw => atoms_spec B.pre w (List.mem_cons_of_mem _ hw)
  have hown : s.vm.findClass RX11 = some m.cls := findClass_of_methodNamed B.named
  have hW : Wd D A s.heap (oc_X11 T a_o x_o ++ Z) s.heap [] := ⟨hP, hD, va_S.rf⟩
  have hl := lv_entry [.ref (a_o 0), .int p1, .int p2, .int p3, .int p4] (n := 6) (Nat.le_of_ble_eq_true rfl)
  refine W.eq (en_eq ha) ?_
  generalize (lg_sl [.ref (a_o 0), .int p1, .int p2, .int p3, .int p4] ++ List.replicate (6 - (lg_sl [.ref (a_o 0), .int p1, .int p2, .int p3, .int p4]).length) Slot.unset).toArray = ls at hl ⊢
  have hl : lv_has ls 6 [(0, .ref (a_o 0)), (1, .int p1), (2, .int p2), (3, .int p3), (4, .int p4)] := hl
  clear hP hD B ha
  obtain ⟨Q, hQ⟩ : ∃ Q, Q = MQ below (Qgi D A (oc_X11 T a_o x_o9 ++ Z) r) args s 0 0 A := ⟨_, rfl⟩
  rw [← hQ]
  change W p l e (rmd 7) s m args below meth c s.heap [] 0 0 Q (F0 m 0 ls [])
  rw [f_X11_asked] at h
  suffices hm : ∀ (H : Heap) (locs : List Loc), Wd D A s.heap (oc_X11 T a_o x_o ++ Z) H locs → W p l e (rmd 7) s m args below meth c H locs 0 0 Q (F0 m 0 ls []) from hm _ _ hW
  intro H locs hW
  refine lv_aload_n hx hb dX11_asked_0 rfl (lv_at hl 0 rfl) ?_
  refine lv_aload_n hx hb dX11_asked_1 rfl (lv_at hl 0 rfl) ?_
  refine lv_iload_n hx hb dX11_asked_2 rfl (lv_at hl 1 rfl) ?_
  refine lv_iload_n hx hb dX11_asked_3 rfl (lv_at hl 2 rfl) ?_
  refine lv_iload_n hx hb dX11_asked_4 rfl (lv_at hl 3 rfl) ?_
  obtain ⟨r1, q2, h⟩ := bnd1_s h
  refine cl_X11_314 hx hb hml hown hts hK hN hW (c_X11_isSpan l D T A a_o (Z) x_o p1 p2 p3 r1 q2) ⟨Nat.le_of_ble_eq_true rfl, Nat.le_of_ble_eq_true rfl⟩ hl.1 rfl (Nat.le_of_ble_eq_true rfl) dX11_asked_5 ⟨Nat.zero_le _, Nat.zero_le _⟩ rfl (fun H locs hW => ?_)
  obtain ⟨r3, x_o4, q5, h⟩ := bnd2_s h
  refine cl_X11_222 hx hb hml hown hts hK hN hW (c_X11_may l D T A a_o (Z) x_o r1 r3 x_o4 q5) ⟨Nat.le_of_ble_eq_true rfl, Nat.le_of_ble_eq_true rfl⟩ hl.1 rfl (Nat.le_of_ble_eq_true rfl) dX11_asked_8 ⟨Nat.zero_le _, Nat.zero_le _⟩ rfl (fun H locs hW => ?_)
  refine lv_if_ne (tgt := 16) hx hb dX11_asked_11 (by decide) (fun c6 => ?_) (fun c6 => ?_)
  · have h := ite_f c6 h
    refine lv_aload_n hx hb dX11_asked_16 rfl (lv_at hl 0 rfl) ?_
    refine lv_iload_n hx hb dX11_asked_17 rfl (lv_at hl 1 rfl) ?_
    obtain ⟨x_o7, q8, h⟩ := bnd1_s h
    refine cl_X11_317 hx hb hml hown hts hK hN hW (c_X11_need l D T A a_o (Z) x_o4 p1 x_o7 q8) ⟨Nat.le_of_ble_eq_true rfl, Nat.le_of_ble_eq_true rfl⟩ hl.1 rfl (Nat.le_of_ble_eq_true rfl) dX11_asked_18 ⟨Nat.zero_le _, Nat.zero_le _⟩ rfl (fun H locs hW => ?_)
    refine lv_bipush (v := 6) hx hb dX11_asked_21 (by decide) ?_
    refine lv_iload_n hx hb dX11_asked_23 rfl (lv_at hl 2 rfl) ?_
    refine lv_imul hx hb dX11_asked_24 ?_
    refine lv_iload_n hx hb dX11_asked_25 rfl (lv_at hl 3 rfl) ?_
    refine lv_iadd hx hb dX11_asked_26 ?_
    refine lv_iconst (v := 1) hx hb dX11_asked_27 (by decide) ?_
    refine lv_isub hx hb dX11_asked_28 ?_
    refine lv_topi (fun w5_9 ew5_9 => ?_)
    have h := lb_at ew5_9 h
    refine lv_istore (lv' := [(5, .int w5_9), (0, .ref (a_o 0)), (1, .int p1), (2, .int p2), (3, .int p3), (4, .int p4)]) hx hb dX11_asked_29 hl (by decide) rfl (fun ls hl => ?_)
    refine lv_aload_n hx hb dX11_asked_31 rfl (lv_at hl 1 rfl) ?_
    refine lv_iload hx hb dX11_asked_32 (lv_at hl 5 rfl) ?_
    refine lv_iconst (v := 0) hx hb dX11_asked_34 (by decide) ?_
    refine lv_aload_n hx hb dX11_asked_35 rfl (lv_at hl 1 rfl) ?_
    refine fg_X11_117 (v := .ref (a_o 36)) hx hb hts hown hK hW 0 rfl rfl dX11_asked_36 ?_
    refine lv_iload hx hb dX11_asked_39 (lv_at hl 0 rfl) ?_
    obtain ⟨g10, h⟩ := grd_s h
    refine g_iald hx hb hK hW 36 rfl g10 dX11_asked_41 ?_
    refine lv_iconst (v := 1) hx hb dX11_asked_42 (by decide) ?_
    refine lv_isub hx hb dX11_asked_43 ?_
    obtain ⟨r11, q12, h⟩ := bnd1_s h
    refine cl_X11_187 hx hb hml hown hts hK hN hW (c_X11_isIn l D T A (oc_X11 T a_o x_o7 ++ Z) p4 0 ((x_o7 39 w5_9.toNatClampNeg) - 1) r11 q12) ⟨Nat.le_of_ble_eq_true rfl, Nat.le_of_ble_eq_true rfl⟩ hl.1 rfl (Nat.le_of_ble_eq_true rfl) dX11_asked_44 ⟨Nat.zero_le _, Nat.zero_le _⟩ rfl (fun H locs hW => ?_)
    obtain ⟨r13, x_o14, q15, h⟩ := bnd2_s h
    refine cl_X11_222 hx hb hml hown hts hK hN hW (c_X11_may l D T A a_o (Z) x_o7 r11 r13 x_o14 q15) ⟨Nat.le_of_ble_eq_true rfl, Nat.le_of_ble_eq_true rfl⟩ hl.1 rfl (Nat.le_of_ble_eq_true rfl) dX11_asked_47 ⟨Nat.zero_le _, Nat.zero_le _⟩ rfl (fun H locs hW => ?_)
    refine lv_if_eq (tgt := 69) hx hb dX11_asked_50 (by decide) (fun c16 => ?_) (fun c16 => ?_)
    · have h := ite_t c16 h
      refine lv_iconst (v := (-1)) hx hb dX11_asked_69 (by decide) ?_
      obtain ⟨rfl, rfl⟩ := ret2 h
      rw [hQ]
      exact g_reti hx hb hr hlk hW dX11_asked_70
    · have h := ite_f c16 h
      refine lv_aload_n hx hb dX11_asked_53 rfl (lv_at hl 1 rfl) ?_
      refine fg_X11_120 (v := .ref (a_o 37)) hx hb hts hown hK hW 0 rfl rfl dX11_asked_54 ?_
      refine lv_bipush (v := 8) hx hb dX11_asked_57 (by decide) ?_
      refine lv_iload hx hb dX11_asked_59 (lv_at hl 0 rfl) ?_
      refine lv_imul hx hb dX11_asked_61 ?_
      refine lv_iload hx hb dX11_asked_62 (lv_at hl 5 rfl) ?_
      refine lv_iadd hx hb dX11_asked_64 ?_
      obtain ⟨g17, h⟩ := grd_s h
      refine g_iald hx hb hK hW 37 rfl g17 dX11_asked_65 ?_
      refine lv_goto (tgt := 70) hx hb dX11_asked_66 (by decide) ?_
      obtain ⟨rfl, rfl⟩ := ret2 h
      rw [hQ]
      exact g_reti hx hb hr hlk hW dX11_asked_70
  · have h := ite_t c6 h
    refine lv_iconst (v := (-1)) hx hb dX11_asked_14 (by decide) ?_
    obtain ⟨rfl, rfl⟩ := ret2 h
    rw [hQ]
    exact g_reti hx hb hr hlk hW dX11_asked_15
set_option maxHeartbeats 4000000 in
set_option maxRecDepth 100000 in
theorem c_X11_edge (l : Launch) (D : va_G) (T : Nat → ClassId) (A : Nat → Prop) (a_o : Nat → Nat) (Z : va_W)  (x_o : Ob) (p1 : Int32) (p2 : Int32) (p3 : Int32) (p4 : Int32) (r : Int32) (x_o9 : Ob) (h : f_X11_edge x_o p1 p2 p3 p4 = some (r, x_o9)) : Met l yX11_edge (Cond.code yX11_edge cX11_edge 6 (some .int) :: wsL_law) (rmd 8) (Pg D T A (oc_X11 T a_o x_o ++ Z) [.ref (a_o 0), .int p1, .int p2, .int p3, .int p4]) (Qgi D A (oc_X11 T a_o x_o9 ++ Z) r) 0 0 A := by
  refine Met.ofW (cc := cX11_edge) (maxL := 6) (ret := (some .int)) (by decide +kernel) rfl ?_
  intro p e s m args below meth c s₁ B hml hv
  obtain ⟨ha, hP, hK, hD, hN⟩ := hv
  have hx := B.exec
  have hb := B.bytes
  have hr := B.returns
  have hlk := B.notSynchronized
  have hts : ∀ w ∈ wsL_law, w.before args s = true := fun w hw => atoms_spec B.pre w (List.mem_cons_of_mem _ hw)
  have hown : s.vm.findClass RX11 = some m.cls := findClass_of_methodNamed B.named
  have hW : Wd D A s.heap (oc_X11 T a_o x_o ++ Z) s.heap [] := ⟨hP, hD, va_S.rf⟩
  have hl := lv_entry [.ref (a_o 0), .int p1, .int p2, .int p3, .int p4] (n := 6) (Nat.le_of_ble_eq_true rfl)
  refine W.eq (en_eq ha) ?_
  generalize (lg_sl [.ref (a_o 0), .int p1, .int p2, .int p3, .int p4] ++ List.replicate (6 - (lg_sl [.ref (a_o 0), .int p1, .int p2, .int p3, .int p4]).length) Slot.unset).toArray = ls at hl ⊢
  have hl : lv_has ls 6 [(0, .ref (a_o 0)), (1, .int p1), (2, .int p2), (3, .int p3), (4, .int p4)] := hl
  clear hP hD B ha
  obtain ⟨Q, hQ⟩ : ∃ Q, Q = MQ below (Qgi D A (oc_X11 T a_o x_o9 ++ Z) r) args s 0 0 A := ⟨_, rfl⟩
  rw [← hQ]
  change W p l e (rmd 8) s m args below meth c s.heap [] 0 0 Q (F0 m 0 ls [])
  rw [f_X11_edge] at h
  suffices hm : ∀ (H : Heap) (locs : List Loc), Wd D A s.heap (oc_X11 T a_o x_o ++ Z) H locs → W p l e (rmd 8) s m args below meth c H locs 0 0 Q (F0 m 0 ls []) from hm _ _ hW
  intro H locs hW
  refine lv_aload_n hx hb dX11_edge_0 rfl (lv_at hl 0 rfl) ?_
  refine lv_iload_n hx hb dX11_edge_1 rfl (lv_at hl 1 rfl) ?_
  refine lv_iload_n hx hb dX11_edge_2 rfl (lv_at hl 2 rfl) ?_
  refine lv_iload_n hx hb dX11_edge_3 rfl (lv_at hl 3 rfl) ?_
  refine lv_iload hx hb dX11_edge_4 (lv_at hl 4 rfl) ?_
  obtain ⟨r1, x_o2, q3, h⟩ := bnd2_s h
  refine cl_X11_320 hx hb hml hown hts hK hN hW (c_X11_asked l D T A a_o (Z) x_o p1 p2 p3 p4 r1 x_o2 q3) ⟨Nat.le_of_ble_eq_true rfl, Nat.le_of_ble_eq_true rfl⟩ hl.1 rfl (Nat.le_of_ble_eq_true rfl) dX11_edge_6 ⟨Nat.zero_le _, Nat.zero_le _⟩ rfl (fun H locs hW => ?_)
  refine lv_istore (lv' := [(5, .int r1), (0, .ref (a_o 0)), (1, .int p1), (2, .int p2), (3, .int p3), (4, .int p4)]) hx hb dX11_edge_9 hl (by decide) rfl (fun ls hl => ?_)
  refine lv_iload hx hb dX11_edge_11 (lv_at hl 0 rfl) ?_
  refine lv_iconst (v := (-1)) hx hb dX11_edge_13 (by decide) ?_
  refine lv_icmp_ne (tgt := 21) hx hb dX11_edge_14 (by decide) (fun c4 => ?_) (fun c4 => ?_)
  · have h := ite_f c4 h
    refine lv_sipush (v := 1000) hx hb dX11_edge_21 (by decide) ?_
    refine lv_aload_n hx hb dX11_edge_24 rfl (lv_at hl 1 rfl) ?_
    refine fg_X11_96 (v := .ref (a_o 29)) hx hb hts hown hK hW 0 rfl rfl dX11_edge_25 ?_
    refine lv_iload hx hb dX11_edge_28 (lv_at hl 0 rfl) ?_
    obtain ⟨g5, h⟩ := grd_s h
    refine g_iald hx hb hK hW 29 rfl g5 dX11_edge_30 ?_
    refine lv_imul hx hb dX11_edge_31 ?_
    refine lv_aload_n hx hb dX11_edge_32 rfl (lv_at hl 1 rfl) ?_
    refine fg_X11_99 (v := .ref (a_o 30)) hx hb hts hown hK hW 0 rfl rfl dX11_edge_33 ?_
    refine lv_iload hx hb dX11_edge_36 (lv_at hl 0 rfl) ?_
    obtain ⟨g6, h⟩ := grd_s h
    refine g_iald hx hb hK hW 30 rfl g6 dX11_edge_38 ?_
    refine lv_iadd hx hb dX11_edge_39 ?_
    obtain ⟨rfl, rfl⟩ := ret2 h
    rw [hQ]
    exact g_reti hx hb hr hlk hW dX11_edge_40
  · have h := ite_t c4 h
    refine lv_iconst (v := 0) hx hb dX11_edge_17 (by decide) ?_
    refine lv_goto (tgt := 40) hx hb dX11_edge_18 (by decide) ?_
    obtain ⟨rfl, rfl⟩ := ret2 h
    rw [hQ]
    exact g_reti hx hb hr hlk hW dX11_edge_40
set_option maxHeartbeats 4000000 in
set_option maxRecDepth 100000 in
theorem c_X11_edgeCost (l : Launch) (D : va_G) (T : Nat → ClassId) (A : Nat → Prop) (a_o : Nat → Nat) (Z : va_W)  (x_o : Ob) (p1 : Int32) (p2 : Int32) (p3 : Int32) (p4 : Int32) (r : Int32) (x_o9 : Ob) (h : f_X11_edgeCost x_o p1 p2 p3 p4 = some (r, x_o9)) : Met l yX11_edgeCost (Cond.code yX11_edgeCost cX11_edgeCost 6 (some .int) :: wsL_law) (rmd 8) (Pg D T A (oc_X11 T a_o x_o ++ Z) [.ref (a_o 0), .int p1, .int p2, .int p3, .int p4]) (Qgi D A (oc_X11 T a_o x_o9 ++ Z) r) 0 0 A := by
  refine Met.ofW (cc := cX11_edgeCost) (maxL := 6) (ret := (some .int)) (by decide +kernel) rfl ?_
  intro p e s m args below meth c s₁ B hml hv
  obtain ⟨ha, hP, hK, hD, hN⟩ := hv
  have hx := B.exec
  have hb := B.bytes
  have hr := B.returns
  have hlk := B.notSynchronized
  have hts : ∀ w ∈ wsL_law, w.before args s = true := fun w hw => atoms_spec B.pre w (List.mem_cons_of_mem _ hw)
  have hown : s.vm.findClass RX11 = some m.cls := findClass_of_methodNamed B.named
  have hW : Wd D A s.heap (oc_X11 T a_o x_o ++ Z) s.heap [] := ⟨hP, hD, va_S.rf⟩
  have hl := lv_entry [.ref (a_o 0), .int p1, .int p2, .int p3, .int p4] (n := 6) (Nat.le_of_ble_eq_true rfl)
  refine W.eq (en_eq ha) ?_
  generalize (lg_sl [.ref (a_o 0), .int p1, .int p2, .int p3, .int p4] ++ List.replicate (6 - (lg_sl [.ref (a_o 0), .int p1, .int p2, .int p3, .int p4]).length) Slot.unset).toArray = ls at hl ⊢
  have hl : lv_has ls 6 [(0, .ref (a_o 0)), (1, .int p1), (2, .int p2), (3, .int p3), (4, .int p4)] := hl
  clear hP hD B ha
  obtain ⟨Q, hQ⟩ : ∃ Q, Q = MQ below (Qgi D A (oc_X11 T a_o x_o9 ++ Z) r) args s 0 0 A := ⟨_, rfl⟩
  rw [← hQ]
  change W p l e (rmd 8) s m args below meth c s.heap [] 0 0 Q (F0 m 0 ls [])
  rw [f_X11_edgeCost] at h
  suffices hm : ∀ (H : Heap) (locs : List Loc), Wd D A s.heap (oc_X11 T a_o x_o ++ Z) H locs → W p l e (rmd 8) s m args below meth c H locs 0 0 Q (F0 m 0 ls []) from hm _ _ hW
  intro H locs hW
  refine lv_aload_n hx hb dX11_edgeCost_0 rfl (lv_at hl 0 rfl) ?_
  refine lv_iload_n hx hb dX11_edgeCost_1 rfl (lv_at hl 1 rfl) ?_
  refine lv_iload_n hx hb dX11_edgeCost_2 rfl (lv_at hl 2 rfl) ?_
  refine lv_iload_n hx hb dX11_edgeCost_3 rfl (lv_at hl 3 rfl) ?_
  refine lv_iload hx hb dX11_edgeCost_4 (lv_at hl 4 rfl) ?_
  obtain ⟨r1, x_o2, q3, h⟩ := bnd2_s h
  refine cl_X11_320 hx hb hml hown hts hK hN hW (c_X11_asked l D T A a_o (Z) x_o p1 p2 p3 p4 r1 x_o2 q3) ⟨Nat.le_of_ble_eq_true rfl, Nat.le_of_ble_eq_true rfl⟩ hl.1 rfl (Nat.le_of_ble_eq_true rfl) dX11_edgeCost_6 ⟨Nat.zero_le _, Nat.zero_le _⟩ rfl (fun H locs hW => ?_)
  refine lv_istore (lv' := [(5, .int r1), (0, .ref (a_o 0)), (1, .int p1), (2, .int p2), (3, .int p3), (4, .int p4)]) hx hb dX11_edgeCost_9 hl (by decide) rfl (fun ls hl => ?_)
  refine lv_iload hx hb dX11_edgeCost_11 (lv_at hl 0 rfl) ?_
  refine lv_iconst (v := (-1)) hx hb dX11_edgeCost_13 (by decide) ?_
  refine lv_icmp_ne (tgt := 21) hx hb dX11_edgeCost_14 (by decide) (fun c4 => ?_) (fun c4 => ?_)
  · have h := ite_f c4 h
    refine lv_aload_n hx hb dX11_edgeCost_21 rfl (lv_at hl 1 rfl) ?_
    refine fg_X11_102 (v := .ref (a_o 31)) hx hb hts hown hK hW 0 rfl rfl dX11_edgeCost_22 ?_
    refine lv_iload hx hb dX11_edgeCost_25 (lv_at hl 0 rfl) ?_
    obtain ⟨g5, h⟩ := grd_s h
    refine g_iald hx hb hK hW 31 rfl g5 dX11_edgeCost_27 ?_
    obtain ⟨rfl, rfl⟩ := ret2 h
    rw [hQ]
    exact g_reti hx hb hr hlk hW dX11_edgeCost_28
  · have h := ite_t c4 h
    refine lv_iconst (v := 0) hx hb dX11_edgeCost_17 (by decide) ?_
    refine lv_goto (tgt := 28) hx hb dX11_edgeCost_18 (by decide) ?_
    obtain ⟨rfl, rfl⟩ := ret2 h
    rw [hQ]
    exact g_reti hx hb hr hlk hW dX11_edgeCost_28
set_option maxHeartbeats 4000000 in
set_option maxRecDepth 100000 in
theorem c_X11_cost (l : Launch) (D : va_G) (T : Nat → ClassId) (A : Nat → Prop) (a_o : Nat → Nat) (Z : va_W)  (x_o : Ob) (p1 : Int32) (r : Int32) (x_o9 : Ob) (h : f_X11_cost x_o p1 = some (r, x_o9)) : Met l yX11_cost (Cond.code yX11_cost cX11_cost 2 (some .int) :: wsL_law) (rmd 7) (Pg D T A (oc_X11 T a_o x_o ++ Z) [.ref (a_o 0), .int p1]) (Qgi D A (oc_X11 T a_o x_o9 ++ Z) r) 0 0 A := by
  refine Met.ofW (cc := cX11_cost) (maxL := 2) (ret := (some .int)) (by decide +kernel) rfl ?_
  intro p e s m args below meth c s₁ B hml hv
  obtain ⟨ha, hP, hK, hD, hN⟩ := hv
  have hx := B.exec
  have hb := B.bytes
  have hr := B.returns
  have hlk := B.notSynchronized
  have hts : ∀ w ∈ wsL_law, w.before args s = true := fun w hw => atoms_spec B.pre w (List.mem_cons_of_mem _ hw)
  have hown : s.vm.findClass RX11 = some m.cls := findClass_of_methodNamed B.named
  have hW : Wd D A s.heap (oc_X11 T a_o x_o ++ Z) s.heap [] := ⟨hP, hD, va_S.rf⟩
  have hl := lv_entry [.ref (a_o 0), .int p1] (n := 2) (Nat.le_of_ble_eq_true rfl)
  refine W.eq (en_eq ha) ?_
  generalize (lg_sl [.ref (a_o 0), .int p1] ++ List.replicate (2 - (lg_sl [.ref (a_o 0), .int p1]).length) Slot.unset).toArray = ls at hl ⊢
  have hl : lv_has ls 2 [(0, .ref (a_o 0)), (1, .int p1)] := hl
  clear hP hD B ha
  obtain ⟨Q, hQ⟩ : ∃ Q, Q = MQ below (Qgi D A (oc_X11 T a_o x_o9 ++ Z) r) args s 0 0 A := ⟨_, rfl⟩
  rw [← hQ]
  change W p l e (rmd 7) s m args below meth c s.heap [] 0 0 Q (F0 m 0 ls [])
  rw [f_X11_cost] at h
  suffices hm : ∀ (H : Heap) (locs : List Loc), Wd D A s.heap (oc_X11 T a_o x_o ++ Z) H locs → W p l e (rmd 7) s m args below meth c H locs 0 0 Q (F0 m 0 ls []) from hm _ _ hW
  intro H locs hW
  refine lv_aload_n hx hb dX11_cost_0 rfl (lv_at hl 0 rfl) ?_
  refine lv_iload_n hx hb dX11_cost_1 rfl (lv_at hl 1 rfl) ?_
  obtain ⟨r1, q2, h⟩ := bnd1_s h
  refine cl_X11_194 hx hb hml hown hts hK hN hW (c_X11_isSentence l D T A (oc_X11 T a_o x_o ++ Z) p1 r1 q2) ⟨Nat.le_of_ble_eq_true rfl, Nat.le_of_ble_eq_true rfl⟩ hl.1 rfl (Nat.le_of_ble_eq_true rfl) dX11_cost_2 ⟨Nat.zero_le _, Nat.zero_le _⟩ rfl (fun H locs hW => ?_)
  obtain ⟨r3, x_o4, q5, h⟩ := bnd2_s h
  refine cl_X11_222 hx hb hml hown hts hK hN hW (c_X11_may l D T A a_o (Z) x_o r1 r3 x_o4 q5) ⟨Nat.le_of_ble_eq_true rfl, Nat.le_of_ble_eq_true rfl⟩ hl.1 rfl (Nat.le_of_ble_eq_true rfl) dX11_cost_5 ⟨Nat.zero_le _, Nat.zero_le _⟩ rfl (fun H locs hW => ?_)
  refine lv_if_ne (tgt := 13) hx hb dX11_cost_8 (by decide) (fun c6 => ?_) (fun c6 => ?_)
  · have h := ite_f c6 h
    refine lv_aload_n hx hb dX11_cost_13 rfl (lv_at hl 0 rfl) ?_
    refine lv_iload_n hx hb dX11_cost_14 rfl (lv_at hl 1 rfl) ?_
    obtain ⟨x_o7, q8, h⟩ := bnd1_s h
    refine cl_X11_317 hx hb hml hown hts hK hN hW (c_X11_need l D T A a_o (Z) x_o4 p1 x_o7 q8) ⟨Nat.le_of_ble_eq_true rfl, Nat.le_of_ble_eq_true rfl⟩ hl.1 rfl (Nat.le_of_ble_eq_true rfl) dX11_cost_15 ⟨Nat.zero_le _, Nat.zero_le _⟩ rfl (fun H locs hW => ?_)
    refine lv_aload_n hx hb dX11_cost_18 rfl (lv_at hl 0 rfl) ?_
    refine lv_iload_n hx hb dX11_cost_19 rfl (lv_at hl 1 rfl) ?_
    obtain ⟨r9, q10, h⟩ := bnd1_s h
    refine cl_X11_322 hx hb hml hown hts hK hN hW (c_X11_costNow l D T A a_o (Z) x_o7 p1 r9 q10) ⟨Nat.le_of_ble_eq_true rfl, Nat.le_of_ble_eq_true rfl⟩ hl.1 rfl (Nat.le_of_ble_eq_true rfl) dX11_cost_20 ⟨Nat.zero_le _, Nat.zero_le _⟩ rfl (fun H locs hW => ?_)
    obtain ⟨rfl, rfl⟩ := ret2 h
    rw [hQ]
    exact g_reti hx hb hr hlk hW dX11_cost_23
  · have h := ite_t c6 h
    refine lv_iconst (v := 0) hx hb dX11_cost_11 (by decide) ?_
    obtain ⟨rfl, rfl⟩ := ret2 h
    rw [hQ]
    exact g_reti hx hb hr hlk hW dX11_cost_12
set_option maxHeartbeats 4000000 in
set_option maxRecDepth 100000 in
theorem c_X11_costAnew (l : Launch) (D : va_G) (T : Nat → ClassId) (A : Nat → Prop) (a_o : Nat → Nat) (Z : va_W)  (x_o : Ob) (p1 : Int32) (r : Int32) (x_o9 : Ob) (h : f_X11_costAnew x_o p1 = some (r, x_o9)) : Met l yX11_costAnew (Cond.code yX11_costAnew cX11_costAnew 2 (some .int) :: wsL_law) (rmd 8) (Pg D T A (oc_X11 T a_o x_o ++ Z) [.ref (a_o 0), .int p1]) (Qgi D A (oc_X11 T a_o x_o9 ++ Z) r) 0 0 A := by
  refine Met.ofW (cc := cX11_costAnew) (maxL := 2) (ret := (some .int)) (by decide +kernel) rfl ?_
  intro p e s m args below meth c s₁ B hml hv
  obtain ⟨ha, hP, hK, hD, hN⟩ := hv
  have hx := B.exec
  have hb := B.bytes
  have hr := B.returns
  have hlk := B.notSynchronized
  have hts : ∀ w ∈ wsL_law, w.before args s = true := fun w hw => atoms_spec B.pre w (List.mem_cons_of_mem _ hw)
  have hown : s.vm.findClass RX11 = some m.cls := findClass_of_methodNamed B.named
  have hW : Wd D A s.heap (oc_X11 T a_o x_o ++ Z) s.heap [] := ⟨hP, hD, va_S.rf⟩
  have hl := lv_entry [.ref (a_o 0), .int p1] (n := 2) (Nat.le_of_ble_eq_true rfl)
  refine W.eq (en_eq ha) ?_
  generalize (lg_sl [.ref (a_o 0), .int p1] ++ List.replicate (2 - (lg_sl [.ref (a_o 0), .int p1]).length) Slot.unset).toArray = ls at hl ⊢
  have hl : lv_has ls 2 [(0, .ref (a_o 0)), (1, .int p1)] := hl
  clear hP hD B ha
  obtain ⟨Q, hQ⟩ : ∃ Q, Q = MQ below (Qgi D A (oc_X11 T a_o x_o9 ++ Z) r) args s 0 0 A := ⟨_, rfl⟩
  rw [← hQ]
  change W p l e (rmd 8) s m args below meth c s.heap [] 0 0 Q (F0 m 0 ls [])
  rw [f_X11_costAnew] at h
  suffices hm : ∀ (H : Heap) (locs : List Loc), Wd D A s.heap (oc_X11 T a_o x_o ++ Z) H locs → W p l e (rmd 8) s m args below meth c H locs 0 0 Q (F0 m 0 ls []) from hm _ _ hW
  intro H locs hW
  refine lv_aload_n hx hb dX11_costAnew_0 rfl (lv_at hl 0 rfl) ?_
  refine lv_iload_n hx hb dX11_costAnew_1 rfl (lv_at hl 1 rfl) ?_
  obtain ⟨r1, x_o2, q3, h⟩ := bnd2_s h
  refine cl_X11_325 hx hb hml hown hts hK hN hW (c_X11_cost l D T A a_o (Z) x_o p1 r1 x_o2 q3) ⟨Nat.le_of_ble_eq_true rfl, Nat.le_of_ble_eq_true rfl⟩ hl.1 rfl (Nat.le_of_ble_eq_true rfl) dX11_costAnew_2 ⟨Nat.zero_le _, Nat.zero_le _⟩ rfl (fun H locs hW => ?_)
  obtain ⟨rfl, rfl⟩ := ret2 h
  rw [hQ]
  exact g_reti hx hb hr hlk hW dX11_costAnew_5
set_option maxHeartbeats 4000000 in
set_option maxRecDepth 100000 in
theorem c_X11_faults (l : Launch) (D : va_G) (T : Nat → ClassId) (A : Nat → Prop) (a_o : Nat → Nat) (Z : va_W)  (x_o : Ob) (p1 : Int32) (r : Int32) (x_o9 : Ob) (h : f_X11_faults x_o p1 = some (r, x_o9)) : Met l yX11_faults (Cond.code yX11_faults cX11_faults 2 (some .int) :: wsL_law) (rmd 7) (Pg D T A (oc_X11 T a_o x_o ++ Z) [.ref (a_o 0), .int p1]) (Qgi D A (oc_X11 T a_o x_o9 ++ Z) r) 0 0 A := by
  refine Met.ofW (cc := cX11_faults) (maxL := 2) (ret := (some .int)) (by decide +kernel) rfl ?_
  intro p e s m args below meth c s₁ B hml hv
  obtain ⟨ha, hP, hK, hD, hN⟩ := hv
  have hx := B.exec
  have hb := B.bytes
  have hr := B.returns
  have hlk := B.notSynchronized
  have hts : ∀ w ∈ wsL_law, w.before args s = true := fun w hw => atoms_spec B.pre w (List.mem_cons_of_mem _ hw)
  have hown : s.vm.findClass RX11 = some m.cls := findClass_of_methodNamed B.named
  have hW : Wd D A s.heap (oc_X11 T a_o x_o ++ Z) s.heap [] := ⟨hP, hD, va_S.rf⟩
  have hl := lv_entry [.ref (a_o 0), .int p1] (n := 2) (Nat.le_of_ble_eq_true rfl)
  refine W.eq (en_eq ha) ?_
  generalize (lg_sl [.ref (a_o 0), .int p1] ++ List.replicate (2 - (lg_sl [.ref (a_o 0), .int p1]).length) Slot.unset).toArray = ls at hl ⊢
  have hl : lv_has ls 2 [(0, .ref (a_o 0)), (1, .int p1)] := hl
  clear hP hD B ha
  obtain ⟨Q, hQ⟩ : ∃ Q, Q = MQ below (Qgi D A (oc_X11 T a_o x_o9 ++ Z) r) args s 0 0 A := ⟨_, rfl⟩
  rw [← hQ]
  change W p l e (rmd 7) s m args below meth c s.heap [] 0 0 Q (F0 m 0 ls [])
  rw [f_X11_faults] at h
  suffices hm : ∀ (H : Heap) (locs : List Loc), Wd D A s.heap (oc_X11 T a_o x_o ++ Z) H locs → W p l e (rmd 7) s m args below meth c H locs 0 0 Q (F0 m 0 ls []) from hm _ _ hW
  intro H locs hW
  refine lv_aload_n hx hb dX11_faults_0 rfl (lv_at hl 0 rfl) ?_
  refine lv_iload_n hx hb dX11_faults_1 rfl (lv_at hl 1 rfl) ?_
  obtain ⟨r1, q2, h⟩ := bnd1_s h
  refine cl_X11_194 hx hb hml hown hts hK hN hW (c_X11_isSentence l D T A (oc_X11 T a_o x_o ++ Z) p1 r1 q2) ⟨Nat.le_of_ble_eq_true rfl, Nat.le_of_ble_eq_true rfl⟩ hl.1 rfl (Nat.le_of_ble_eq_true rfl) dX11_faults_2 ⟨Nat.zero_le _, Nat.zero_le _⟩ rfl (fun H locs hW => ?_)
  obtain ⟨r3, x_o4, q5, h⟩ := bnd2_s h
  refine cl_X11_222 hx hb hml hown hts hK hN hW (c_X11_may l D T A a_o (Z) x_o r1 r3 x_o4 q5) ⟨Nat.le_of_ble_eq_true rfl, Nat.le_of_ble_eq_true rfl⟩ hl.1 rfl (Nat.le_of_ble_eq_true rfl) dX11_faults_5 ⟨Nat.zero_le _, Nat.zero_le _⟩ rfl (fun H locs hW => ?_)
  refine lv_if_ne (tgt := 13) hx hb dX11_faults_8 (by decide) (fun c6 => ?_) (fun c6 => ?_)
  · have h := ite_f c6 h
    refine lv_aload_n hx hb dX11_faults_13 rfl (lv_at hl 0 rfl) ?_
    refine lv_iload_n hx hb dX11_faults_14 rfl (lv_at hl 1 rfl) ?_
    obtain ⟨x_o7, q8, h⟩ := bnd1_s h
    refine cl_X11_317 hx hb hml hown hts hK hN hW (c_X11_need l D T A a_o (Z) x_o4 p1 x_o7 q8) ⟨Nat.le_of_ble_eq_true rfl, Nat.le_of_ble_eq_true rfl⟩ hl.1 rfl (Nat.le_of_ble_eq_true rfl) dX11_faults_15 ⟨Nat.zero_le _, Nat.zero_le _⟩ rfl (fun H locs hW => ?_)
    refine lv_aload_n hx hb dX11_faults_18 rfl (lv_at hl 0 rfl) ?_
    refine lv_iload_n hx hb dX11_faults_19 rfl (lv_at hl 1 rfl) ?_
    obtain ⟨x_o9, q10, h⟩ := bnd1_s h
    refine cl_X11_327 hx hb hml hown hts hK hN hW (c_X11_findFaults l D T A a_o (Z) x_o7 p1 x_o9 q10) ⟨Nat.le_of_ble_eq_true rfl, Nat.le_of_ble_eq_true rfl⟩ hl.1 rfl (Nat.le_of_ble_eq_true rfl) dX11_faults_20 ⟨Nat.zero_le _, Nat.zero_le _⟩ rfl (fun H locs hW => ?_)
    refine lv_aload_n hx hb dX11_faults_23 rfl (lv_at hl 0 rfl) ?_
    refine fg_X11_307 (v := .int (x_o9 43 0)) hx hb hts hown hK hW 0 rfl rfl dX11_faults_24 ?_
    obtain ⟨rfl, rfl⟩ := ret2 h
    rw [hQ]
    exact g_reti hx hb hr hlk hW dX11_faults_27
  · have h := ite_t c6 h
    refine lv_iconst (v := 0) hx hb dX11_faults_11 (by decide) ?_
    obtain ⟨rfl, rfl⟩ := ret2 h
    rw [hQ]
    exact g_reti hx hb hr hlk hW dX11_faults_12
set_option maxHeartbeats 4000000 in
set_option maxRecDepth 100000 in
theorem c_X11_fault (l : Launch) (D : va_G) (T : Nat → ClassId) (A : Nat → Prop) (a_o : Nat → Nat) (Z : va_W)  (x_o : Ob) (p1 : Int32) (p2 : Int32) (r : Int32) (x_o9 : Ob) (h : f_X11_fault x_o p1 p2 = some (r, x_o9)) : Met l yX11_fault (Cond.code yX11_fault cX11_fault 4 (some .int) :: wsL_law) (rmd 7) (Pg D T A (oc_X11 T a_o x_o ++ Z) [.ref (a_o 0), .int p1, .int p2]) (Qgi D A (oc_X11 T a_o x_o9 ++ Z) r) 0 0 A := by
  refine Met.ofW (cc := cX11_fault) (maxL := 4) (ret := (some .int)) (by decide +kernel) rfl ?_
  intro p e s m args below meth c s₁ B hml hv
  obtain ⟨ha, hP, hK, hD, hN⟩ := hv
  have hx := B.exec
  have hb := B.bytes
  have hr := B.returns
  have hlk := B.notSynchronized
  have hts : ∀ w ∈ wsL_law, w.before args s = true := fun w hw => atoms_spec B.pre w (List.mem_cons_of_mem _ hw)
  have hown : s.vm.findClass RX11 = some m.cls := findClass_of_methodNamed B.named
  have hW : Wd D A s.heap (oc_X11 T a_o x_o ++ Z) s.heap [] := ⟨hP, hD, va_S.rf⟩
  have hl := lv_entry [.ref (a_o 0), .int p1, .int p2] (n := 4) (Nat.le_of_ble_eq_true rfl)
  refine W.eq (en_eq ha) ?_
  generalize (lg_sl [.ref (a_o 0), .int p1, .int p2] ++ List.replicate (4 - (lg_sl [.ref (a_o 0), .int p1, .int p2]).length) Slot.unset).toArray = ls at hl ⊢
  have hl : lv_has ls 4 [(0, .ref (a_o 0)), (1, .int p1), (2, .int p2)] := hl
  clear hP hD B ha
  obtain ⟨Q, hQ⟩ : ∃ Q, Q = MQ below (Qgi D A (oc_X11 T a_o x_o9 ++ Z) r) args s 0 0 A := ⟨_, rfl⟩
  rw [← hQ]
  change W p l e (rmd 7) s m args below meth c s.heap [] 0 0 Q (F0 m 0 ls [])
  rw [f_X11_fault] at h
  suffices hm : ∀ (H : Heap) (locs : List Loc), Wd D A s.heap (oc_X11 T a_o x_o ++ Z) H locs → W p l e (rmd 7) s m args below meth c H locs 0 0 Q (F0 m 0 ls []) from hm _ _ hW
  intro H locs hW
  refine lv_aload_n hx hb dX11_fault_0 rfl (lv_at hl 0 rfl) ?_
  refine lv_iload_n hx hb dX11_fault_1 rfl (lv_at hl 1 rfl) ?_
  obtain ⟨r1, q2, h⟩ := bnd1_s h
  refine cl_X11_194 hx hb hml hown hts hK hN hW (c_X11_isSentence l D T A (oc_X11 T a_o x_o ++ Z) p1 r1 q2) ⟨Nat.le_of_ble_eq_true rfl, Nat.le_of_ble_eq_true rfl⟩ hl.1 rfl (Nat.le_of_ble_eq_true rfl) dX11_fault_2 ⟨Nat.zero_le _, Nat.zero_le _⟩ rfl (fun H locs hW => ?_)
  obtain ⟨r3, x_o4, q5, h⟩ := bnd2_s h
  refine cl_X11_222 hx hb hml hown hts hK hN hW (c_X11_may l D T A a_o (Z) x_o r1 r3 x_o4 q5) ⟨Nat.le_of_ble_eq_true rfl, Nat.le_of_ble_eq_true rfl⟩ hl.1 rfl (Nat.le_of_ble_eq_true rfl) dX11_fault_5 ⟨Nat.zero_le _, Nat.zero_le _⟩ rfl (fun H locs hW => ?_)
  refine lv_if_ne (tgt := 13) hx hb dX11_fault_8 (by decide) (fun c6 => ?_) (fun c6 => ?_)
  · have h := ite_f c6 h
    refine lv_aload_n hx hb dX11_fault_13 rfl (lv_at hl 0 rfl) ?_
    refine lv_iload_n hx hb dX11_fault_14 rfl (lv_at hl 1 rfl) ?_
    obtain ⟨x_o7, q8, h⟩ := bnd1_s h
    refine cl_X11_317 hx hb hml hown hts hK hN hW (c_X11_need l D T A a_o (Z) x_o4 p1 x_o7 q8) ⟨Nat.le_of_ble_eq_true rfl, Nat.le_of_ble_eq_true rfl⟩ hl.1 rfl (Nat.le_of_ble_eq_true rfl) dX11_fault_15 ⟨Nat.zero_le _, Nat.zero_le _⟩ rfl (fun H locs hW => ?_)
    refine lv_aload_n hx hb dX11_fault_18 rfl (lv_at hl 0 rfl) ?_
    refine lv_iload_n hx hb dX11_fault_19 rfl (lv_at hl 1 rfl) ?_
    obtain ⟨x_o9, q10, h⟩ := bnd1_s h
    refine cl_X11_327 hx hb hml hown hts hK hN hW (c_X11_findFaults l D T A a_o (Z) x_o7 p1 x_o9 q10) ⟨Nat.le_of_ble_eq_true rfl, Nat.le_of_ble_eq_true rfl⟩ hl.1 rfl (Nat.le_of_ble_eq_true rfl) dX11_fault_20 ⟨Nat.zero_le _, Nat.zero_le _⟩ rfl (fun H locs hW => ?_)
    refine lv_aload_n hx hb dX11_fault_23 rfl (lv_at hl 0 rfl) ?_
    refine lv_iload_n hx hb dX11_fault_24 rfl (lv_at hl 2 rfl) ?_
    refine lv_iconst (v := 0) hx hb dX11_fault_25 (by decide) ?_
    refine lv_aload_n hx hb dX11_fault_26 rfl (lv_at hl 0 rfl) ?_
    refine fg_X11_307 (v := .int (x_o9 43 0)) hx hb hts hown hK hW 0 rfl rfl dX11_fault_27 ?_
    refine lv_iconst (v := 1) hx hb dX11_fault_30 (by decide) ?_
    refine lv_isub hx hb dX11_fault_31 ?_
    obtain ⟨r11, q12, h⟩ := bnd1_s h
    refine cl_X11_187 hx hb hml hown hts hK hN hW (c_X11_isIn l D T A (oc_X11 T a_o x_o9 ++ Z) p2 0 ((x_o9 43 0) - 1) r11 q12) ⟨Nat.le_of_ble_eq_true rfl, Nat.le_of_ble_eq_true rfl⟩ hl.1 rfl (Nat.le_of_ble_eq_true rfl) dX11_fault_32 ⟨Nat.zero_le _, Nat.zero_le _⟩ rfl (fun H locs hW => ?_)
    obtain ⟨r13, x_o14, q15, h⟩ := bnd2_s h
    refine cl_X11_222 hx hb hml hown hts hK hN hW (c_X11_may l D T A a_o (Z) x_o9 r11 r13 x_o14 q15) ⟨Nat.le_of_ble_eq_true rfl, Nat.le_of_ble_eq_true rfl⟩ hl.1 rfl (Nat.le_of_ble_eq_true rfl) dX11_fault_35 ⟨Nat.zero_le _, Nat.zero_le _⟩ rfl (fun H locs hW => ?_)
    refine lv_if_ne (tgt := 43) hx hb dX11_fault_38 (by decide) (fun c16 => ?_) (fun c16 => ?_)
    · have h := ite_f c16 h
      refine lv_aload_n hx hb dX11_fault_43 rfl (lv_at hl 0 rfl) ?_
      refine fg_X11_126 (v := .ref (a_o 39)) hx hb hts hown hK hW 0 rfl rfl dX11_fault_44 ?_
      refine lv_iload_n hx hb dX11_fault_47 rfl (lv_at hl 2 rfl) ?_
      obtain ⟨g17, h⟩ := grd_s h
      refine g_iald hx hb hK hW 39 rfl g17 dX11_fault_48 ?_
      refine lv_topi (fun w3_18 ew3_18 => ?_)
      have h := lb_at ew3_18 h
      refine lv_istore_n (lv' := [(3, .int w3_18), (0, .ref (a_o 0)), (1, .int p1), (2, .int p2)]) hx hb dX11_fault_49 rfl hl (by decide) rfl (fun ls hl => ?_)
      refine lv_sipush (v := 1000) hx hb dX11_fault_50 (by decide) ?_
      refine lv_aload_n hx hb dX11_fault_53 rfl (lv_at hl 1 rfl) ?_
      refine fg_X11_105 (v := .ref (a_o 32)) hx hb hts hown hK hW 0 rfl rfl dX11_fault_54 ?_
      refine lv_iload_n hx hb dX11_fault_57 rfl (lv_at hl 0 rfl) ?_
      obtain ⟨g19, h⟩ := grd_s h
      refine g_iald hx hb hK hW 32 rfl g19 dX11_fault_58 ?_
      refine lv_imul hx hb dX11_fault_59 ?_
      refine lv_bipush (v := 100) hx hb dX11_fault_60 (by decide) ?_
      refine lv_aload_n hx hb dX11_fault_62 rfl (lv_at hl 1 rfl) ?_
      refine fg_X11_129 (v := .ref (a_o 40)) hx hb hts hown hK hW 0 rfl rfl dX11_fault_63 ?_
      refine lv_iload_n hx hb dX11_fault_66 rfl (lv_at hl 3 rfl) ?_
      obtain ⟨g20, h⟩ := grd_s h
      refine g_iald hx hb hK hW 40 rfl g20 dX11_fault_67 ?_
      refine lv_imul hx hb dX11_fault_68 ?_
      refine lv_iadd hx hb dX11_fault_69 ?_
      refine lv_bipush (v := 10) hx hb dX11_fault_70 (by decide) ?_
      refine lv_aload_n hx hb dX11_fault_72 rfl (lv_at hl 1 rfl) ?_
      refine fg_X11_114 (v := .ref (a_o 35)) hx hb hts hown hK hW 0 rfl rfl dX11_fault_73 ?_
      refine lv_iload_n hx hb dX11_fault_76 rfl (lv_at hl 0 rfl) ?_
      obtain ⟨g21, h⟩ := grd_s h
      refine g_iald hx hb hK hW 35 rfl g21 dX11_fault_77 ?_
      refine lv_bipush (v := 6) hx hb dX11_fault_78 (by decide) ?_
      refine lv_idiv hx hb dX11_fault_80 (by decide) ?_
      refine lv_imul hx hb dX11_fault_81 ?_
      refine lv_iadd hx hb dX11_fault_82 ?_
      refine lv_aload_n hx hb dX11_fault_83 rfl (lv_at hl 1 rfl) ?_
      refine fg_X11_114 (v := .ref (a_o 35)) hx hb hts hown hK hW 0 rfl rfl dX11_fault_84 ?_
      refine lv_iload_n hx hb dX11_fault_87 rfl (lv_at hl 0 rfl) ?_
      obtain ⟨g22, h⟩ := grd_s h
      refine g_iald hx hb hK hW 35 rfl g22 dX11_fault_88 ?_
      refine lv_bipush (v := 6) hx hb dX11_fault_89 (by decide) ?_
      refine lv_irem hx hb dX11_fault_91 (by decide) ?_
      refine lv_iadd hx hb dX11_fault_92 ?_
      refine lv_iconst (v := 1) hx hb dX11_fault_93 (by decide) ?_
      refine lv_iadd hx hb dX11_fault_94 ?_
      obtain ⟨rfl, rfl⟩ := ret2 h
      rw [hQ]
      exact g_reti hx hb hr hlk hW dX11_fault_95
    · have h := ite_t c16 h
      refine lv_iconst (v := 0) hx hb dX11_fault_41 (by decide) ?_
      obtain ⟨rfl, rfl⟩ := ret2 h
      rw [hQ]
      exact g_reti hx hb hr hlk hW dX11_fault_42
  · have h := ite_t c6 h
    refine lv_iconst (v := 0) hx hb dX11_fault_11 (by decide) ?_
    obtain ⟨rfl, rfl⟩ := ret2 h
    rw [hQ]
    exact g_reti hx hb hr hlk hW dX11_fault_12
set_option maxHeartbeats 4000000 in
set_option maxRecDepth 100000 in
theorem c_X11_fragments (l : Launch) (D : va_G) (T : Nat → ClassId) (A : Nat → Prop) (a_o : Nat → Nat) (Z : va_W)  (x_o : Ob) (p1 : Int32) (r : Int32) (x_o9 : Ob) (h : f_X11_fragments x_o p1 = some (r, x_o9)) : Met l yX11_fragments (Cond.code yX11_fragments cX11_fragments 2 (some .int) :: wsL_law) (rmd 7) (Pg D T A (oc_X11 T a_o x_o ++ Z) [.ref (a_o 0), .int p1]) (Qgi D A (oc_X11 T a_o x_o9 ++ Z) r) 0 0 A := by
  refine Met.ofW (cc := cX11_fragments) (maxL := 2) (ret := (some .int)) (by decide +kernel) rfl ?_
  intro p e s m args below meth c s₁ B hml hv
  obtain ⟨ha, hP, hK, hD, hN⟩ := hv
  have hx := B.exec
  have hb := B.bytes
  have hr := B.returns
  have hlk := B.notSynchronized
  have hts : ∀ w ∈ wsL_law, w.before args s = true := fun w hw => atoms_spec B.pre w (List.mem_cons_of_mem _ hw)
  have hown : s.vm.findClass RX11 = some m.cls := findClass_of_methodNamed B.named
  have hW : Wd D A s.heap (oc_X11 T a_o x_o ++ Z) s.heap [] := ⟨hP, hD, va_S.rf⟩
  have hl := lv_entry [.ref (a_o 0), .int p1] (n := 2) (Nat.le_of_ble_eq_true rfl)
  refine W.eq (en_eq ha) ?_
  generalize (lg_sl [.ref (a_o 0), .int p1] ++ List.replicate (2 - (lg_sl [.ref (a_o 0), .int p1]).length) Slot.unset).toArray = ls at hl ⊢
  have hl : lv_has ls 2 [(0, .ref (a_o 0)), (1, .int p1)] := hl
  clear hP hD B ha
  obtain ⟨Q, hQ⟩ : ∃ Q, Q = MQ below (Qgi D A (oc_X11 T a_o x_o9 ++ Z) r) args s 0 0 A := ⟨_, rfl⟩
  rw [← hQ]
  change W p l e (rmd 7) s m args below meth c s.heap [] 0 0 Q (F0 m 0 ls [])
  rw [f_X11_fragments] at h
  suffices hm : ∀ (H : Heap) (locs : List Loc), Wd D A s.heap (oc_X11 T a_o x_o ++ Z) H locs → W p l e (rmd 7) s m args below meth c H locs 0 0 Q (F0 m 0 ls []) from hm _ _ hW
  intro H locs hW
  refine lv_aload_n hx hb dX11_fragments_0 rfl (lv_at hl 0 rfl) ?_
  refine lv_iload_n hx hb dX11_fragments_1 rfl (lv_at hl 1 rfl) ?_
  obtain ⟨r1, q2, h⟩ := bnd1_s h
  refine cl_X11_194 hx hb hml hown hts hK hN hW (c_X11_isSentence l D T A (oc_X11 T a_o x_o ++ Z) p1 r1 q2) ⟨Nat.le_of_ble_eq_true rfl, Nat.le_of_ble_eq_true rfl⟩ hl.1 rfl (Nat.le_of_ble_eq_true rfl) dX11_fragments_2 ⟨Nat.zero_le _, Nat.zero_le _⟩ rfl (fun H locs hW => ?_)
  obtain ⟨r3, x_o4, q5, h⟩ := bnd2_s h
  refine cl_X11_222 hx hb hml hown hts hK hN hW (c_X11_may l D T A a_o (Z) x_o r1 r3 x_o4 q5) ⟨Nat.le_of_ble_eq_true rfl, Nat.le_of_ble_eq_true rfl⟩ hl.1 rfl (Nat.le_of_ble_eq_true rfl) dX11_fragments_5 ⟨Nat.zero_le _, Nat.zero_le _⟩ rfl (fun H locs hW => ?_)
  refine lv_if_ne (tgt := 13) hx hb dX11_fragments_8 (by decide) (fun c6 => ?_) (fun c6 => ?_)
  · have h := ite_f c6 h
    refine lv_aload_n hx hb dX11_fragments_13 rfl (lv_at hl 0 rfl) ?_
    refine lv_iload_n hx hb dX11_fragments_14 rfl (lv_at hl 1 rfl) ?_
    obtain ⟨x_o7, q8, h⟩ := bnd1_s h
    refine cl_X11_317 hx hb hml hown hts hK hN hW (c_X11_need l D T A a_o (Z) x_o4 p1 x_o7 q8) ⟨Nat.le_of_ble_eq_true rfl, Nat.le_of_ble_eq_true rfl⟩ hl.1 rfl (Nat.le_of_ble_eq_true rfl) dX11_fragments_15 ⟨Nat.zero_le _, Nat.zero_le _⟩ rfl (fun H locs hW => ?_)
    refine lv_aload_n hx hb dX11_fragments_18 rfl (lv_at hl 0 rfl) ?_
    refine lv_iload_n hx hb dX11_fragments_19 rfl (lv_at hl 1 rfl) ?_
    obtain ⟨x_o9, q10, h⟩ := bnd1_s h
    refine cl_X11_330 hx hb hml hown hts hK hN hW (c_X11_findFragments l D T A a_o (Z) x_o7 p1 x_o9 q10) ⟨Nat.le_of_ble_eq_true rfl, Nat.le_of_ble_eq_true rfl⟩ hl.1 rfl (Nat.le_of_ble_eq_true rfl) dX11_fragments_20 ⟨Nat.zero_le _, Nat.zero_le _⟩ rfl (fun H locs hW => ?_)
    refine lv_aload_n hx hb dX11_fragments_23 rfl (lv_at hl 0 rfl) ?_
    refine fg_X11_311 (v := .int (x_o9 47 0)) hx hb hts hown hK hW 0 rfl rfl dX11_fragments_24 ?_
    obtain ⟨rfl, rfl⟩ := ret2 h
    rw [hQ]
    exact g_reti hx hb hr hlk hW dX11_fragments_27
  · have h := ite_t c6 h
    refine lv_iconst (v := 0) hx hb dX11_fragments_11 (by decide) ?_
    obtain ⟨rfl, rfl⟩ := ret2 h
    rw [hQ]
    exact g_reti hx hb hr hlk hW dX11_fragments_12
