set_option maxHeartbeats 16000000 in
set_option maxRecDepth 100000 in
theorem c_L_chart (l : Launch) (D : va_G) (T : Nat → ClassId) (A : Nat → Prop) (a_c : Nat) (a_w : Nat) (a_u : Nat) (a_x : Nat) (a_l : Nat) (a_v : Nat) (a_g : Nat) (a_q : Nat) (a_n : Nat) (a_e : Nat) (a_j : Nat) (a_a : Nat) (a_b : Nat) (a_m : Nat) (Z : va_W) (x_c : Nat → Int32) (x_w : Nat → Int32) (x_u : Nat → Int32) (x_x : Nat → Int32) (x_l : Nat → Int32) (x_v : Nat → Int32) (x_g : Nat → Int32) (x_q : Nat → Int32) (x_n : Nat → Int32) (x_e : Nat → Int32) (x_j : Nat → Int32) (x_a : Nat → Int32) (x_b : Nat → Int32) (x_m : Nat → Int32) (p15 : Int32) (x_c9 : Nat → Int32) (x_e9 : Nat → Int32) (x_j9 : Nat → Int32) (x_a9 : Nat → Int32) (x_b9 : Nat → Int32) (x_m9 : Nat → Int32) (h : f_L_chart x_c x_w x_u x_x x_l x_v x_g x_q x_n x_e x_j x_a x_b x_m p15 = some (x_c9, x_e9, x_j9, x_a9, x_b9, x_m9)) : Met l yL_chart (Cond.code yL_chart cL_chart 26 none :: wsL_law) (rmL 3 4000) (Pl D T A (oA T 12 a_c x_c ++ (oA T 24 a_w x_w ++ (oA T 2 a_u x_u ++ (oA T 6 a_x x_x ++ (oA T 6 a_l x_l ++ (oA T 12 a_v x_v ++ (oA T 20 a_g x_g ++ (oA T 60 a_q x_q ++ (oA T 5 a_n x_n ++ (oA T 64 a_e x_e ++ (oA T 64 a_j x_j ++ (oA T 64 a_a x_a ++ (oA T 48 a_b x_b ++ (oA T 6 a_m x_m ++ Z)))))))))))))) [.ref a_c, .ref a_w, .ref a_u, .ref a_x, .ref a_l, .ref a_v, .ref a_g, .ref a_q, .ref a_n, .ref a_e, .ref a_j, .ref a_a, .ref a_b, .ref a_m, .int p15]) (Qgv D A (oA T 12 a_c x_c9 ++ (oA T 24 a_w x_w ++ (oA T 2 a_u x_u ++ (oA T 6 a_x x_x ++ (oA T 6 a_l x_l ++ (oA T 12 a_v x_v ++ (oA T 20 a_g x_g ++ (oA T 60 a_q x_q ++ (oA T 5 a_n x_n ++ (oA T 64 a_e x_e9 ++ (oA T 64 a_j x_j9 ++ (oA T 64 a_a x_a9 ++ (oA T 48 a_b x_b9 ++ (oA T 6 a_m x_m9 ++ Z))))))))))))))) 4000 (16 * 4000) A := by
  refine Met.ofW (cc := cL_chart) (maxL := 26) (ret := none) (by decide +kernel) rfl ?_
  intro p e s m args below meth c s₁ B hml hv
  obtain ⟨ha, hP, hK, hD, hN, hE, hC, hA⟩ := hv
  have hx := B.exec
  have hb := B.bytes
  have hr := B.returns
  have hlk := B.notSynchronized
  have hts : ∀ w ∈ wsL_law, w.before args s = true := fun w hw => atoms_spec B.pre w (List.mem_cons_of_mem _ hw)
  have hown : s.vm.findClass RL = some m.cls := findClass_of_methodNamed B.named
  have hW : Wd D A s.heap (oA T 12 a_c x_c ++ (oA T 24 a_w x_w ++ (oA T 2 a_u x_u ++ (oA T 6 a_x x_x ++ (oA T 6 a_l x_l ++ (oA T 12 a_v x_v ++ (oA T 20 a_g x_g ++ (oA T 60 a_q x_q ++ (oA T 5 a_n x_n ++ (oA T 64 a_e x_e ++ (oA T 64 a_j x_j ++ (oA T 64 a_a x_a ++ (oA T 48 a_b x_b ++ (oA T 6 a_m x_m ++ Z)))))))))))))) s.heap [] := ⟨hP, hD, va_S.rf⟩
  have hl := lv_entry [.ref a_c, .ref a_w, .ref a_u, .ref a_x, .ref a_l, .ref a_v, .ref a_g, .ref a_q, .ref a_n, .ref a_e, .ref a_j, .ref a_a, .ref a_b, .ref a_m, .int p15] (n := 26) (Nat.le_of_ble_eq_true rfl)
  refine W.eq (en_eq ha) ?_
  generalize (lg_sl [.ref a_c, .ref a_w, .ref a_u, .ref a_x, .ref a_l, .ref a_v, .ref a_g, .ref a_q, .ref a_n, .ref a_e, .ref a_j, .ref a_a, .ref a_b, .ref a_m, .int p15] ++ List.replicate (26 - (lg_sl [.ref a_c, .ref a_w, .ref a_u, .ref a_x, .ref a_l, .ref a_v, .ref a_g, .ref a_q, .ref a_n, .ref a_e, .ref a_j, .ref a_a, .ref a_b, .ref a_m, .int p15]).length) Slot.unset).toArray = ls at hl ⊢
  have hl : lv_has ls 26 [(0, .ref a_c), (1, .ref a_w), (2, .ref a_u), (3, .ref a_x), (4, .ref a_l), (5, .ref a_v), (6, .ref a_g), (7, .ref a_q), (8, .ref a_n), (9, .ref a_e), (10, .ref a_j), (11, .ref a_a), (12, .ref a_b), (13, .ref a_m), (14, .int p15)] := hl
  clear hP hD B ha
  obtain ⟨Q, hQ⟩ : ∃ Q, Q = MQ below (Qgv D A (oA T 12 a_c x_c9 ++ (oA T 24 a_w x_w ++ (oA T 2 a_u x_u ++ (oA T 6 a_x x_x ++ (oA T 6 a_l x_l ++ (oA T 12 a_v x_v ++ (oA T 20 a_g x_g ++ (oA T 60 a_q x_q ++ (oA T 5 a_n x_n ++ (oA T 64 a_e x_e9 ++ (oA T 64 a_j x_j9 ++ (oA T 64 a_a x_a9 ++ (oA T 48 a_b x_b9 ++ (oA T 6 a_m x_m9 ++ Z))))))))))))))) args s 4000 (16 * 4000) A := ⟨_, rfl⟩
  rw [← hQ]
  change W p l e (rmL 3 4000) s m args below meth c s.heap [] 0 (16 * 0) Q (F0 m 0 ls [])
  rw [f_L_chart] at h
  suffices hm : ∀ (H : Heap) (locs : List Loc), Wd D A s.heap (oA T 12 a_c x_c ++ (oA T 24 a_w x_w ++ (oA T 2 a_u x_u ++ (oA T 6 a_x x_x ++ (oA T 6 a_l x_l ++ (oA T 12 a_v x_v ++ (oA T 20 a_g x_g ++ (oA T 60 a_q x_q ++ (oA T 5 a_n x_n ++ (oA T 64 a_e x_e ++ (oA T 64 a_j x_j ++ (oA T 64 a_a x_a ++ (oA T 48 a_b x_b ++ (oA T 6 a_m x_m ++ Z)))))))))))))) H locs → W p l e (rmL 3 4000) s m args below meth c H locs 0 (16 * 0) Q (F0 m 0 ls []) from hm _ _ hW
  clear hW
  intro H locs hW
  have L13 : ∀ (n : Nat) (x_c_13 : Nat → Int32) (x_e_13 : Nat → Int32) (x_j_13 : Nat → Int32) (x_a_13 : Nat → Int32) (x_b_13 : Nat → Int32) (x_m_13 : Nat → Int32) (x_N_13 : Nat) (v14_13 : Int32) (v15_13 : Int32) (hN_13 : x_N_13 ≤ 4000) (H : Heap) (locs : List Loc) (ls : Array Slot) (o15_13r : Int32) (y_m_13r : Nat → Int32), Wd D A s.heap (oA T 12 a_c x_c_13 ++ (oA T 24 a_w x_w ++ (oA T 2 a_u x_u ++ (oA T 6 a_x x_x ++ (oA T 6 a_l x_l ++ (oA T 12 a_v x_v ++ (oA T 20 a_g x_g ++ (oA T 60 a_q x_q ++ (oA T 5 a_n x_n ++ (oA T 64 a_e x_e_13 ++ (oA T 64 a_j x_j_13 ++ (oA T 64 a_a x_a_13 ++ (oA T 48 a_b x_b_13 ++ (oA T 6 a_m x_m_13 ++ Z)))))))))))))) H locs → lv_has ls 26 [(0, .ref a_c), (1, .ref a_w), (2, .ref a_u), (3, .ref a_x), (4, .ref a_l), (5, .ref a_v), (6, .ref a_g), (7, .ref a_q), (8, .ref a_n), (9, .ref a_e), (10, .ref a_j), (11, .ref a_a), (12, .ref a_b), (13, .ref a_m), (14, .int v14_13), (15, .int v15_13)] → f_L_chart_L13 n x_c_13 x_w x_u x_x x_l x_v x_g x_q x_n x_e_13 x_j_13 x_a_13 x_b_13 x_m_13 x_N_13 v14_13 v15_13 = some (o15_13r, y_m_13r) → (∀ (H : Heap) (locs : List Loc) (ls : Array Slot), Wd D A s.heap (oA T 12 a_c x_c_13 ++ (oA T 24 a_w x_w ++ (oA T 2 a_u x_u ++ (oA T 6 a_x x_x ++ (oA T 6 a_l x_l ++ (oA T 12 a_v x_v ++ (oA T 20 a_g x_g ++ (oA T 60 a_q x_q ++ (oA T 5 a_n x_n ++ (oA T 64 a_e x_e_13 ++ (oA T 64 a_j x_j_13 ++ (oA T 64 a_a x_a_13 ++ (oA T 48 a_b x_b_13 ++ (oA T 6 a_m y_m_13r ++ Z)))))))))))))) H locs → lv_has ls 26 [(0, .ref a_c), (1, .ref a_w), (2, .ref a_u), (3, .ref a_x), (4, .ref a_l), (5, .ref a_v), (6, .ref a_g), (7, .ref a_q), (8, .ref a_n), (9, .ref a_e), (10, .ref a_j), (11, .ref a_a), (12, .ref a_b), (13, .ref a_m), (14, .int v14_13)] → W p l e (rmL 3 4000) s m args below meth c H locs x_N_13 (16 * x_N_13) Q (F0 m 32 ls [])) → W p l e (rmL 3 4000) s m args below meth c H locs x_N_13 (16 * x_N_13) Q (F0 m 13 ls []) := by
    intro n
    induction n with
    | zero =>
      intro x_c_13 x_e_13 x_j_13 x_a_13 x_b_13 x_m_13 x_N_13 v14_13 v15_13 hN_13 H locs ls o15_13r y_m_13r hW hl h k1
      rw [f_L_chart_L13] at h
      cases h
    | succ n ih =>
      intro x_c_13 x_e_13 x_j_13 x_a_13 x_b_13 x_m_13 x_N_13 v14_13 v15_13 hN_13 H locs ls o15_13r y_m_13r hW hl h k1
      rw [f_L_chart_L13] at h
      refine lv_iload hx hb dL_chart_13 (lv_at hl 15 rfl) ?_
      refine lv_bipush (v := 6) hx hb dL_chart_15 (by decide) ?_
      refine lv_icmp_ge (tgt := 32) hx hb dL_chart_17 (by decide) (fun c3 => ?_) (fun c3 => ?_)
      · replace h := ite_t c3 h
        obtain ⟨rfl, rfl⟩ := ret2 h
        exact k1 H locs ls hW (lv_sub hl [0, 1, 2, 3, 4, 5, 6, 7, 8, 9, 10, 11, 12, 13, 14] rfl)
      · replace h := ite_f c3 h
        refine lv_aload hx hb dL_chart_20 (lv_at hl 13 rfl) ?_
        refine lv_iload hx hb dL_chart_22 (lv_at hl 15 rfl) ?_
        refine lv_iconst (v := 0) hx hb dL_chart_24 (by decide) ?_
        obtain ⟨g4, h⟩ := grd_s h
        refine g_iast (ws9 := oA T 12 a_c x_c_13 ++ (oA T 24 a_w x_w ++ (oA T 2 a_u x_u ++ (oA T 6 a_x x_x ++ (oA T 6 a_l x_l ++ (oA T 12 a_v x_v ++ (oA T 20 a_g x_g ++ (oA T 60 a_q x_q ++ (oA T 5 a_n x_n ++ (oA T 64 a_e x_e_13 ++ (oA T 64 a_j x_j_13 ++ (oA T 64 a_a x_a_13 ++ (oA T 48 a_b x_b_13 ++ (oA T 6 a_m (upd x_m_13 v15_13.toNatClampNeg 0) ++ Z)))))))))))))) hx hb hK hW 13 rfl g4 rfl dL_chart_25 (fun H locs hW => ?_)
        obtain ⟨x_m5, ex_m5⟩ : ∃ y : Nat → Int32, y = upd x_m_13 v15_13.toNatClampNeg 0 := ⟨_, rfl⟩
        rw [← ex_m5] at hW
        replace h := lb_at ex_m5 h
        obtain ⟨w15_6, ew15_6⟩ : ∃ y : Int32, y = v15_13 + 1 := ⟨_, rfl⟩
        replace h := lb_at ew15_6 h
        refine lv_iinc (v := w15_6) (lv' := [(15, .int w15_6), (0, .ref a_c), (1, .ref a_w), (2, .ref a_u), (3, .ref a_x), (4, .ref a_l), (5, .ref a_v), (6, .ref a_g), (7, .ref a_q), (8, .ref a_n), (9, .ref a_e), (10, .ref a_j), (11, .ref a_a), (12, .ref a_b), (13, .ref a_m), (14, .int v14_13)]) hx hb dL_chart_26 hl (k := 15) rfl (by rw [ew15_6]; rfl) (by decide) rfl (fun ls hl => ?_)
        refine lv_goto (tgt := 13) hx hb dL_chart_29 (by decide) ?_
        exact ih _ _ _ _ _ _ _ _ _ hN_13 H locs ls _ _ hW (lv_sub hl [1, 2, 3, 4, 5, 6, 7, 8, 9, 10, 11, 12, 13, 14, 15, 0] rfl) h k1
  have J205 : ∀ (x_c_205 : Nat → Int32) (x_e_205 : Nat → Int32) (x_j_205 : Nat → Int32) (x_a_205 : Nat → Int32) (x_b_205 : Nat → Int32) (x_m_205 : Nat → Int32) (x_N_205 : Nat) (v14_205 : Int32) (v15_205 : Int32) (v16_205 : Int32) (v17_205 : Int32) (v18_205 : Int32) (v19_205 : Int32) (s0_205 : Int32) (s1_205 : Int32) (hN_205 : x_N_205 ≤ 4000) (H : Heap) (locs : List Loc) (ls : Array Slot) (code : Nat) (o19j : Int32) (y_cj : Nat → Int32) (y_ej : Nat → Int32) (y_jj : Nat → Int32) (y_aj : Nat → Int32) (y_bj : Nat → Int32) (y_mj : Nat → Int32), Wd D A s.heap (oA T 12 a_c x_c_205 ++ (oA T 24 a_w x_w ++ (oA T 2 a_u x_u ++ (oA T 6 a_x x_x ++ (oA T 6 a_l x_l ++ (oA T 12 a_v x_v ++ (oA T 20 a_g x_g ++ (oA T 60 a_q x_q ++ (oA T 5 a_n x_n ++ (oA T 64 a_e x_e_205 ++ (oA T 64 a_j x_j_205 ++ (oA T 64 a_a x_a_205 ++ (oA T 48 a_b x_b_205 ++ (oA T 6 a_m x_m_205 ++ Z)))))))))))))) H locs → lv_has ls 26 [(0, .ref a_c), (1, .ref a_w), (2, .ref a_u), (3, .ref a_x), (4, .ref a_l), (5, .ref a_v), (6, .ref a_g), (7, .ref a_q), (8, .ref a_n), (9, .ref a_e), (10, .ref a_j), (11, .ref a_a), (12, .ref a_b), (13, .ref a_m), (14, .int v14_205), (15, .int v15_205), (16, .int v16_205), (17, .int v17_205), (18, .int v18_205), (19, .int v19_205)] → f_L_chart_J205 x_c_205 x_w x_u x_x x_l x_v x_g x_q x_n x_e_205 x_j_205 x_a_205 x_b_205 x_m_205 x_N_205 v14_205 v15_205 v16_205 v17_205 v18_205 v19_205 s0_205 s1_205 = some (code, o19j, y_cj, y_ej, y_jj, y_aj, y_bj, y_mj) → (code = 0 → ∀ (H : Heap) (locs : List Loc) (ls : Array Slot), Wd D A s.heap (oA T 12 a_c y_cj ++ (oA T 24 a_w x_w ++ (oA T 2 a_u x_u ++ (oA T 6 a_x x_x ++ (oA T 6 a_l x_l ++ (oA T 12 a_v x_v ++ (oA T 20 a_g x_g ++ (oA T 60 a_q x_q ++ (oA T 5 a_n x_n ++ (oA T 64 a_e y_ej ++ (oA T 64 a_j y_jj ++ (oA T 64 a_a y_aj ++ (oA T 48 a_b y_bj ++ (oA T 6 a_m y_mj ++ Z)))))))))))))) H locs → lv_has ls 26 [(0, .ref a_c), (1, .ref a_w), (2, .ref a_u), (3, .ref a_x), (4, .ref a_l), (5, .ref a_v), (6, .ref a_g), (7, .ref a_q), (8, .ref a_n), (9, .ref a_e), (10, .ref a_j), (11, .ref a_a), (12, .ref a_b), (13, .ref a_m), (14, .int v14_205), (15, .int v15_205), (16, .int v16_205), (17, .int v17_205), (18, .int v18_205), (19, .int o19j)] → W p l e (rmL 3 4000) s m args below meth c H locs x_N_205 (16 * x_N_205) Q (F0 m 86 ls [])) → (code = 1 → ∀ (H : Heap) (locs : List Loc) (ls : Array Slot), Wd D A s.heap (oA T 12 a_c y_cj ++ (oA T 24 a_w x_w ++ (oA T 2 a_u x_u ++ (oA T 6 a_x x_x ++ (oA T 6 a_l x_l ++ (oA T 12 a_v x_v ++ (oA T 20 a_g x_g ++ (oA T 60 a_q x_q ++ (oA T 5 a_n x_n ++ (oA T 64 a_e y_ej ++ (oA T 64 a_j y_jj ++ (oA T 64 a_a y_aj ++ (oA T 48 a_b y_bj ++ (oA T 6 a_m y_mj ++ Z)))))))))))))) H locs → lv_has ls 26 [(0, .ref a_c), (1, .ref a_w), (2, .ref a_u), (3, .ref a_x), (4, .ref a_l), (5, .ref a_v), (6, .ref a_g), (7, .ref a_q), (8, .ref a_n), (9, .ref a_e), (10, .ref a_j), (11, .ref a_a), (12, .ref a_b), (13, .ref a_m), (14, .int v14_205), (15, .int v15_205), (16, .int v16_205), (17, .int v17_205)] → W p l e (rmL 3 4000) s m args below meth c H locs x_N_205 (16 * x_N_205) Q (F0 m 248 ls [])) → W p l e (rmL 3 4000) s m args below meth c H locs x_N_205 (16 * x_N_205) Q (F0 m 205 ls [.int s1_205, .int s0_205]) := by
    intro x_c_205 x_e_205 x_j_205 x_a_205 x_b_205 x_m_205 x_N_205 v14_205 v15_205 v16_205 v17_205 v18_205 v19_205 s0_205 s1_205 hN_205 H locs ls code o19j y_cj y_ej y_jj y_aj y_bj y_mj hW hl h k0 k1
    rw [f_L_chart_J205] at h
    refine lv_iadd hx hb dL_chart_205 ?_
    refine lv_topi (fun w20_28 ew20_28 => ?_)
    replace h := lb_at ew20_28 h
    refine lv_istore (lv' := [(20, .int w20_28), (0, .ref a_c), (1, .ref a_w), (2, .ref a_u), (3, .ref a_x), (4, .ref a_l), (5, .ref a_v), (6, .ref a_g), (7, .ref a_q), (8, .ref a_n), (9, .ref a_e), (10, .ref a_j), (11, .ref a_a), (12, .ref a_b), (13, .ref a_m), (14, .int v14_205), (15, .int v15_205), (16, .int v16_205), (17, .int v17_205), (18, .int v18_205), (19, .int v19_205)]) hx hb dL_chart_206 hl (by decide) rfl (fun ls hl => ?_)
    refine lv_aload hx hb dL_chart_208 (lv_at hl 5 rfl) ?_
    refine lv_iload hx hb dL_chart_210 (lv_at hl 19 rfl) ?_
    obtain ⟨g29, h⟩ := grd_s h
    refine g_iald hx hb hK hW 4 rfl g29 dL_chart_212 ?_
    refine lv_iload hx hb dL_chart_213 (lv_at hl 20 rfl) ?_
    refine lv_ishr hx hb dL_chart_215 ?_
    refine lv_iconst (v := 1) hx hb dL_chart_216 (by decide) ?_
    refine lv_iand hx hb dL_chart_217 ?_
    refine lv_iconst (v := 1) hx hb dL_chart_218 (by decide) ?_
    refine lv_icmp_ne (tgt := 242) hx hb dL_chart_219 (by decide) (fun c30 => ?_) (fun c30 => ?_)
    · replace h := ite_f c30 h
      obtain ⟨w19_31, ew19_31⟩ : ∃ y : Int32, y = v19_205 + 1 := ⟨_, rfl⟩
      replace h := lb_at ew19_31 h
      refine lv_iinc (v := w19_31) (lv' := [(19, .int w19_31), (20, .int w20_28), (0, .ref a_c), (1, .ref a_w), (2, .ref a_u), (3, .ref a_x), (4, .ref a_l), (5, .ref a_v), (6, .ref a_g), (7, .ref a_q), (8, .ref a_n), (9, .ref a_e), (10, .ref a_j), (11, .ref a_a), (12, .ref a_b), (13, .ref a_m), (14, .int v14_205), (15, .int v15_205), (16, .int v16_205), (17, .int v17_205), (18, .int v18_205)]) hx hb dL_chart_242 hl (k := 20) rfl (by rw [ew19_31]; rfl) (by decide) rfl (fun ls hl => ?_)
      refine lv_goto (tgt := 86) hx hb dL_chart_245 (by decide) ?_
      obtain ⟨rfl, rfl, rfl, rfl, rfl, rfl, rfl, rfl⟩ := ret8 h
      exact k0 rfl H locs ls hW (lv_sub hl [2, 3, 4, 5, 6, 7, 8, 9, 10, 11, 12, 13, 14, 15, 16, 17, 18, 19, 20, 0] rfl)
    · replace h := ite_t c30 h
      refine lv_aload_n hx hb dL_chart_222 rfl (lv_at hl 1 rfl) ?_
      refine lv_aload hx hb dL_chart_223 (lv_at hl 10 rfl) ?_
      refine lv_aload hx hb dL_chart_225 (lv_at hl 11 rfl) ?_
      refine lv_aload hx hb dL_chart_227 (lv_at hl 12 rfl) ?_
      refine lv_aload hx hb dL_chart_229 (lv_at hl 13 rfl) ?_
      refine lv_aload hx hb dL_chart_231 (lv_at hl 14 rfl) ?_
      refine lv_iload hx hb dL_chart_233 (lv_at hl 18 rfl) ?_
      refine lv_iload hx hb dL_chart_235 (lv_at hl 0 rfl) ?_
      refine lv_iconst (v := 0) hx hb dL_chart_237 (by decide) ?_
      refine lv_iconst (v := 0) hx hb dL_chart_238 (by decide) ?_
      replace hW := hW.perm pf13
      replace hW := hW.perm pf13
      replace hW := hW.perm pf13
      replace hW := hW.perm pf13
      replace hW := hW.perm pf13
      replace hW := hW.perm pf5
      obtain ⟨x_c32, x_e33, x_j34, x_a35, x_b36, x_m37, q38, h⟩ := bnd6_s h
      refine cs_L_48 hx hb hml hown hts hK hN hE hC hA hW (c_L_lays l D T A a_c a_e a_j a_a a_b a_m (oA T 24 a_w x_w ++ (oA T 2 a_u x_u ++ (oA T 6 a_x x_x ++ (oA T 6 a_l x_l ++ (oA T 12 a_v x_v ++ (oA T 20 a_g x_g ++ (oA T 60 a_q x_q ++ (oA T 5 a_n x_n ++ Z)))))))) x_c_205 x_e_205 x_j_205 x_a_205 x_b_205 x_m_205 v17_205 w20_28 0 0 x_c32 x_e33 x_j34 x_a35 x_b36 x_m37 q38) ⟨Nat.le_of_ble_eq_true rfl, Nat.le_of_ble_eq_true rfl⟩ hl.1 rfl (Nat.le_of_ble_eq_true rfl) dL_chart_239 (hf0 hN_205) rfl (fun H locs hW => ?_)
      replace hW := hW.perm pf5
      replace hW := hW.perm pf5
      replace hW := hW.perm pf5
      replace hW := hW.perm pf5
      replace hW := hW.perm pf5
      replace hW := hW.perm pf13
      replace hW := hW.perm pf13
      replace hW := hW.perm pf13
      replace hW := hW.perm pf13
      replace hW := hW.perm pf13
      replace hW := hW.perm pf13
      replace hW := hW.perm pf13
      replace hW := hW.perm pf13
      replace hW := hW.perm pf13
      obtain ⟨w19_39, ew19_39⟩ : ∃ y : Int32, y = v19_205 + 1 := ⟨_, rfl⟩
      replace h := lb_at ew19_39 h
      refine lv_iinc (v := w19_39) (lv' := [(19, .int w19_39), (20, .int w20_28), (0, .ref a_c), (1, .ref a_w), (2, .ref a_u), (3, .ref a_x), (4, .ref a_l), (5, .ref a_v), (6, .ref a_g), (7, .ref a_q), (8, .ref a_n), (9, .ref a_e), (10, .ref a_j), (11, .ref a_a), (12, .ref a_b), (13, .ref a_m), (14, .int v14_205), (15, .int v15_205), (16, .int v16_205), (17, .int v17_205), (18, .int v18_205)]) hx hb dL_chart_242 hl (k := 20) rfl (by rw [ew19_39]; rfl) (by decide) rfl (fun ls hl => ?_)
      refine lv_goto (tgt := 86) hx hb dL_chart_245 (by decide) ?_
      obtain ⟨rfl, rfl, rfl, rfl, rfl, rfl, rfl, rfl⟩ := ret8 h
      exact k0 rfl H locs ls hW (lv_sub hl [2, 3, 4, 5, 6, 7, 8, 9, 10, 11, 12, 13, 14, 15, 16, 17, 18, 19, 20, 0] rfl)
  have J204 : ∀ (x_c_204 : Nat → Int32) (x_e_204 : Nat → Int32) (x_j_204 : Nat → Int32) (x_a_204 : Nat → Int32) (x_b_204 : Nat → Int32) (x_m_204 : Nat → Int32) (x_N_204 : Nat) (v14_204 : Int32) (v15_204 : Int32) (v16_204 : Int32) (v17_204 : Int32) (v18_204 : Int32) (v19_204 : Int32) (s0_204 : Int32) (hN_204 : x_N_204 ≤ 4000) (H : Heap) (locs : List Loc) (ls : Array Slot) (code : Nat) (o19j : Int32) (y_cj : Nat → Int32) (y_ej : Nat → Int32) (y_jj : Nat → Int32) (y_aj : Nat → Int32) (y_bj : Nat → Int32) (y_mj : Nat → Int32), Wd D A s.heap (oA T 12 a_c x_c_204 ++ (oA T 24 a_w x_w ++ (oA T 2 a_u x_u ++ (oA T 6 a_x x_x ++ (oA T 6 a_l x_l ++ (oA T 12 a_v x_v ++ (oA T 20 a_g x_g ++ (oA T 60 a_q x_q ++ (oA T 5 a_n x_n ++ (oA T 64 a_e x_e_204 ++ (oA T 64 a_j x_j_204 ++ (oA T 64 a_a x_a_204 ++ (oA T 48 a_b x_b_204 ++ (oA T 6 a_m x_m_204 ++ Z)))))))))))))) H locs → lv_has ls 26 [(0, .ref a_c), (1, .ref a_w), (2, .ref a_u), (3, .ref a_x), (4, .ref a_l), (5, .ref a_v), (6, .ref a_g), (7, .ref a_q), (8, .ref a_n), (9, .ref a_e), (10, .ref a_j), (11, .ref a_a), (12, .ref a_b), (13, .ref a_m), (14, .int v14_204), (15, .int v15_204), (16, .int v16_204), (17, .int v17_204), (18, .int v18_204), (19, .int v19_204)] → f_L_chart_J204 x_c_204 x_w x_u x_x x_l x_v x_g x_q x_n x_e_204 x_j_204 x_a_204 x_b_204 x_m_204 x_N_204 v14_204 v15_204 v16_204 v17_204 v18_204 v19_204 s0_204 = some (code, o19j, y_cj, y_ej, y_jj, y_aj, y_bj, y_mj) → (code = 0 → ∀ (H : Heap) (locs : List Loc) (ls : Array Slot), Wd D A s.heap (oA T 12 a_c y_cj ++ (oA T 24 a_w x_w ++ (oA T 2 a_u x_u ++ (oA T 6 a_x x_x ++ (oA T 6 a_l x_l ++ (oA T 12 a_v x_v ++ (oA T 20 a_g x_g ++ (oA T 60 a_q x_q ++ (oA T 5 a_n x_n ++ (oA T 64 a_e y_ej ++ (oA T 64 a_j y_jj ++ (oA T 64 a_a y_aj ++ (oA T 48 a_b y_bj ++ (oA T 6 a_m y_mj ++ Z)))))))))))))) H locs → lv_has ls 26 [(0, .ref a_c), (1, .ref a_w), (2, .ref a_u), (3, .ref a_x), (4, .ref a_l), (5, .ref a_v), (6, .ref a_g), (7, .ref a_q), (8, .ref a_n), (9, .ref a_e), (10, .ref a_j), (11, .ref a_a), (12, .ref a_b), (13, .ref a_m), (14, .int v14_204), (15, .int v15_204), (16, .int v16_204), (17, .int v17_204), (18, .int v18_204), (19, .int o19j)] → W p l e (rmL 3 4000) s m args below meth c H locs x_N_204 (16 * x_N_204) Q (F0 m 86 ls [])) → (code = 1 → ∀ (H : Heap) (locs : List Loc) (ls : Array Slot), Wd D A s.heap (oA T 12 a_c y_cj ++ (oA T 24 a_w x_w ++ (oA T 2 a_u x_u ++ (oA T 6 a_x x_x ++ (oA T 6 a_l x_l ++ (oA T 12 a_v x_v ++ (oA T 20 a_g x_g ++ (oA T 60 a_q x_q ++ (oA T 5 a_n x_n ++ (oA T 64 a_e y_ej ++ (oA T 64 a_j y_jj ++ (oA T 64 a_a y_aj ++ (oA T 48 a_b y_bj ++ (oA T 6 a_m y_mj ++ Z)))))))))))))) H locs → lv_has ls 26 [(0, .ref a_c), (1, .ref a_w), (2, .ref a_u), (3, .ref a_x), (4, .ref a_l), (5, .ref a_v), (6, .ref a_g), (7, .ref a_q), (8, .ref a_n), (9, .ref a_e), (10, .ref a_j), (11, .ref a_a), (12, .ref a_b), (13, .ref a_m), (14, .int v14_204), (15, .int v15_204), (16, .int v16_204), (17, .int v17_204)] → W p l e (rmL 3 4000) s m args below meth c H locs x_N_204 (16 * x_N_204) Q (F0 m 248 ls [])) → W p l e (rmL 3 4000) s m args below meth c H locs x_N_204 (16 * x_N_204) Q (F0 m 204 ls [.int s0_204]) := by
    intro x_c_204 x_e_204 x_j_204 x_a_204 x_b_204 x_m_204 x_N_204 v14_204 v15_204 v16_204 v17_204 v18_204 v19_204 s0_204 hN_204 H locs ls code o19j y_cj y_ej y_jj y_aj y_bj y_mj hW hl h k0 k1
    rw [f_L_chart_J204] at h
    refine lv_iconst (v := 0) hx hb dL_chart_204 (by decide) ?_
    exact J205 _ _ _ _ _ _ _ _ _ _ _ _ _ _ _ hN_204 H locs ls _ _ _ _ _ _ _ _ hW (lv_sub hl [0, 1, 2, 3, 4, 5, 6, 7, 8, 9, 10, 11, 12, 13, 14, 15, 16, 17, 18, 19] rfl) h k0 k1
  have J168 : ∀ (x_c_168 : Nat → Int32) (x_e_168 : Nat → Int32) (x_j_168 : Nat → Int32) (x_a_168 : Nat → Int32) (x_b_168 : Nat → Int32) (x_m_168 : Nat → Int32) (x_N_168 : Nat) (v14_168 : Int32) (v15_168 : Int32) (v16_168 : Int32) (v17_168 : Int32) (v18_168 : Int32) (v19_168 : Int32) (v21_168 : Int32) (s0_168 : Int32) (s1_168 : Int32) (hN_168 : x_N_168 ≤ 4000) (H : Heap) (locs : List Loc) (ls : Array Slot) (code : Nat) (o19j : Int32) (y_cj : Nat → Int32) (y_ej : Nat → Int32) (y_jj : Nat → Int32) (y_aj : Nat → Int32) (y_bj : Nat → Int32) (y_mj : Nat → Int32), Wd D A s.heap (oA T 12 a_c x_c_168 ++ (oA T 24 a_w x_w ++ (oA T 2 a_u x_u ++ (oA T 6 a_x x_x ++ (oA T 6 a_l x_l ++ (oA T 12 a_v x_v ++ (oA T 20 a_g x_g ++ (oA T 60 a_q x_q ++ (oA T 5 a_n x_n ++ (oA T 64 a_e x_e_168 ++ (oA T 64 a_j x_j_168 ++ (oA T 64 a_a x_a_168 ++ (oA T 48 a_b x_b_168 ++ (oA T 6 a_m x_m_168 ++ Z)))))))))))))) H locs → lv_has ls 26 [(0, .ref a_c), (1, .ref a_w), (2, .ref a_u), (3, .ref a_x), (4, .ref a_l), (5, .ref a_v), (6, .ref a_g), (7, .ref a_q), (8, .ref a_n), (9, .ref a_e), (10, .ref a_j), (11, .ref a_a), (12, .ref a_b), (13, .ref a_m), (14, .int v14_168), (15, .int v15_168), (16, .int v16_168), (17, .int v17_168), (18, .int v18_168), (19, .int v19_168), (21, .int v21_168)] → f_L_chart_J168 x_c_168 x_w x_u x_x x_l x_v x_g x_q x_n x_e_168 x_j_168 x_a_168 x_b_168 x_m_168 x_N_168 v14_168 v15_168 v16_168 v17_168 v18_168 v19_168 v21_168 s0_168 s1_168 = some (code, o19j, y_cj, y_ej, y_jj, y_aj, y_bj, y_mj) → (code = 0 → ∀ (H : Heap) (locs : List Loc) (ls : Array Slot), Wd D A s.heap (oA T 12 a_c y_cj ++ (oA T 24 a_w x_w ++ (oA T 2 a_u x_u ++ (oA T 6 a_x x_x ++ (oA T 6 a_l x_l ++ (oA T 12 a_v x_v ++ (oA T 20 a_g x_g ++ (oA T 60 a_q x_q ++ (oA T 5 a_n x_n ++ (oA T 64 a_e y_ej ++ (oA T 64 a_j y_jj ++ (oA T 64 a_a y_aj ++ (oA T 48 a_b y_bj ++ (oA T 6 a_m y_mj ++ Z)))))))))))))) H locs → lv_has ls 26 [(0, .ref a_c), (1, .ref a_w), (2, .ref a_u), (3, .ref a_x), (4, .ref a_l), (5, .ref a_v), (6, .ref a_g), (7, .ref a_q), (8, .ref a_n), (9, .ref a_e), (10, .ref a_j), (11, .ref a_a), (12, .ref a_b), (13, .ref a_m), (14, .int v14_168), (15, .int v15_168), (16, .int v16_168), (17, .int v17_168), (18, .int v18_168), (19, .int o19j)] → W p l e (rmL 3 4000) s m args below meth c H locs x_N_168 (16 * x_N_168) Q (F0 m 86 ls [])) → (code = 1 → ∀ (H : Heap) (locs : List Loc) (ls : Array Slot), Wd D A s.heap (oA T 12 a_c y_cj ++ (oA T 24 a_w x_w ++ (oA T 2 a_u x_u ++ (oA T 6 a_x x_x ++ (oA T 6 a_l x_l ++ (oA T 12 a_v x_v ++ (oA T 20 a_g x_g ++ (oA T 60 a_q x_q ++ (oA T 5 a_n x_n ++ (oA T 64 a_e y_ej ++ (oA T 64 a_j y_jj ++ (oA T 64 a_a y_aj ++ (oA T 48 a_b y_bj ++ (oA T 6 a_m y_mj ++ Z)))))))))))))) H locs → lv_has ls 26 [(0, .ref a_c), (1, .ref a_w), (2, .ref a_u), (3, .ref a_x), (4, .ref a_l), (5, .ref a_v), (6, .ref a_g), (7, .ref a_q), (8, .ref a_n), (9, .ref a_e), (10, .ref a_j), (11, .ref a_a), (12, .ref a_b), (13, .ref a_m), (14, .int v14_168), (15, .int v15_168), (16, .int v16_168), (17, .int v17_168)] → W p l e (rmL 3 4000) s m args below meth c H locs x_N_168 (16 * x_N_168) Q (F0 m 248 ls [])) → W p l e (rmL 3 4000) s m args below meth c H locs x_N_168 (16 * x_N_168) Q (F0 m 168 ls [.int s1_168, .int s0_168]) := by
    intro x_c_168 x_e_168 x_j_168 x_a_168 x_b_168 x_m_168 x_N_168 v14_168 v15_168 v16_168 v17_168 v18_168 v19_168 v21_168 s0_168 s1_168 hN_168 H locs ls code o19j y_cj y_ej y_jj y_aj y_bj y_mj hW hl h k0 k1
    rw [f_L_chart_J168] at h
    refine lv_iadd hx hb dL_chart_168 ?_
    refine lv_topi (fun w20_26 ew20_26 => ?_)
    replace h := lb_at ew20_26 h
    refine lv_istore (lv' := [(20, .int w20_26), (0, .ref a_c), (1, .ref a_w), (2, .ref a_u), (3, .ref a_x), (4, .ref a_l), (5, .ref a_v), (6, .ref a_g), (7, .ref a_q), (8, .ref a_n), (9, .ref a_e), (10, .ref a_j), (11, .ref a_a), (12, .ref a_b), (13, .ref a_m), (14, .int v14_168), (15, .int v15_168), (16, .int v16_168), (17, .int v17_168), (18, .int v18_168), (19, .int v19_168), (21, .int v21_168)]) hx hb dL_chart_169 hl (by decide) rfl (fun ls hl => ?_)
    refine lv_iload hx hb dL_chart_171 (lv_at hl 0 rfl) ?_
    refine lv_iload hx hb dL_chart_173 (lv_at hl 21 rfl) ?_
    refine lv_if_eq (tgt := 204) hx hb dL_chart_175 (by decide) (fun c27 => ?_) (fun c27 => ?_)
    · replace h := ite_t c27 h
      exact J204 _ _ _ _ _ _ _ _ _ _ _ _ _ _ hN_168 H locs ls _ _ _ _ _ _ _ _ hW (lv_sub hl [1, 2, 3, 4, 5, 6, 7, 8, 9, 10, 11, 12, 13, 14, 15, 16, 17, 18, 19, 20] rfl) h k0 k1
    · replace h := ite_f c27 h
      refine lv_iload hx hb dL_chart_178 (lv_at hl 0 rfl) ?_
      refine lv_bipush (v := 10) hx hb dL_chart_180 (by decide) ?_
      refine lv_idiv hx hb dL_chart_182 (by decide) ?_
      refine lv_bipush (v := 10) hx hb dL_chart_183 (by decide) ?_
      refine lv_irem hx hb dL_chart_185 (by decide) ?_
      refine lv_if_ne (tgt := 204) hx hb dL_chart_186 (by decide) (fun c40 => ?_) (fun c40 => ?_)
      · replace h := ite_f c40 h
        exact J204 _ _ _ _ _ _ _ _ _ _ _ _ _ _ hN_168 H locs ls _ _ _ _ _ _ _ _ hW (lv_sub hl [1, 2, 3, 4, 5, 6, 7, 8, 9, 10, 11, 12, 13, 14, 15, 16, 17, 18, 19, 20] rfl) h k0 k1
      · replace h := ite_t c40 h
        refine lv_bipush (v := 10) hx hb dL_chart_189 (by decide) ?_
        refine lv_aload hx hb dL_chart_191 (lv_at hl 6 rfl) ?_
        refine lv_iconst (v := 2) hx hb dL_chart_193 (by decide) ?_
        refine lv_iload hx hb dL_chart_194 (lv_at hl 19 rfl) ?_
        refine lv_imul hx hb dL_chart_196 ?_
        refine lv_iconst (v := 1) hx hb dL_chart_197 (by decide) ?_
        refine lv_iadd hx hb dL_chart_198 ?_
        obtain ⟨g41, h⟩ := grd_s h
        refine g_iald hx hb hK hW 5 rfl g41 dL_chart_199 ?_
        refine lv_imul hx hb dL_chart_200 ?_
        refine lv_goto (tgt := 205) hx hb dL_chart_201 (by decide) ?_
        exact J205 _ _ _ _ _ _ _ _ _ _ _ _ _ _ _ hN_168 H locs ls _ _ _ _ _ _ _ _ hW (lv_sub hl [1, 2, 3, 4, 5, 6, 7, 8, 9, 10, 11, 12, 13, 14, 15, 16, 17, 18, 19, 20] rfl) h k0 k1
  have J167 : ∀ (x_c_167 : Nat → Int32) (x_e_167 : Nat → Int32) (x_j_167 : Nat → Int32) (x_a_167 : Nat → Int32) (x_b_167 : Nat → Int32) (x_m_167 : Nat → Int32) (x_N_167 : Nat) (v14_167 : Int32) (v15_167 : Int32) (v16_167 : Int32) (v17_167 : Int32) (v18_167 : Int32) (v19_167 : Int32) (v21_167 : Int32) (s0_167 : Int32) (hN_167 : x_N_167 ≤ 4000) (H : Heap) (locs : List Loc) (ls : Array Slot) (code : Nat) (o19j : Int32) (y_cj : Nat → Int32) (y_ej : Nat → Int32) (y_jj : Nat → Int32) (y_aj : Nat → Int32) (y_bj : Nat → Int32) (y_mj : Nat → Int32), Wd D A s.heap (oA T 12 a_c x_c_167 ++ (oA T 24 a_w x_w ++ (oA T 2 a_u x_u ++ (oA T 6 a_x x_x ++ (oA T 6 a_l x_l ++ (oA T 12 a_v x_v ++ (oA T 20 a_g x_g ++ (oA T 60 a_q x_q ++ (oA T 5 a_n x_n ++ (oA T 64 a_e x_e_167 ++ (oA T 64 a_j x_j_167 ++ (oA T 64 a_a x_a_167 ++ (oA T 48 a_b x_b_167 ++ (oA T 6 a_m x_m_167 ++ Z)))))))))))))) H locs → lv_has ls 26 [(0, .ref a_c), (1, .ref a_w), (2, .ref a_u), (3, .ref a_x), (4, .ref a_l), (5, .ref a_v), (6, .ref a_g), (7, .ref a_q), (8, .ref a_n), (9, .ref a_e), (10, .ref a_j), (11, .ref a_a), (12, .ref a_b), (13, .ref a_m), (14, .int v14_167), (15, .int v15_167), (16, .int v16_167), (17, .int v17_167), (18, .int v18_167), (19, .int v19_167), (21, .int v21_167)] → f_L_chart_J167 x_c_167 x_w x_u x_x x_l x_v x_g x_q x_n x_e_167 x_j_167 x_a_167 x_b_167 x_m_167 x_N_167 v14_167 v15_167 v16_167 v17_167 v18_167 v19_167 v21_167 s0_167 = some (code, o19j, y_cj, y_ej, y_jj, y_aj, y_bj, y_mj) → (code = 0 → ∀ (H : Heap) (locs : List Loc) (ls : Array Slot), Wd D A s.heap (oA T 12 a_c y_cj ++ (oA T 24 a_w x_w ++ (oA T 2 a_u x_u ++ (oA T 6 a_x x_x ++ (oA T 6 a_l x_l ++ (oA T 12 a_v x_v ++ (oA T 20 a_g x_g ++ (oA T 60 a_q x_q ++ (oA T 5 a_n x_n ++ (oA T 64 a_e y_ej ++ (oA T 64 a_j y_jj ++ (oA T 64 a_a y_aj ++ (oA T 48 a_b y_bj ++ (oA T 6 a_m y_mj ++ Z)))))))))))))) H locs → lv_has ls 26 [(0, .ref a_c), (1, .ref a_w), (2, .ref a_u), (3, .ref a_x), (4, .ref a_l), (5, .ref a_v), (6, .ref a_g), (7, .ref a_q), (8, .ref a_n), (9, .ref a_e), (10, .ref a_j), (11, .ref a_a), (12, .ref a_b), (13, .ref a_m), (14, .int v14_167), (15, .int v15_167), (16, .int v16_167), (17, .int v17_167), (18, .int v18_167), (19, .int o19j)] → W p l e (rmL 3 4000) s m args below meth c H locs x_N_167 (16 * x_N_167) Q (F0 m 86 ls [])) → (code = 1 → ∀ (H : Heap) (locs : List Loc) (ls : Array Slot), Wd D A s.heap (oA T 12 a_c y_cj ++ (oA T 24 a_w x_w ++ (oA T 2 a_u x_u ++ (oA T 6 a_x x_x ++ (oA T 6 a_l x_l ++ (oA T 12 a_v x_v ++ (oA T 20 a_g x_g ++ (oA T 60 a_q x_q ++ (oA T 5 a_n x_n ++ (oA T 64 a_e y_ej ++ (oA T 64 a_j y_jj ++ (oA T 64 a_a y_aj ++ (oA T 48 a_b y_bj ++ (oA T 6 a_m y_mj ++ Z)))))))))))))) H locs → lv_has ls 26 [(0, .ref a_c), (1, .ref a_w), (2, .ref a_u), (3, .ref a_x), (4, .ref a_l), (5, .ref a_v), (6, .ref a_g), (7, .ref a_q), (8, .ref a_n), (9, .ref a_e), (10, .ref a_j), (11, .ref a_a), (12, .ref a_b), (13, .ref a_m), (14, .int v14_167), (15, .int v15_167), (16, .int v16_167), (17, .int v17_167)] → W p l e (rmL 3 4000) s m args below meth c H locs x_N_167 (16 * x_N_167) Q (F0 m 248 ls [])) → W p l e (rmL 3 4000) s m args below meth c H locs x_N_167 (16 * x_N_167) Q (F0 m 167 ls [.int s0_167]) := by
    intro x_c_167 x_e_167 x_j_167 x_a_167 x_b_167 x_m_167 x_N_167 v14_167 v15_167 v16_167 v17_167 v18_167 v19_167 v21_167 s0_167 hN_167 H locs ls code o19j y_cj y_ej y_jj y_aj y_bj y_mj hW hl h k0 k1
    rw [f_L_chart_J167] at h
    refine lv_iconst (v := 0) hx hb dL_chart_167 (by decide) ?_
    exact J168 _ _ _ _ _ _ _ _ _ _ _ _ _ _ _ _ hN_167 H locs ls _ _ _ _ _ _ _ _ hW (lv_sub hl [0, 1, 2, 3, 4, 5, 6, 7, 8, 9, 10, 11, 12, 13, 14, 15, 16, 17, 18, 19, 20] rfl) h k0 k1
  have J134 : ∀ (x_c_134 : Nat → Int32) (x_e_134 : Nat → Int32) (x_j_134 : Nat → Int32) (x_a_134 : Nat → Int32) (x_b_134 : Nat → Int32) (x_m_134 : Nat → Int32) (x_N_134 : Nat) (v14_134 : Int32) (v15_134 : Int32) (v16_134 : Int32) (v17_134 : Int32) (v18_134 : Int32) (v19_134 : Int32) (v20_134 : Int32) (s0_134 : Int32) (hN_134 : x_N_134 ≤ 4000) (H : Heap) (locs : List Loc) (ls : Array Slot) (code : Nat) (o19j : Int32) (y_cj : Nat → Int32) (y_ej : Nat → Int32) (y_jj : Nat → Int32) (y_aj : Nat → Int32) (y_bj : Nat → Int32) (y_mj : Nat → Int32), Wd D A s.heap (oA T 12 a_c x_c_134 ++ (oA T 24 a_w x_w ++ (oA T 2 a_u x_u ++ (oA T 6 a_x x_x ++ (oA T 6 a_l x_l ++ (oA T 12 a_v x_v ++ (oA T 20 a_g x_g ++ (oA T 60 a_q x_q ++ (oA T 5 a_n x_n ++ (oA T 64 a_e x_e_134 ++ (oA T 64 a_j x_j_134 ++ (oA T 64 a_a x_a_134 ++ (oA T 48 a_b x_b_134 ++ (oA T 6 a_m x_m_134 ++ Z)))))))))))))) H locs → lv_has ls 26 [(0, .ref a_c), (1, .ref a_w), (2, .ref a_u), (3, .ref a_x), (4, .ref a_l), (5, .ref a_v), (6, .ref a_g), (7, .ref a_q), (8, .ref a_n), (9, .ref a_e), (10, .ref a_j), (11, .ref a_a), (12, .ref a_b), (13, .ref a_m), (14, .int v14_134), (15, .int v15_134), (16, .int v16_134), (17, .int v17_134), (18, .int v18_134), (19, .int v19_134), (20, .int v20_134)] → f_L_chart_J134 x_c_134 x_w x_u x_x x_l x_v x_g x_q x_n x_e_134 x_j_134 x_a_134 x_b_134 x_m_134 x_N_134 v14_134 v15_134 v16_134 v17_134 v18_134 v19_134 v20_134 s0_134 = some (code, o19j, y_cj, y_ej, y_jj, y_aj, y_bj, y_mj) → (code = 0 → ∀ (H : Heap) (locs : List Loc) (ls : Array Slot), Wd D A s.heap (oA T 12 a_c y_cj ++ (oA T 24 a_w x_w ++ (oA T 2 a_u x_u ++ (oA T 6 a_x x_x ++ (oA T 6 a_l x_l ++ (oA T 12 a_v x_v ++ (oA T 20 a_g x_g ++ (oA T 60 a_q x_q ++ (oA T 5 a_n x_n ++ (oA T 64 a_e y_ej ++ (oA T 64 a_j y_jj ++ (oA T 64 a_a y_aj ++ (oA T 48 a_b y_bj ++ (oA T 6 a_m y_mj ++ Z)))))))))))))) H locs → lv_has ls 26 [(0, .ref a_c), (1, .ref a_w), (2, .ref a_u), (3, .ref a_x), (4, .ref a_l), (5, .ref a_v), (6, .ref a_g), (7, .ref a_q), (8, .ref a_n), (9, .ref a_e), (10, .ref a_j), (11, .ref a_a), (12, .ref a_b), (13, .ref a_m), (14, .int v14_134), (15, .int v15_134), (16, .int v16_134), (17, .int v17_134), (18, .int v18_134), (19, .int o19j)] → W p l e (rmL 3 4000) s m args below meth c H locs x_N_134 (16 * x_N_134) Q (F0 m 86 ls [])) → (code = 1 → ∀ (H : Heap) (locs : List Loc) (ls : Array Slot), Wd D A s.heap (oA T 12 a_c y_cj ++ (oA T 24 a_w x_w ++ (oA T 2 a_u x_u ++ (oA T 6 a_x x_x ++ (oA T 6 a_l x_l ++ (oA T 12 a_v x_v ++ (oA T 20 a_g x_g ++ (oA T 60 a_q x_q ++ (oA T 5 a_n x_n ++ (oA T 64 a_e y_ej ++ (oA T 64 a_j y_jj ++ (oA T 64 a_a y_aj ++ (oA T 48 a_b y_bj ++ (oA T 6 a_m y_mj ++ Z)))))))))))))) H locs → lv_has ls 26 [(0, .ref a_c), (1, .ref a_w), (2, .ref a_u), (3, .ref a_x), (4, .ref a_l), (5, .ref a_v), (6, .ref a_g), (7, .ref a_q), (8, .ref a_n), (9, .ref a_e), (10, .ref a_j), (11, .ref a_a), (12, .ref a_b), (13, .ref a_m), (14, .int v14_134), (15, .int v15_134), (16, .int v16_134), (17, .int v17_134)] → W p l e (rmL 3 4000) s m args below meth c H locs x_N_134 (16 * x_N_134) Q (F0 m 248 ls [])) → W p l e (rmL 3 4000) s m args below meth c H locs x_N_134 (16 * x_N_134) Q (F0 m 134 ls [.int s0_134]) := by
    intro x_c_134 x_e_134 x_j_134 x_a_134 x_b_134 x_m_134 x_N_134 v14_134 v15_134 v16_134 v17_134 v18_134 v19_134 v20_134 s0_134 hN_134 H locs ls code o19j y_cj y_ej y_jj y_aj y_bj y_mj hW hl h k0 k1
    rw [f_L_chart_J134] at h
    refine lv_istore (lv' := [(21, .int s0_134), (0, .ref a_c), (1, .ref a_w), (2, .ref a_u), (3, .ref a_x), (4, .ref a_l), (5, .ref a_v), (6, .ref a_g), (7, .ref a_q), (8, .ref a_n), (9, .ref a_e), (10, .ref a_j), (11, .ref a_a), (12, .ref a_b), (13, .ref a_m), (14, .int v14_134), (15, .int v15_134), (16, .int v16_134), (17, .int v17_134), (18, .int v18_134), (19, .int v19_134), (20, .int v20_134)]) hx hb dL_chart_134 hl (by decide) rfl (fun ls hl => ?_)
    refine lv_iload hx hb dL_chart_136 (lv_at hl 21 rfl) ?_
    refine lv_iload hx hb dL_chart_138 (lv_at hl 0 rfl) ?_
    refine lv_if_eq (tgt := 167) hx hb dL_chart_140 (by decide) (fun c25 => ?_) (fun c25 => ?_)
    · replace h := ite_t c25 h
      exact J167 _ _ _ _ _ _ _ _ _ _ _ _ _ _ _ hN_134 H locs ls _ _ _ _ _ _ _ _ hW (lv_sub hl [1, 2, 3, 4, 5, 6, 7, 8, 9, 10, 11, 12, 13, 14, 15, 16, 17, 18, 19, 20, 0] rfl) h k0 k1
    · replace h := ite_f c25 h
      refine lv_iload hx hb dL_chart_143 (lv_at hl 21 rfl) ?_
      refine lv_bipush (v := 100) hx hb dL_chart_145 (by decide) ?_
      refine lv_idiv hx hb dL_chart_147 (by decide) ?_
      refine lv_bipush (v := 10) hx hb dL_chart_148 (by decide) ?_
      refine lv_irem hx hb dL_chart_150 (by decide) ?_
      refine lv_if_ne (tgt := 167) hx hb dL_chart_151 (by decide) (fun c42 => ?_) (fun c42 => ?_)
      · replace h := ite_f c42 h
        exact J167 _ _ _ _ _ _ _ _ _ _ _ _ _ _ _ hN_134 H locs ls _ _ _ _ _ _ _ _ hW (lv_sub hl [1, 2, 3, 4, 5, 6, 7, 8, 9, 10, 11, 12, 13, 14, 15, 16, 17, 18, 19, 20, 0] rfl) h k0 k1
      · replace h := ite_t c42 h
        refine lv_bipush (v := 100) hx hb dL_chart_154 (by decide) ?_
        refine lv_aload hx hb dL_chart_156 (lv_at hl 6 rfl) ?_
        refine lv_iconst (v := 2) hx hb dL_chart_158 (by decide) ?_
        refine lv_iload hx hb dL_chart_159 (lv_at hl 19 rfl) ?_
        refine lv_imul hx hb dL_chart_161 ?_
        obtain ⟨g43, h⟩ := grd_s h
        refine g_iald hx hb hK hW 5 rfl g43 dL_chart_162 ?_
        refine lv_imul hx hb dL_chart_163 ?_
        refine lv_goto (tgt := 168) hx hb dL_chart_164 (by decide) ?_
        exact J168 _ _ _ _ _ _ _ _ _ _ _ _ _ _ _ _ hN_134 H locs ls _ _ _ _ _ _ _ _ hW (lv_sub hl [1, 2, 3, 4, 5, 6, 7, 8, 9, 10, 11, 12, 13, 14, 15, 16, 17, 18, 19, 20, 0] rfl) h k0 k1
  have L86 : ∀ (n : Nat) (x_c_86 : Nat → Int32) (x_e_86 : Nat → Int32) (x_j_86 : Nat → Int32) (x_a_86 : Nat → Int32) (x_b_86 : Nat → Int32) (x_m_86 : Nat → Int32) (x_N_86 : Nat) (v14_86 : Int32) (v15_86 : Int32) (v16_86 : Int32) (v17_86 : Int32) (v18_86 : Int32) (v19_86 : Int32) (hN_86 : x_N_86 ≤ 4000) (H : Heap) (locs : List Loc) (ls : Array Slot) (o19_86r : Int32) (y_c_86r : Nat → Int32) (y_e_86r : Nat → Int32) (y_j_86r : Nat → Int32) (y_a_86r : Nat → Int32) (y_b_86r : Nat → Int32) (y_m_86r : Nat → Int32), Wd D A s.heap (oA T 12 a_c x_c_86 ++ (oA T 24 a_w x_w ++ (oA T 2 a_u x_u ++ (oA T 6 a_x x_x ++ (oA T 6 a_l x_l ++ (oA T 12 a_v x_v ++ (oA T 20 a_g x_g ++ (oA T 60 a_q x_q ++ (oA T 5 a_n x_n ++ (oA T 64 a_e x_e_86 ++ (oA T 64 a_j x_j_86 ++ (oA T 64 a_a x_a_86 ++ (oA T 48 a_b x_b_86 ++ (oA T 6 a_m x_m_86 ++ Z)))))))))))))) H locs → lv_has ls 26 [(0, .ref a_c), (1, .ref a_w), (2, .ref a_u), (3, .ref a_x), (4, .ref a_l), (5, .ref a_v), (6, .ref a_g), (7, .ref a_q), (8, .ref a_n), (9, .ref a_e), (10, .ref a_j), (11, .ref a_a), (12, .ref a_b), (13, .ref a_m), (14, .int v14_86), (15, .int v15_86), (16, .int v16_86), (17, .int v17_86), (18, .int v18_86), (19, .int v19_86)] → f_L_chart_L86 n x_c_86 x_w x_u x_x x_l x_v x_g x_q x_n x_e_86 x_j_86 x_a_86 x_b_86 x_m_86 x_N_86 v14_86 v15_86 v16_86 v17_86 v18_86 v19_86 = some (o19_86r, y_c_86r, y_e_86r, y_j_86r, y_a_86r, y_b_86r, y_m_86r) → (∀ (H : Heap) (locs : List Loc) (ls : Array Slot), Wd D A s.heap (oA T 12 a_c y_c_86r ++ (oA T 24 a_w x_w ++ (oA T 2 a_u x_u ++ (oA T 6 a_x x_x ++ (oA T 6 a_l x_l ++ (oA T 12 a_v x_v ++ (oA T 20 a_g x_g ++ (oA T 60 a_q x_q ++ (oA T 5 a_n x_n ++ (oA T 64 a_e y_e_86r ++ (oA T 64 a_j y_j_86r ++ (oA T 64 a_a y_a_86r ++ (oA T 48 a_b y_b_86r ++ (oA T 6 a_m y_m_86r ++ Z)))))))))))))) H locs → lv_has ls 26 [(0, .ref a_c), (1, .ref a_w), (2, .ref a_u), (3, .ref a_x), (4, .ref a_l), (5, .ref a_v), (6, .ref a_g), (7, .ref a_q), (8, .ref a_n), (9, .ref a_e), (10, .ref a_j), (11, .ref a_a), (12, .ref a_b), (13, .ref a_m), (14, .int v14_86), (15, .int v15_86), (16, .int v16_86), (17, .int v17_86)] → W p l e (rmL 3 4000) s m args below meth c H locs x_N_86 (16 * x_N_86) Q (F0 m 248 ls [])) → W p l e (rmL 3 4000) s m args below meth c H locs x_N_86 (16 * x_N_86) Q (F0 m 86 ls []) := by
    intro n
    induction n with
    | zero =>
      intro x_c_86 x_e_86 x_j_86 x_a_86 x_b_86 x_m_86 x_N_86 v14_86 v15_86 v16_86 v17_86 v18_86 v19_86 hN_86 H locs ls o19_86r y_c_86r y_e_86r y_j_86r y_a_86r y_b_86r y_m_86r hW hl h k1
      rw [f_L_chart_L86] at h
      cases h
    | succ n ih =>
      intro x_c_86 x_e_86 x_j_86 x_a_86 x_b_86 x_m_86 x_N_86 v14_86 v15_86 v16_86 v17_86 v18_86 v19_86 hN_86 H locs ls o19_86r y_c_86r y_e_86r y_j_86r y_a_86r y_b_86r y_m_86r hW hl h k1
      rw [f_L_chart_L86] at h
      refine lv_iload hx hb dL_chart_86 (lv_at hl 15 rfl) ?_
      refine lv_iconst (v := 1) hx hb dL_chart_88 (by decide) ?_
      refine lv_icmp_ne (tgt := 248) hx hb dL_chart_89 (by decide) (fun c16 => ?_) (fun c16 => ?_)
      · replace h := ite_f c16 h
        obtain ⟨rfl, rfl, rfl, rfl, rfl, rfl, rfl⟩ := ret7 h
        exact k1 H locs ls hW (lv_sub hl [0, 1, 2, 3, 4, 5, 6, 7, 8, 9, 10, 11, 12, 13, 14, 15, 16, 17] rfl)
      · replace h := ite_t c16 h
        refine lv_iload hx hb dL_chart_92 (lv_at hl 19 rfl) ?_
        refine lv_aload_n hx hb dL_chart_94 rfl (lv_at hl 1 rfl) ?_
        refine lv_aload_n hx hb dL_chart_95 rfl (lv_at hl 2 rfl) ?_
        refine lv_aload_n hx hb dL_chart_96 rfl (lv_at hl 3 rfl) ?_
        refine lv_iload hx hb dL_chart_97 (lv_at hl 18 rfl) ?_
        obtain ⟨g17, h⟩ := grd_s h
        refine g_iald hx hb hK hW 3 rfl g17 dL_chart_99 ?_
        replace hW := hW.perm pf2
        replace hW := hW.perm pf2
        obtain ⟨r18, q19, h⟩ := bnd1_s h
        refine cs_L_9 hx hb hml hown hts hK hN hE hC hA hW (c_L_readings l D T A a_w a_u (oA T 12 a_c x_c_86 ++ (oA T 6 a_x x_x ++ (oA T 6 a_l x_l ++ (oA T 12 a_v x_v ++ (oA T 20 a_g x_g ++ (oA T 60 a_q x_q ++ (oA T 5 a_n x_n ++ (oA T 64 a_e x_e_86 ++ (oA T 64 a_j x_j_86 ++ (oA T 64 a_a x_a_86 ++ (oA T 48 a_b x_b_86 ++ (oA T 6 a_m x_m_86 ++ Z)))))))))))) x_w x_u (x_x v18_86.toNatClampNeg) r18 q19) ⟨Nat.le_of_ble_eq_true rfl, Nat.le_of_ble_eq_true rfl⟩ hl.1 rfl (Nat.le_of_ble_eq_true rfl) dL_chart_100 (hf0 hN_86) rfl (fun H locs hW => ?_)
        replace hW := hW.perm pf13
        replace hW := hW.perm pf13
        replace hW := hW.perm pf13
        replace hW := hW.perm pf13
        replace hW := hW.perm pf13
        replace hW := hW.perm pf13
        replace hW := hW.perm pf13
        replace hW := hW.perm pf13
        replace hW := hW.perm pf13
        replace hW := hW.perm pf13
        replace hW := hW.perm pf13
        replace hW := hW.perm pf12
        replace hW := hW.perm pf12
        replace hW := hW.perm pf13
        refine lv_icmp_ge (tgt := 248) hx hb dL_chart_103 (by decide) (fun c20 => ?_) (fun c20 => ?_)
        · replace h := ite_t c20 h
          obtain ⟨rfl, rfl, rfl, rfl, rfl, rfl, rfl⟩ := ret7 h
          exact k1 H locs ls hW (lv_sub hl [0, 1, 2, 3, 4, 5, 6, 7, 8, 9, 10, 11, 12, 13, 14, 15, 16, 17] rfl)
        · replace h := ite_f c20 h
          refine lv_aload_n hx hb dL_chart_106 rfl (lv_at hl 1 rfl) ?_
          refine lv_aload_n hx hb dL_chart_107 rfl (lv_at hl 2 rfl) ?_
          refine lv_aload_n hx hb dL_chart_108 rfl (lv_at hl 3 rfl) ?_
          refine lv_iload hx hb dL_chart_109 (lv_at hl 18 rfl) ?_
          obtain ⟨g21, h⟩ := grd_s h
          refine g_iald hx hb hK hW 3 rfl g21 dL_chart_111 ?_
          refine lv_iload hx hb dL_chart_112 (lv_at hl 19 rfl) ?_
          replace hW := hW.perm pf2
          replace hW := hW.perm pf2
          obtain ⟨r22, q23, h⟩ := bnd1_s h
          refine cs_L_15 hx hb hml hown hts hK hN hE hC hA hW (c_L_reading l D T A a_w a_u (oA T 12 a_c x_c_86 ++ (oA T 6 a_x x_x ++ (oA T 6 a_l x_l ++ (oA T 12 a_v x_v ++ (oA T 20 a_g x_g ++ (oA T 60 a_q x_q ++ (oA T 5 a_n x_n ++ (oA T 64 a_e x_e_86 ++ (oA T 64 a_j x_j_86 ++ (oA T 64 a_a x_a_86 ++ (oA T 48 a_b x_b_86 ++ (oA T 6 a_m x_m_86 ++ Z)))))))))))) x_w x_u (x_x v18_86.toNatClampNeg) v19_86 r22 q23) ⟨Nat.le_of_ble_eq_true rfl, Nat.le_of_ble_eq_true rfl⟩ hl.1 rfl (Nat.le_of_ble_eq_true rfl) dL_chart_114 (hf0 hN_86) rfl (fun H locs hW => ?_)
          replace hW := hW.perm pf13
          replace hW := hW.perm pf13
          replace hW := hW.perm pf13
          replace hW := hW.perm pf13
          replace hW := hW.perm pf13
          replace hW := hW.perm pf13
          replace hW := hW.perm pf13
          replace hW := hW.perm pf13
          replace hW := hW.perm pf13
          replace hW := hW.perm pf13
          replace hW := hW.perm pf13
          replace hW := hW.perm pf12
          replace hW := hW.perm pf12
          replace hW := hW.perm pf13
          refine lv_istore (lv' := [(20, .int r22), (0, .ref a_c), (1, .ref a_w), (2, .ref a_u), (3, .ref a_x), (4, .ref a_l), (5, .ref a_v), (6, .ref a_g), (7, .ref a_q), (8, .ref a_n), (9, .ref a_e), (10, .ref a_j), (11, .ref a_a), (12, .ref a_b), (13, .ref a_m), (14, .int v14_86), (15, .int v15_86), (16, .int v16_86), (17, .int v17_86), (18, .int v18_86), (19, .int v19_86)]) hx hb dL_chart_117 hl (by decide) rfl (fun ls hl => ?_)
          refine lv_iload hx hb dL_chart_119 (lv_at hl 0 rfl) ?_
          refine lv_sipush (v := 1000) hx hb dL_chart_121 (by decide) ?_
          refine lv_idiv hx hb dL_chart_124 (by decide) ?_
          refine lv_iconst (v := 1) hx hb dL_chart_125 (by decide) ?_
          refine lv_icmp_ne (tgt := 133) hx hb dL_chart_126 (by decide) (fun c24 => ?_) (fun c24 => ?_)
          · replace h := ite_f c24 h
            refine lv_iconst (v := 0) hx hb dL_chart_133 (by decide) ?_
            obtain ⟨code45, o19_t44, y_c_t44, y_e_t44, y_j_t44, y_a_t44, y_b_t44, y_m_t44, q46, h⟩ := bnd8_s h
            refine J134 _ _ _ _ _ _ _ _ _ _ _ _ _ _ _ hN_86 H locs ls code45 o19_t44 y_c_t44 y_e_t44 y_j_t44 y_a_t44 y_b_t44 y_m_t44 hW (lv_sub hl [1, 2, 3, 4, 5, 6, 7, 8, 9, 10, 11, 12, 13, 14, 15, 16, 17, 18, 19, 20, 0] rfl) q46 (fun hc H locs ls hW hl => ?_) (fun hc H locs ls hW hl => ?_)
            · replace h := ite_t hc h
              exact ih _ _ _ _ _ _ _ _ _ _ _ _ _ hN_86 H locs ls _ _ _ _ _ _ _ hW (lv_sub hl [0, 1, 2, 3, 4, 5, 6, 7, 8, 9, 10, 11, 12, 13, 14, 15, 16, 17, 18, 19] rfl) h k1
            · replace h := ite_f (by rw [hc]; decide) h
              obtain ⟨rfl, rfl, rfl, rfl, rfl, rfl, rfl⟩ := ret7 h
              exact k1 H locs ls hW hl
          · replace h := ite_t c24 h
            refine lv_iconst (v := 1) hx hb dL_chart_129 (by decide) ?_
            refine lv_goto (tgt := 134) hx hb dL_chart_130 (by decide) ?_
            obtain ⟨code48, o19_t47, y_c_t47, y_e_t47, y_j_t47, y_a_t47, y_b_t47, y_m_t47, q49, h⟩ := bnd8_s h
            refine J134 _ _ _ _ _ _ _ _ _ _ _ _ _ _ _ hN_86 H locs ls code48 o19_t47 y_c_t47 y_e_t47 y_j_t47 y_a_t47 y_b_t47 y_m_t47 hW (lv_sub hl [1, 2, 3, 4, 5, 6, 7, 8, 9, 10, 11, 12, 13, 14, 15, 16, 17, 18, 19, 20, 0] rfl) q49 (fun hc H locs ls hW hl => ?_) (fun hc H locs ls hW hl => ?_)
            · replace h := ite_t hc h
              exact ih _ _ _ _ _ _ _ _ _ _ _ _ _ hN_86 H locs ls _ _ _ _ _ _ _ hW (lv_sub hl [0, 1, 2, 3, 4, 5, 6, 7, 8, 9, 10, 11, 12, 13, 14, 15, 16, 17, 18, 19] rfl) h k1
            · replace h := ite_f (by rw [hc]; decide) h
              obtain ⟨rfl, rfl, rfl, rfl, rfl, rfl, rfl⟩ := ret7 h
              exact k1 H locs ls hW hl
  have L285 : ∀ (n : Nat) (x_c_285 : Nat → Int32) (x_e_285 : Nat → Int32) (x_j_285 : Nat → Int32) (x_a_285 : Nat → Int32) (x_b_285 : Nat → Int32) (x_m_285 : Nat → Int32) (x_N_285 : Nat) (v14_285 : Int32) (v15_285 : Int32) (v16_285 : Int32) (v17_285 : Int32) (v19_285 : Int32) (v20_285 : Int32) (v21_285 : Int32) (v22_285 : Int32) (hN_285 : x_N_285 ≤ 4000) (H : Heap) (locs : List Loc) (ls : Array Slot) (o22_285r : Int32) (y_c_285r : Nat → Int32) (y_e_285r : Nat → Int32) (y_j_285r : Nat → Int32) (y_a_285r : Nat → Int32) (y_b_285r : Nat → Int32) (y_m_285r : Nat → Int32) (y_N_285r : Nat), Wd D A s.heap (oA T 12 a_c x_c_285 ++ (oA T 24 a_w x_w ++ (oA T 2 a_u x_u ++ (oA T 6 a_x x_x ++ (oA T 6 a_l x_l ++ (oA T 12 a_v x_v ++ (oA T 20 a_g x_g ++ (oA T 60 a_q x_q ++ (oA T 5 a_n x_n ++ (oA T 64 a_e x_e_285 ++ (oA T 64 a_j x_j_285 ++ (oA T 64 a_a x_a_285 ++ (oA T 48 a_b x_b_285 ++ (oA T 6 a_m x_m_285 ++ Z)))))))))))))) H locs → lv_has ls 26 [(0, .ref a_c), (1, .ref a_w), (2, .ref a_u), (3, .ref a_x), (4, .ref a_l), (5, .ref a_v), (6, .ref a_g), (7, .ref a_q), (8, .ref a_n), (9, .ref a_e), (10, .ref a_j), (11, .ref a_a), (12, .ref a_b), (13, .ref a_m), (14, .int v14_285), (15, .int v15_285), (16, .int v16_285), (17, .int v17_285), (19, .int v19_285), (20, .int v20_285), (21, .int v21_285), (22, .int v22_285)] → f_L_chart_L285 n x_c_285 x_w x_u x_x x_l x_v x_g x_q x_n x_e_285 x_j_285 x_a_285 x_b_285 x_m_285 x_N_285 v14_285 v15_285 v16_285 v17_285 v19_285 v20_285 v21_285 v22_285 = some (o22_285r, y_c_285r, y_e_285r, y_j_285r, y_a_285r, y_b_285r, y_m_285r, y_N_285r) → (∀ (H : Heap) (locs : List Loc) (ls : Array Slot), Wd D A s.heap (oA T 12 a_c y_c_285r ++ (oA T 24 a_w x_w ++ (oA T 2 a_u x_u ++ (oA T 6 a_x x_x ++ (oA T 6 a_l x_l ++ (oA T 12 a_v x_v ++ (oA T 20 a_g x_g ++ (oA T 60 a_q x_q ++ (oA T 5 a_n x_n ++ (oA T 64 a_e y_e_285r ++ (oA T 64 a_j y_j_285r ++ (oA T 64 a_a y_a_285r ++ (oA T 48 a_b y_b_285r ++ (oA T 6 a_m y_m_285r ++ Z)))))))))))))) H locs → lv_has ls 26 [(0, .ref a_c), (1, .ref a_w), (2, .ref a_u), (3, .ref a_x), (4, .ref a_l), (5, .ref a_v), (6, .ref a_g), (7, .ref a_q), (8, .ref a_n), (9, .ref a_e), (10, .ref a_j), (11, .ref a_a), (12, .ref a_b), (13, .ref a_m), (14, .int v14_285), (15, .int v15_285), (16, .int v16_285), (17, .int v17_285), (19, .int v19_285)] → W p l e (rmL 3 4000) s m args below meth c H locs y_N_285r (16 * y_N_285r) Q (F0 m 464 ls [])) → W p l e (rmL 3 4000) s m args below meth c H locs x_N_285 (16 * x_N_285) Q (F0 m 285 ls []) := by
    intro n
    induction n with
    | zero =>
      intro x_c_285 x_e_285 x_j_285 x_a_285 x_b_285 x_m_285 x_N_285 v14_285 v15_285 v16_285 v17_285 v19_285 v20_285 v21_285 v22_285 hN_285 H locs ls o22_285r y_c_285r y_e_285r y_j_285r y_a_285r y_b_285r y_m_285r y_N_285r hW hl h k1
      rw [f_L_chart_L285] at h
      cases h
    | succ n ih =>
      intro x_c_285 x_e_285 x_j_285 x_a_285 x_b_285 x_m_285 x_N_285 v14_285 v15_285 v16_285 v17_285 v19_285 v20_285 v21_285 v22_285 hN_285 H locs ls o22_285r y_c_285r y_e_285r y_j_285r y_a_285r y_b_285r y_m_285r y_N_285r hW hl h k1
      rw [f_L_chart_L285] at h
      refine lv_iload hx hb dL_chart_285 (lv_at hl 21 rfl) ?_
      refine lv_bipush (v := 64) hx hb dL_chart_287 (by decide) ?_
      refine lv_aload_n hx hb dL_chart_289 rfl (lv_at hl 0 rfl) ?_
      refine lv_iconst (v := 2) hx hb dL_chart_290 (by decide) ?_
      refine g_iald hx hb hK hW 0 rfl (by decide) dL_chart_291 ?_
      refine lv_imul hx hb dL_chart_292 ?_
      refine lv_icmp_ge (tgt := 464) hx hb dL_chart_293 (by decide) (fun c57 => ?_) (fun c57 => ?_)
      · replace h := ite_t c57 h
        obtain ⟨rfl, rfl, rfl, rfl, rfl, rfl, rfl, rfl⟩ := ret8 h
        exact k1 H locs ls hW (lv_sub hl [0, 1, 2, 3, 4, 5, 6, 7, 8, 9, 10, 11, 12, 13, 14, 15, 16, 17, 18] rfl)
      · replace h := ite_f c57 h
        refine lv_iload hx hb dL_chart_296 (lv_at hl 21 rfl) ?_
        refine lv_bipush (v := 64) hx hb dL_chart_298 (by decide) ?_
        refine lv_idiv hx hb dL_chart_300 (by decide) ?_
        refine lv_topi (fun w23_58 ew23_58 => ?_)
        replace h := lb_at ew23_58 h
        refine lv_istore (lv' := [(23, .int w23_58), (0, .ref a_c), (1, .ref a_w), (2, .ref a_u), (3, .ref a_x), (4, .ref a_l), (5, .ref a_v), (6, .ref a_g), (7, .ref a_q), (8, .ref a_n), (9, .ref a_e), (10, .ref a_j), (11, .ref a_a), (12, .ref a_b), (13, .ref a_m), (14, .int v14_285), (15, .int v15_285), (16, .int v16_285), (17, .int v17_285), (19, .int v19_285), (20, .int v20_285), (21, .int v21_285), (22, .int v22_285)]) hx hb dL_chart_301 hl (by decide) rfl (fun ls hl => ?_)
        refine lv_iload hx hb dL_chart_303 (lv_at hl 22 rfl) ?_
        refine lv_bipush (v := 8) hx hb dL_chart_305 (by decide) ?_
        refine lv_idiv hx hb dL_chart_307 (by decide) ?_
        refine lv_bipush (v := 8) hx hb dL_chart_308 (by decide) ?_
        refine lv_irem hx hb dL_chart_310 (by decide) ?_
        refine lv_topi (fun w24_59 ew24_59 => ?_)
        replace h := lb_at ew24_59 h
        refine lv_istore (lv' := [(24, .int w24_59), (23, .int w23_58), (0, .ref a_c), (1, .ref a_w), (2, .ref a_u), (3, .ref a_x), (4, .ref a_l), (5, .ref a_v), (6, .ref a_g), (7, .ref a_q), (8, .ref a_n), (9, .ref a_e), (10, .ref a_j), (11, .ref a_a), (12, .ref a_b), (13, .ref a_m), (14, .int v14_285), (15, .int v15_285), (16, .int v16_285), (17, .int v17_285), (19, .int v19_285), (20, .int v20_285), (21, .int v21_285), (22, .int v22_285)]) hx hb dL_chart_311 hl (by decide) rfl (fun ls hl => ?_)
        refine lv_iload hx hb dL_chart_313 (lv_at hl 23 rfl) ?_
        refine lv_bipush (v := 8) hx hb dL_chart_315 (by decide) ?_
        refine lv_irem hx hb dL_chart_317 (by decide) ?_
        refine lv_topi (fun w25_60 ew25_60 => ?_)
        replace h := lb_at ew25_60 h
        refine lv_istore (lv' := [(25, .int w25_60), (24, .int w24_59), (23, .int w23_58), (0, .ref a_c), (1, .ref a_w), (2, .ref a_u), (3, .ref a_x), (4, .ref a_l), (5, .ref a_v), (6, .ref a_g), (7, .ref a_q), (8, .ref a_n), (9, .ref a_e), (10, .ref a_j), (11, .ref a_a), (12, .ref a_b), (13, .ref a_m), (14, .int v14_285), (15, .int v15_285), (16, .int v16_285), (17, .int v17_285), (19, .int v19_285), (20, .int v20_285), (21, .int v21_285), (22, .int v22_285)]) hx hb dL_chart_318 hl (by decide) rfl (fun ls hl => ?_)
        refine lv_aload hx hb dL_chart_320 (lv_at hl 9 rfl) ?_
        refine lv_iconst (v := 4) hx hb dL_chart_322 (by decide) ?_
        refine lv_iload hx hb dL_chart_323 (lv_at hl 2 rfl) ?_
        refine lv_imul hx hb dL_chart_325 ?_
        refine lv_iconst (v := 2) hx hb dL_chart_326 (by decide) ?_
        refine lv_iadd hx hb dL_chart_327 ?_
        obtain ⟨g61, h⟩ := grd_s h
        refine g_iald hx hb hK hW 6 rfl g61 dL_chart_328 ?_
        refine lv_if_lt (tgt := 458) hx hb dL_chart_329 (by decide) (fun c62 => ?_) (fun c62 => ?_)
        · replace h := ite_t c62 h
          obtain ⟨w22_63, ew22_63⟩ : ∃ y : Int32, y = v22_285 + 1 := ⟨_, rfl⟩
          replace h := lb_at ew22_63 h
          refine lv_iinc (v := w22_63) (lv' := [(22, .int w22_63), (25, .int w25_60), (24, .int w24_59), (23, .int w23_58), (0, .ref a_c), (1, .ref a_w), (2, .ref a_u), (3, .ref a_x), (4, .ref a_l), (5, .ref a_v), (6, .ref a_g), (7, .ref a_q), (8, .ref a_n), (9, .ref a_e), (10, .ref a_j), (11, .ref a_a), (12, .ref a_b), (13, .ref a_m), (14, .int v14_285), (15, .int v15_285), (16, .int v16_285), (17, .int v17_285), (19, .int v19_285), (20, .int v20_285), (21, .int v21_285)]) hx hb dL_chart_458 hl (k := 24) rfl (by rw [ew22_63]; rfl) (by decide) rfl (fun ls hl => ?_)
          refine lv_goto (tgt := 285) hx hb dL_chart_461 (by decide) ?_
          exact ih _ _ _ _ _ _ _ _ _ _ _ _ _ _ _ hN_285 H locs ls _ _ _ _ _ _ _ _ hW (lv_sub hl [4, 5, 6, 7, 8, 9, 10, 11, 12, 13, 14, 15, 16, 17, 18, 19, 20, 21, 22, 23, 24, 0] rfl) h k1
        · replace h := ite_f c62 h
          refine lv_iload hx hb dL_chart_332 (lv_at hl 1 rfl) ?_
          refine lv_aload hx hb dL_chart_334 (lv_at hl 16 rfl) ?_
          refine lv_iload hx hb dL_chart_336 (lv_at hl 22 rfl) ?_
          obtain ⟨g64, h⟩ := grd_s h
          refine g_iald hx hb hK hW 13 rfl g64 dL_chart_338 ?_
          refine lv_icmp_ge (tgt := 458) hx hb dL_chart_339 (by decide) (fun c65 => ?_) (fun c65 => ?_)
          · replace h := ite_t c65 h
            obtain ⟨w22_66, ew22_66⟩ : ∃ y : Int32, y = v22_285 + 1 := ⟨_, rfl⟩
            replace h := lb_at ew22_66 h
            refine lv_iinc (v := w22_66) (lv' := [(22, .int w22_66), (25, .int w25_60), (24, .int w24_59), (23, .int w23_58), (0, .ref a_c), (1, .ref a_w), (2, .ref a_u), (3, .ref a_x), (4, .ref a_l), (5, .ref a_v), (6, .ref a_g), (7, .ref a_q), (8, .ref a_n), (9, .ref a_e), (10, .ref a_j), (11, .ref a_a), (12, .ref a_b), (13, .ref a_m), (14, .int v14_285), (15, .int v15_285), (16, .int v16_285), (17, .int v17_285), (19, .int v19_285), (20, .int v20_285), (21, .int v21_285)]) hx hb dL_chart_458 hl (k := 24) rfl (by rw [ew22_66]; rfl) (by decide) rfl (fun ls hl => ?_)
            refine lv_goto (tgt := 285) hx hb dL_chart_461 (by decide) ?_
            exact ih _ _ _ _ _ _ _ _ _ _ _ _ _ _ _ hN_285 H locs ls _ _ _ _ _ _ _ _ hW (lv_sub hl [4, 5, 6, 7, 8, 9, 10, 11, 12, 13, 14, 15, 16, 17, 18, 19, 20, 21, 22, 23, 24, 0] rfl) h k1
          · replace h := ite_f c65 h
            refine lv_iload hx hb dL_chart_342 (lv_at hl 0 rfl) ?_
            refine lv_aload hx hb dL_chart_344 (lv_at hl 16 rfl) ?_
            refine lv_iload hx hb dL_chart_346 (lv_at hl 23 rfl) ?_
            obtain ⟨g67, h⟩ := grd_s h
            refine g_iald hx hb hK hW 13 rfl g67 dL_chart_348 ?_
            refine lv_icmp_ge (tgt := 458) hx hb dL_chart_349 (by decide) (fun c68 => ?_) (fun c68 => ?_)
            · replace h := ite_t c68 h
              obtain ⟨w22_69, ew22_69⟩ : ∃ y : Int32, y = v22_285 + 1 := ⟨_, rfl⟩
              replace h := lb_at ew22_69 h
              refine lv_iinc (v := w22_69) (lv' := [(22, .int w22_69), (25, .int w25_60), (24, .int w24_59), (23, .int w23_58), (0, .ref a_c), (1, .ref a_w), (2, .ref a_u), (3, .ref a_x), (4, .ref a_l), (5, .ref a_v), (6, .ref a_g), (7, .ref a_q), (8, .ref a_n), (9, .ref a_e), (10, .ref a_j), (11, .ref a_a), (12, .ref a_b), (13, .ref a_m), (14, .int v14_285), (15, .int v15_285), (16, .int v16_285), (17, .int v17_285), (19, .int v19_285), (20, .int v20_285), (21, .int v21_285)]) hx hb dL_chart_458 hl (k := 24) rfl (by rw [ew22_69]; rfl) (by decide) rfl (fun ls hl => ?_)
              refine lv_goto (tgt := 285) hx hb dL_chart_461 (by decide) ?_
              exact ih _ _ _ _ _ _ _ _ _ _ _ _ _ _ _ hN_285 H locs ls _ _ _ _ _ _ _ _ hW (lv_sub hl [4, 5, 6, 7, 8, 9, 10, 11, 12, 13, 14, 15, 16, 17, 18, 19, 20, 21, 22, 23, 24, 0] rfl) h k1
            · replace h := ite_f c68 h
              refine lv_aload hx hb dL_chart_352 (lv_at hl 12 rfl) ?_
              refine lv_aload hx hb dL_chart_354 (lv_at hl 15 rfl) ?_
              refine lv_bipush (v := 8) hx hb dL_chart_356 (by decide) ?_
              refine lv_iload hx hb dL_chart_358 (lv_at hl 22 rfl) ?_
              refine lv_imul hx hb dL_chart_360 ?_
              refine lv_iload hx hb dL_chart_361 (lv_at hl 1 rfl) ?_
              refine lv_iadd hx hb dL_chart_363 ?_
              obtain ⟨g70, h⟩ := grd_s h
              refine g_iald hx hb hK hW 12 rfl g70 dL_chart_364 ?_
              obtain ⟨g71, h⟩ := grd_s h
              refine g_iald hx hb hK hW 9 rfl g71 dL_chart_365 ?_
              refine lv_sipush (v := 1000) hx hb dL_chart_366 (by decide) ?_
              refine lv_idiv hx hb dL_chart_369 (by decide) ?_
              refine lv_aload hx hb dL_chart_370 (lv_at hl 9 rfl) ?_
              refine lv_iconst (v := 4) hx hb dL_chart_372 (by decide) ?_
              refine lv_iload hx hb dL_chart_373 (lv_at hl 2 rfl) ?_
              refine lv_imul hx hb dL_chart_375 ?_
              refine lv_iconst (v := 1) hx hb dL_chart_376 (by decide) ?_
              refine lv_iadd hx hb dL_chart_377 ?_
              obtain ⟨g72, h⟩ := grd_s h
              refine g_iald hx hb hK hW 6 rfl g72 dL_chart_378 ?_
              refine lv_icmp_ne (tgt := 458) hx hb dL_chart_379 (by decide) (fun c73 => ?_) (fun c73 => ?_)
              · replace h := ite_f c73 h
                obtain ⟨w22_74, ew22_74⟩ : ∃ y : Int32, y = v22_285 + 1 := ⟨_, rfl⟩
                replace h := lb_at ew22_74 h
                refine lv_iinc (v := w22_74) (lv' := [(22, .int w22_74), (25, .int w25_60), (24, .int w24_59), (23, .int w23_58), (0, .ref a_c), (1, .ref a_w), (2, .ref a_u), (3, .ref a_x), (4, .ref a_l), (5, .ref a_v), (6, .ref a_g), (7, .ref a_q), (8, .ref a_n), (9, .ref a_e), (10, .ref a_j), (11, .ref a_a), (12, .ref a_b), (13, .ref a_m), (14, .int v14_285), (15, .int v15_285), (16, .int v16_285), (17, .int v17_285), (19, .int v19_285), (20, .int v20_285), (21, .int v21_285)]) hx hb dL_chart_458 hl (k := 24) rfl (by rw [ew22_74]; rfl) (by decide) rfl (fun ls hl => ?_)
                refine lv_goto (tgt := 285) hx hb dL_chart_461 (by decide) ?_
                exact ih _ _ _ _ _ _ _ _ _ _ _ _ _ _ _ hN_285 H locs ls _ _ _ _ _ _ _ _ hW (lv_sub hl [4, 5, 6, 7, 8, 9, 10, 11, 12, 13, 14, 15, 16, 17, 18, 19, 20, 21, 22, 23, 24, 0] rfl) h k1
              · replace h := ite_t c73 h
                refine lv_aload hx hb dL_chart_382 (lv_at hl 12 rfl) ?_
                refine lv_aload hx hb dL_chart_384 (lv_at hl 15 rfl) ?_
                refine lv_bipush (v := 8) hx hb dL_chart_386 (by decide) ?_
                refine lv_iload hx hb dL_chart_388 (lv_at hl 23 rfl) ?_
                refine lv_imul hx hb dL_chart_390 ?_
                refine lv_iload hx hb dL_chart_391 (lv_at hl 0 rfl) ?_
                refine lv_iadd hx hb dL_chart_393 ?_
                obtain ⟨g75, h⟩ := grd_s h
                refine g_iald hx hb hK hW 12 rfl g75 dL_chart_394 ?_
                obtain ⟨g76, h⟩ := grd_s h
                refine g_iald hx hb hK hW 9 rfl g76 dL_chart_395 ?_
                refine lv_sipush (v := 1000) hx hb dL_chart_396 (by decide) ?_
                refine lv_idiv hx hb dL_chart_399 (by decide) ?_
                refine lv_aload hx hb dL_chart_400 (lv_at hl 9 rfl) ?_
                refine lv_iconst (v := 4) hx hb dL_chart_402 (by decide) ?_
                refine lv_iload hx hb dL_chart_403 (lv_at hl 2 rfl) ?_
                refine lv_imul hx hb dL_chart_405 ?_
                refine lv_iconst (v := 2) hx hb dL_chart_406 (by decide) ?_
                refine lv_iadd hx hb dL_chart_407 ?_
                obtain ⟨g77, h⟩ := grd_s h
                refine g_iald hx hb hK hW 6 rfl g77 dL_chart_408 ?_
                refine lv_icmp_ne (tgt := 458) hx hb dL_chart_409 (by decide) (fun c78 => ?_) (fun c78 => ?_)
                · replace h := ite_f c78 h
                  obtain ⟨w22_79, ew22_79⟩ : ∃ y : Int32, y = v22_285 + 1 := ⟨_, rfl⟩
                  replace h := lb_at ew22_79 h
                  refine lv_iinc (v := w22_79) (lv' := [(22, .int w22_79), (25, .int w25_60), (24, .int w24_59), (23, .int w23_58), (0, .ref a_c), (1, .ref a_w), (2, .ref a_u), (3, .ref a_x), (4, .ref a_l), (5, .ref a_v), (6, .ref a_g), (7, .ref a_q), (8, .ref a_n), (9, .ref a_e), (10, .ref a_j), (11, .ref a_a), (12, .ref a_b), (13, .ref a_m), (14, .int v14_285), (15, .int v15_285), (16, .int v16_285), (17, .int v17_285), (19, .int v19_285), (20, .int v20_285), (21, .int v21_285)]) hx hb dL_chart_458 hl (k := 24) rfl (by rw [ew22_79]; rfl) (by decide) rfl (fun ls hl => ?_)
                  refine lv_goto (tgt := 285) hx hb dL_chart_461 (by decide) ?_
                  exact ih _ _ _ _ _ _ _ _ _ _ _ _ _ _ _ hN_285 H locs ls _ _ _ _ _ _ _ _ hW (lv_sub hl [4, 5, 6, 7, 8, 9, 10, 11, 12, 13, 14, 15, 16, 17, 18, 19, 20, 21, 22, 23, 24, 0] rfl) h k1
                · replace h := ite_t c78 h
                  refine lv_aload_n hx hb dL_chart_412 rfl (lv_at hl 3 rfl) ?_
                  refine lv_aload hx hb dL_chart_413 (lv_at hl 9 rfl) ?_
                  refine lv_aload hx hb dL_chart_415 (lv_at hl 10 rfl) ?_
                  refine lv_aload hx hb dL_chart_417 (lv_at hl 11 rfl) ?_
                  refine lv_aload hx hb dL_chart_419 (lv_at hl 12 rfl) ?_
                  refine lv_aload hx hb dL_chart_421 (lv_at hl 13 rfl) ?_
                  refine lv_aload hx hb dL_chart_423 (lv_at hl 14 rfl) ?_
                  refine lv_aload hx hb dL_chart_425 (lv_at hl 15 rfl) ?_
                  refine lv_aload hx hb dL_chart_427 (lv_at hl 16 rfl) ?_
                  refine lv_iload hx hb dL_chart_429 (lv_at hl 20 rfl) ?_
                  refine lv_iload hx hb dL_chart_431 (lv_at hl 2 rfl) ?_
                  refine lv_aload hx hb dL_chart_433 (lv_at hl 15 rfl) ?_
                  refine lv_bipush (v := 8) hx hb dL_chart_435 (by decide) ?_
                  refine lv_iload hx hb dL_chart_437 (lv_at hl 22 rfl) ?_
                  refine lv_imul hx hb dL_chart_439 ?_
                  refine lv_iload hx hb dL_chart_440 (lv_at hl 1 rfl) ?_
                  refine lv_iadd hx hb dL_chart_442 ?_
                  obtain ⟨g80, h⟩ := grd_s h
                  refine g_iald hx hb hK hW 12 rfl g80 dL_chart_443 ?_
                  refine lv_aload hx hb dL_chart_444 (lv_at hl 15 rfl) ?_
                  refine lv_bipush (v := 8) hx hb dL_chart_446 (by decide) ?_
                  refine lv_iload hx hb dL_chart_448 (lv_at hl 23 rfl) ?_
                  refine lv_imul hx hb dL_chart_450 ?_
                  refine lv_iload hx hb dL_chart_451 (lv_at hl 0 rfl) ?_
                  refine lv_iadd hx hb dL_chart_453 ?_
                  obtain ⟨g81, h⟩ := grd_s h
                  refine g_iald hx hb hK hW 12 rfl g81 dL_chart_454 ?_
                  replace hW := hW.perm pf13
                  replace hW := hW.perm pf13
                  replace hW := hW.perm pf13
                  replace hW := hW.perm pf13
                  replace hW := hW.perm pf13
                  replace hW := hW.perm pf13
                  replace hW := hW.perm pf13
                  replace hW := hW.perm pf13
                  replace hW := hW.perm pf8
                  obtain ⟨x_c82, x_e83, x_j84, x_a85, x_b86, x_m87, q88, h⟩ := bnd6_s h
                  obtain ⟨gN89, h⟩ := grd_s h
                  have gN89 := of_decide_eq_true gN89
                  refine cs_L_55 hx hb hml hown hts hK hN hE hC hA hW (c_L_tries l D T A a_c a_g a_q a_n a_e a_j a_a a_b a_m (oA T 24 a_w x_w ++ (oA T 2 a_u x_u ++ (oA T 6 a_x x_x ++ (oA T 6 a_l x_l ++ (oA T 12 a_v x_v ++ Z))))) x_c_285 x_g x_q x_n x_e_285 x_j_285 x_a_285 x_b_285 x_m_285 v17_285 w23_58 (x_b_285 ((8 * v20_285) + w24_59).toNatClampNeg) (x_b_285 ((8 * v21_285) + w25_60).toNatClampNeg) x_c82 x_e83 x_j84 x_a85 x_b86 x_m87 q88) ⟨Nat.le_of_ble_eq_true rfl, Nat.le_of_ble_eq_true rfl⟩ hl.1 rfl (Nat.le_of_ble_eq_true rfl) dL_chart_455 (hfB gN89) rfl (fun H locs hW => ?_)
                  replace hW := hW.perm pf8
                  replace hW := hW.perm pf8
                  replace hW := hW.perm pf8
                  replace hW := hW.perm pf8
                  replace hW := hW.perm pf8
                  replace hW := hW.perm pf8
                  replace hW := hW.perm pf8
                  replace hW := hW.perm pf8
                  replace hW := hW.perm pf13
                  replace hW := hW.perm pf13
                  replace hW := hW.perm pf13
                  replace hW := hW.perm pf13
                  replace hW := hW.perm pf13
                  replace hW := hW.perm pf13
                  obtain ⟨w22_90, ew22_90⟩ : ∃ y : Int32, y = v22_285 + 1 := ⟨_, rfl⟩
                  replace h := lb_at ew22_90 h
                  refine lv_iinc (v := w22_90) (lv' := [(22, .int w22_90), (25, .int w25_60), (24, .int w24_59), (23, .int w23_58), (0, .ref a_c), (1, .ref a_w), (2, .ref a_u), (3, .ref a_x), (4, .ref a_l), (5, .ref a_v), (6, .ref a_g), (7, .ref a_q), (8, .ref a_n), (9, .ref a_e), (10, .ref a_j), (11, .ref a_a), (12, .ref a_b), (13, .ref a_m), (14, .int v14_285), (15, .int v15_285), (16, .int v16_285), (17, .int v17_285), (19, .int v19_285), (20, .int v20_285), (21, .int v21_285)]) hx hb dL_chart_458 hl (k := 24) rfl (by rw [ew22_90]; rfl) (by decide) rfl (fun ls hl => ?_)
                  refine lv_goto (tgt := 285) hx hb dL_chart_461 (by decide) ?_
                  exact ih _ _ _ _ _ _ _ _ _ _ _ _ _ _ _ gN89 H locs ls _ _ _ _ _ _ _ _ hW (lv_sub hl [4, 5, 6, 7, 8, 9, 10, 11, 12, 13, 14, 15, 16, 17, 18, 19, 20, 21, 22, 23, 24, 0] rfl) h k1
  have L251 : ∀ (n : Nat) (x_c_251 : Nat → Int32) (x_e_251 : Nat → Int32) (x_j_251 : Nat → Int32) (x_a_251 : Nat → Int32) (x_b_251 : Nat → Int32) (x_m_251 : Nat → Int32) (x_N_251 : Nat) (v14_251 : Int32) (v15_251 : Int32) (v16_251 : Int32) (v17_251 : Int32) (v19_251 : Int32) (hN_251 : x_N_251 ≤ 4000) (H : Heap) (locs : List Loc) (ls : Array Slot) (o19_251r : Int32) (y_c_251r : Nat → Int32) (y_e_251r : Nat → Int32) (y_j_251r : Nat → Int32) (y_a_251r : Nat → Int32) (y_b_251r : Nat → Int32) (y_m_251r : Nat → Int32) (y_N_251r : Nat), Wd D A s.heap (oA T 12 a_c x_c_251 ++ (oA T 24 a_w x_w ++ (oA T 2 a_u x_u ++ (oA T 6 a_x x_x ++ (oA T 6 a_l x_l ++ (oA T 12 a_v x_v ++ (oA T 20 a_g x_g ++ (oA T 60 a_q x_q ++ (oA T 5 a_n x_n ++ (oA T 64 a_e x_e_251 ++ (oA T 64 a_j x_j_251 ++ (oA T 64 a_a x_a_251 ++ (oA T 48 a_b x_b_251 ++ (oA T 6 a_m x_m_251 ++ Z)))))))))))))) H locs → lv_has ls 26 [(0, .ref a_c), (1, .ref a_w), (2, .ref a_u), (3, .ref a_x), (4, .ref a_l), (5, .ref a_v), (6, .ref a_g), (7, .ref a_q), (8, .ref a_n), (9, .ref a_e), (10, .ref a_j), (11, .ref a_a), (12, .ref a_b), (13, .ref a_m), (14, .int v14_251), (15, .int v15_251), (16, .int v16_251), (17, .int v17_251), (19, .int v19_251)] → f_L_chart_L251 n x_c_251 x_w x_u x_x x_l x_v x_g x_q x_n x_e_251 x_j_251 x_a_251 x_b_251 x_m_251 x_N_251 v14_251 v15_251 v16_251 v17_251 v19_251 = some (o19_251r, y_c_251r, y_e_251r, y_j_251r, y_a_251r, y_b_251r, y_m_251r, y_N_251r) → (∀ (H : Heap) (locs : List Loc) (ls : Array Slot), Wd D A s.heap (oA T 12 a_c y_c_251r ++ (oA T 24 a_w x_w ++ (oA T 2 a_u x_u ++ (oA T 6 a_x x_x ++ (oA T 6 a_l x_l ++ (oA T 12 a_v x_v ++ (oA T 20 a_g x_g ++ (oA T 60 a_q x_q ++ (oA T 5 a_n x_n ++ (oA T 64 a_e y_e_251r ++ (oA T 64 a_j y_j_251r ++ (oA T 64 a_a y_a_251r ++ (oA T 48 a_b y_b_251r ++ (oA T 6 a_m y_m_251r ++ Z)))))))))))))) H locs → lv_has ls 26 [(0, .ref a_c), (1, .ref a_w), (2, .ref a_u), (3, .ref a_x), (4, .ref a_l), (5, .ref a_v), (6, .ref a_g), (7, .ref a_q), (8, .ref a_n), (9, .ref a_e), (10, .ref a_j), (11, .ref a_a), (12, .ref a_b), (13, .ref a_m), (14, .int v14_251), (15, .int v15_251), (16, .int v16_251), (17, .int v17_251)] → W p l e (rmL 3 4000) s m args below meth c H locs y_N_251r (16 * y_N_251r) Q (F0 m 470 ls [])) → W p l e (rmL 3 4000) s m args below meth c H locs x_N_251 (16 * x_N_251) Q (F0 m 251 ls []) := by
    intro n
    induction n with
    | zero =>
      intro x_c_251 x_e_251 x_j_251 x_a_251 x_b_251 x_m_251 x_N_251 v14_251 v15_251 v16_251 v17_251 v19_251 hN_251 H locs ls o19_251r y_c_251r y_e_251r y_j_251r y_a_251r y_b_251r y_m_251r y_N_251r hW hl h k1
      rw [f_L_chart_L251] at h
      cases h
    | succ n ih =>
      intro x_c_251 x_e_251 x_j_251 x_a_251 x_b_251 x_m_251 x_N_251 v14_251 v15_251 v16_251 v17_251 v19_251 hN_251 H locs ls o19_251r y_c_251r y_e_251r y_j_251r y_a_251r y_b_251r y_m_251r y_N_251r hW hl h k1
      rw [f_L_chart_L251] at h
      refine lv_iload hx hb dL_chart_251 (lv_at hl 18 rfl) ?_
      refine lv_iload hx hb dL_chart_253 (lv_at hl 15 rfl) ?_
      refine lv_icmp_ge (tgt := 470) hx hb dL_chart_255 (by decide) (fun c52 => ?_) (fun c52 => ?_)
      · replace h := ite_t c52 h
        obtain ⟨rfl, rfl, rfl, rfl, rfl, rfl, rfl, rfl⟩ := ret8 h
        exact k1 H locs ls hW (lv_sub hl [0, 1, 2, 3, 4, 5, 6, 7, 8, 9, 10, 11, 12, 13, 14, 15, 16, 17] rfl)
      · replace h := ite_f c52 h
        refine lv_iload hx hb dL_chart_258 (lv_at hl 16 rfl) ?_
        refine lv_iload hx hb dL_chart_260 (lv_at hl 18 rfl) ?_
        obtain ⟨r53, q54, h⟩ := bnd1_s h
        refine cs_L_52 hx hb hml hown hts hK hN hE hC hA hW (c_L_span l D T A (oA T 12 a_c x_c_251 ++ (oA T 24 a_w x_w ++ (oA T 2 a_u x_u ++ (oA T 6 a_x x_x ++ (oA T 6 a_l x_l ++ (oA T 12 a_v x_v ++ (oA T 20 a_g x_g ++ (oA T 60 a_q x_q ++ (oA T 5 a_n x_n ++ (oA T 64 a_e x_e_251 ++ (oA T 64 a_j x_j_251 ++ (oA T 64 a_a x_a_251 ++ (oA T 48 a_b x_b_251 ++ (oA T 6 a_m x_m_251 ++ Z)))))))))))))) v16_251 v19_251 r53 q54) ⟨Nat.le_of_ble_eq_true rfl, Nat.le_of_ble_eq_true rfl⟩ hl.1 rfl (Nat.le_of_ble_eq_true rfl) dL_chart_262 (hf0 hN_251) rfl (fun H locs hW => ?_)
        refine lv_istore (lv' := [(20, .int r53), (0, .ref a_c), (1, .ref a_w), (2, .ref a_u), (3, .ref a_x), (4, .ref a_l), (5, .ref a_v), (6, .ref a_g), (7, .ref a_q), (8, .ref a_n), (9, .ref a_e), (10, .ref a_j), (11, .ref a_a), (12, .ref a_b), (13, .ref a_m), (14, .int v14_251), (15, .int v15_251), (16, .int v16_251), (17, .int v17_251), (19, .int v19_251)]) hx hb dL_chart_265 hl (by decide) rfl (fun ls hl => ?_)
        refine lv_iload hx hb dL_chart_267 (lv_at hl 17 rfl) ?_
        refine lv_iload hx hb dL_chart_269 (lv_at hl 19 rfl) ?_
        refine lv_iadd hx hb dL_chart_271 ?_
        refine lv_iload hx hb dL_chart_272 (lv_at hl 16 rfl) ?_
        refine lv_iload hx hb dL_chart_274 (lv_at hl 19 rfl) ?_
        refine lv_isub hx hb dL_chart_276 ?_
        obtain ⟨r55, q56, h⟩ := bnd1_s h
        refine cs_L_52 hx hb hml hown hts hK hN hE hC hA hW (c_L_span l D T A (oA T 12 a_c x_c_251 ++ (oA T 24 a_w x_w ++ (oA T 2 a_u x_u ++ (oA T 6 a_x x_x ++ (oA T 6 a_l x_l ++ (oA T 12 a_v x_v ++ (oA T 20 a_g x_g ++ (oA T 60 a_q x_q ++ (oA T 5 a_n x_n ++ (oA T 64 a_e x_e_251 ++ (oA T 64 a_j x_j_251 ++ (oA T 64 a_a x_a_251 ++ (oA T 48 a_b x_b_251 ++ (oA T 6 a_m x_m_251 ++ Z)))))))))))))) (v16_251 + v19_251) (v15_251 - v19_251) r55 q56) ⟨Nat.le_of_ble_eq_true rfl, Nat.le_of_ble_eq_true rfl⟩ hl.1 rfl (Nat.le_of_ble_eq_true rfl) dL_chart_277 (hf0 hN_251) rfl (fun H locs hW => ?_)
        refine lv_istore (lv' := [(21, .int r55), (20, .int r53), (0, .ref a_c), (1, .ref a_w), (2, .ref a_u), (3, .ref a_x), (4, .ref a_l), (5, .ref a_v), (6, .ref a_g), (7, .ref a_q), (8, .ref a_n), (9, .ref a_e), (10, .ref a_j), (11, .ref a_a), (12, .ref a_b), (13, .ref a_m), (14, .int v14_251), (15, .int v15_251), (16, .int v16_251), (17, .int v17_251), (19, .int v19_251)]) hx hb dL_chart_280 hl (by decide) rfl (fun ls hl => ?_)
        refine lv_iconst (v := 0) hx hb dL_chart_282 (by decide) ?_
        refine lv_istore (lv' := [(22, .int 0), (21, .int r55), (20, .int r53), (0, .ref a_c), (1, .ref a_w), (2, .ref a_u), (3, .ref a_x), (4, .ref a_l), (5, .ref a_v), (6, .ref a_g), (7, .ref a_q), (8, .ref a_n), (9, .ref a_e), (10, .ref a_j), (11, .ref a_a), (12, .ref a_b), (13, .ref a_m), (14, .int v14_251), (15, .int v15_251), (16, .int v16_251), (17, .int v17_251), (19, .int v19_251)]) hx hb dL_chart_283 hl (by decide) rfl (fun ls hl => ?_)
        obtain ⟨o22_u91, y_c_u91, y_e_u91, y_j_u91, y_a_u91, y_b_u91, y_m_u91, y_N_u91, q92, h⟩ := bnd8_s h
        obtain ⟨gN93, h⟩ := grd_s h
        have gN93 := of_decide_eq_true gN93
        refine L285 400 _ _ _ _ _ _ _ _ _ _ _ _ _ _ _ hN_251 H locs ls o22_u91 y_c_u91 y_e_u91 y_j_u91 y_a_u91 y_b_u91 y_m_u91 y_N_u91 hW (lv_sub hl [3, 4, 5, 6, 7, 8, 9, 10, 11, 12, 13, 14, 15, 16, 17, 18, 19, 20, 21, 2, 1, 0] rfl) q92 (fun H locs ls hW hl => ?_)
        obtain ⟨w19_94, ew19_94⟩ : ∃ y : Int32, y = v19_251 + 1 := ⟨_, rfl⟩
        replace h := lb_at ew19_94 h
        refine lv_iinc (v := w19_94) (lv' := [(19, .int w19_94), (0, .ref a_c), (1, .ref a_w), (2, .ref a_u), (3, .ref a_x), (4, .ref a_l), (5, .ref a_v), (6, .ref a_g), (7, .ref a_q), (8, .ref a_n), (9, .ref a_e), (10, .ref a_j), (11, .ref a_a), (12, .ref a_b), (13, .ref a_m), (14, .int v14_251), (15, .int v15_251), (16, .int v16_251), (17, .int v17_251)]) hx hb dL_chart_464 hl (k := 18) rfl (by rw [ew19_94]; rfl) (by decide) rfl (fun ls hl => ?_)
        refine lv_goto (tgt := 251) hx hb dL_chart_467 (by decide) ?_
        exact ih _ _ _ _ _ _ _ _ _ _ _ _ gN93 H locs ls _ _ _ _ _ _ _ _ hW (lv_sub hl [1, 2, 3, 4, 5, 6, 7, 8, 9, 10, 11, 12, 13, 14, 15, 16, 17, 18, 0] rfl) h k1
  have L495 : ∀ (n : Nat) (x_c_495 : Nat → Int32) (x_e_495 : Nat → Int32) (x_j_495 : Nat → Int32) (x_a_495 : Nat → Int32) (x_b_495 : Nat → Int32) (x_m_495 : Nat → Int32) (x_N_495 : Nat) (v14_495 : Int32) (v15_495 : Int32) (v16_495 : Int32) (v17_495 : Int32) (v19_495 : Int32) (v20_495 : Int32) (v21_495 : Int32) (hN_495 : x_N_495 ≤ 4000) (H : Heap) (locs : List Loc) (ls : Array Slot) (o21_495r : Int32) (y_c_495r : Nat → Int32) (y_e_495r : Nat → Int32) (y_j_495r : Nat → Int32) (y_a_495r : Nat → Int32) (y_b_495r : Nat → Int32) (y_m_495r : Nat → Int32) (y_N_495r : Nat), Wd D A s.heap (oA T 12 a_c x_c_495 ++ (oA T 24 a_w x_w ++ (oA T 2 a_u x_u ++ (oA T 6 a_x x_x ++ (oA T 6 a_l x_l ++ (oA T 12 a_v x_v ++ (oA T 20 a_g x_g ++ (oA T 60 a_q x_q ++ (oA T 5 a_n x_n ++ (oA T 64 a_e x_e_495 ++ (oA T 64 a_j x_j_495 ++ (oA T 64 a_a x_a_495 ++ (oA T 48 a_b x_b_495 ++ (oA T 6 a_m x_m_495 ++ Z)))))))))))))) H locs → lv_has ls 26 [(0, .ref a_c), (1, .ref a_w), (2, .ref a_u), (3, .ref a_x), (4, .ref a_l), (5, .ref a_v), (6, .ref a_g), (7, .ref a_q), (8, .ref a_n), (9, .ref a_e), (10, .ref a_j), (11, .ref a_a), (12, .ref a_b), (13, .ref a_m), (14, .int v14_495), (15, .int v15_495), (16, .int v16_495), (17, .int v17_495), (19, .int v19_495), (20, .int v20_495), (21, .int v21_495)] → f_L_chart_L495 n x_c_495 x_w x_u x_x x_l x_v x_g x_q x_n x_e_495 x_j_495 x_a_495 x_b_495 x_m_495 x_N_495 v14_495 v15_495 v16_495 v17_495 v19_495 v20_495 v21_495 = some (o21_495r, y_c_495r, y_e_495r, y_j_495r, y_a_495r, y_b_495r, y_m_495r, y_N_495r) → (∀ (H : Heap) (locs : List Loc) (ls : Array Slot), Wd D A s.heap (oA T 12 a_c y_c_495r ++ (oA T 24 a_w x_w ++ (oA T 2 a_u x_u ++ (oA T 6 a_x x_x ++ (oA T 6 a_l x_l ++ (oA T 12 a_v x_v ++ (oA T 20 a_g x_g ++ (oA T 60 a_q x_q ++ (oA T 5 a_n x_n ++ (oA T 64 a_e y_e_495r ++ (oA T 64 a_j y_j_495r ++ (oA T 64 a_a y_a_495r ++ (oA T 48 a_b y_b_495r ++ (oA T 6 a_m y_m_495r ++ Z)))))))))))))) H locs → lv_has ls 26 [(0, .ref a_c), (1, .ref a_w), (2, .ref a_u), (3, .ref a_x), (4, .ref a_l), (5, .ref a_v), (6, .ref a_g), (7, .ref a_q), (8, .ref a_n), (9, .ref a_e), (10, .ref a_j), (11, .ref a_a), (12, .ref a_b), (13, .ref a_m), (14, .int v14_495), (15, .int v15_495), (16, .int v16_495), (17, .int v17_495), (19, .int v19_495)] → W p l e (rmL 3 4000) s m args below meth c H locs y_N_495r (16 * y_N_495r) Q (F0 m 605 ls [])) → W p l e (rmL 3 4000) s m args below meth c H locs x_N_495 (16 * x_N_495) Q (F0 m 495 ls []) := by
    intro n
    induction n with
    | zero =>
      intro x_c_495 x_e_495 x_j_495 x_a_495 x_b_495 x_m_495 x_N_495 v14_495 v15_495 v16_495 v17_495 v19_495 v20_495 v21_495 hN_495 H locs ls o21_495r y_c_495r y_e_495r y_j_495r y_a_495r y_b_495r y_m_495r y_N_495r hW hl h k1
      rw [f_L_chart_L495] at h
      cases h
    | succ n ih =>
      intro x_c_495 x_e_495 x_j_495 x_a_495 x_b_495 x_m_495 x_N_495 v14_495 v15_495 v16_495 v17_495 v19_495 v20_495 v21_495 hN_495 H locs ls o21_495r y_c_495r y_e_495r y_j_495r y_a_495r y_b_495r y_m_495r y_N_495r hW hl h k1
      rw [f_L_chart_L495] at h
      refine lv_aload hx hb dL_chart_495 (lv_at hl 6 rfl) ?_
      refine lv_iconst (v := 4) hx hb dL_chart_497 (by decide) ?_
      refine lv_iload hx hb dL_chart_498 (lv_at hl 19 rfl) ?_
      refine lv_imul hx hb dL_chart_500 ?_
      refine lv_iconst (v := 2) hx hb dL_chart_501 (by decide) ?_
      refine lv_iadd hx hb dL_chart_502 ?_
      obtain ⟨g101, h⟩ := grd_s h
      refine g_iald hx hb hK hW 6 rfl g101 dL_chart_503 ?_
      refine lv_if_ge (tgt := 605) hx hb dL_chart_504 (by decide) (fun c102 => ?_) (fun c102 => ?_)
      · replace h := ite_t c102 h
        obtain ⟨rfl, rfl, rfl, rfl, rfl, rfl, rfl, rfl⟩ := ret8 h
        exact k1 H locs ls hW (lv_sub hl [0, 1, 2, 3, 4, 5, 6, 7, 8, 9, 10, 11, 12, 13, 14, 15, 16, 17, 18] rfl)
      · replace h := ite_f c102 h
        refine lv_aload hx hb dL_chart_507 (lv_at hl 6 rfl) ?_
        refine lv_iconst (v := 4) hx hb dL_chart_509 (by decide) ?_
        refine lv_iload hx hb dL_chart_510 (lv_at hl 19 rfl) ?_
        refine lv_imul hx hb dL_chart_512 ?_
        obtain ⟨g103, h⟩ := grd_s h
        refine g_iald hx hb hK hW 6 rfl g103 dL_chart_513 ?_
        refine lv_iload hx hb dL_chart_514 (lv_at hl 18 rfl) ?_
        refine lv_aload_n hx hb dL_chart_516 rfl (lv_at hl 0 rfl) ?_
        refine lv_iconst (v := 2) hx hb dL_chart_517 (by decide) ?_
        refine g_iald hx hb hK hW 0 rfl (by decide) dL_chart_518 ?_
        obtain ⟨g104, h⟩ := grd_s h
        refine lv_idiv hx hb dL_chart_519 (nz_ne g104) ?_
        refine lv_icmp_ne (tgt := 605) hx hb dL_chart_520 (by decide) (fun c105 => ?_) (fun c105 => ?_)
        · replace h := ite_f c105 h
          obtain ⟨rfl, rfl, rfl, rfl, rfl, rfl, rfl, rfl⟩ := ret8 h
          exact k1 H locs ls hW (lv_sub hl [0, 1, 2, 3, 4, 5, 6, 7, 8, 9, 10, 11, 12, 13, 14, 15, 16, 17, 18] rfl)
        · replace h := ite_t c105 h
          refine lv_iload hx hb dL_chart_523 (lv_at hl 20 rfl) ?_
          refine lv_aload hx hb dL_chart_525 (lv_at hl 13 rfl) ?_
          refine lv_iload hx hb dL_chart_527 (lv_at hl 17 rfl) ?_
          obtain ⟨g106, h⟩ := grd_s h
          refine g_iald hx hb hK hW 13 rfl g106 dL_chart_529 ?_
          refine lv_icmp_ge (tgt := 605) hx hb dL_chart_530 (by decide) (fun c107 => ?_) (fun c107 => ?_)
          · replace h := ite_t c107 h
            obtain ⟨rfl, rfl, rfl, rfl, rfl, rfl, rfl, rfl⟩ := ret8 h
            exact k1 H locs ls hW (lv_sub hl [0, 1, 2, 3, 4, 5, 6, 7, 8, 9, 10, 11, 12, 13, 14, 15, 16, 17, 18] rfl)
          · replace h := ite_f c107 h
            refine lv_aload hx hb dL_chart_533 (lv_at hl 9 rfl) ?_
            refine lv_aload hx hb dL_chart_535 (lv_at hl 12 rfl) ?_
            refine lv_bipush (v := 8) hx hb dL_chart_537 (by decide) ?_
            refine lv_iload hx hb dL_chart_539 (lv_at hl 17 rfl) ?_
            refine lv_imul hx hb dL_chart_541 ?_
            refine lv_iload hx hb dL_chart_542 (lv_at hl 20 rfl) ?_
            refine lv_iadd hx hb dL_chart_544 ?_
            obtain ⟨g108, h⟩ := grd_s h
            refine g_iald hx hb hK hW 12 rfl g108 dL_chart_545 ?_
            obtain ⟨g109, h⟩ := grd_s h
            refine g_iald hx hb hK hW 9 rfl g109 dL_chart_546 ?_
            refine lv_sipush (v := 1000) hx hb dL_chart_547 (by decide) ?_
            refine lv_idiv hx hb dL_chart_550 (by decide) ?_
            refine lv_aload hx hb dL_chart_551 (lv_at hl 6 rfl) ?_
            refine lv_iconst (v := 4) hx hb dL_chart_553 (by decide) ?_
            refine lv_iload hx hb dL_chart_554 (lv_at hl 19 rfl) ?_
            refine lv_imul hx hb dL_chart_556 ?_
            refine lv_iconst (v := 1) hx hb dL_chart_557 (by decide) ?_
            refine lv_iadd hx hb dL_chart_558 ?_
            obtain ⟨g110, h⟩ := grd_s h
            refine g_iald hx hb hK hW 6 rfl g110 dL_chart_559 ?_
            refine lv_icmp_ne (tgt := 599) hx hb dL_chart_560 (by decide) (fun c111 => ?_) (fun c111 => ?_)
            · replace h := ite_f c111 h
              obtain ⟨w21_112, ew21_112⟩ : ∃ y : Int32, y = v21_495 + 1 := ⟨_, rfl⟩
              replace h := lb_at ew21_112 h
              refine lv_iinc (v := w21_112) (lv' := [(21, .int w21_112), (0, .ref a_c), (1, .ref a_w), (2, .ref a_u), (3, .ref a_x), (4, .ref a_l), (5, .ref a_v), (6, .ref a_g), (7, .ref a_q), (8, .ref a_n), (9, .ref a_e), (10, .ref a_j), (11, .ref a_a), (12, .ref a_b), (13, .ref a_m), (14, .int v14_495), (15, .int v15_495), (16, .int v16_495), (17, .int v17_495), (19, .int v19_495), (20, .int v20_495)]) hx hb dL_chart_599 hl (k := 20) rfl (by rw [ew21_112]; rfl) (by decide) rfl (fun ls hl => ?_)
              refine lv_goto (tgt := 495) hx hb dL_chart_602 (by decide) ?_
              exact ih _ _ _ _ _ _ _ _ _ _ _ _ _ _ hN_495 H locs ls _ _ _ _ _ _ _ _ hW (lv_sub hl [1, 2, 3, 4, 5, 6, 7, 8, 9, 10, 11, 12, 13, 14, 15, 16, 17, 18, 19, 20, 0] rfl) h k1
            · replace h := ite_t c111 h
              refine lv_aload_n hx hb dL_chart_563 rfl (lv_at hl 0 rfl) ?_
              refine lv_aload hx hb dL_chart_564 (lv_at hl 6 rfl) ?_
              refine lv_aload hx hb dL_chart_566 (lv_at hl 7 rfl) ?_
              refine lv_aload hx hb dL_chart_568 (lv_at hl 8 rfl) ?_
              refine lv_aload hx hb dL_chart_570 (lv_at hl 9 rfl) ?_
              refine lv_aload hx hb dL_chart_572 (lv_at hl 10 rfl) ?_
              refine lv_aload hx hb dL_chart_574 (lv_at hl 11 rfl) ?_
              refine lv_aload hx hb dL_chart_576 (lv_at hl 12 rfl) ?_
              refine lv_aload hx hb dL_chart_578 (lv_at hl 13 rfl) ?_
              refine lv_iload hx hb dL_chart_580 (lv_at hl 17 rfl) ?_
              refine lv_iload hx hb dL_chart_582 (lv_at hl 19 rfl) ?_
              refine lv_aload hx hb dL_chart_584 (lv_at hl 12 rfl) ?_
              refine lv_bipush (v := 8) hx hb dL_chart_586 (by decide) ?_
              refine lv_iload hx hb dL_chart_588 (lv_at hl 17 rfl) ?_
              refine lv_imul hx hb dL_chart_590 ?_
              refine lv_iload hx hb dL_chart_591 (lv_at hl 20 rfl) ?_
              refine lv_iadd hx hb dL_chart_593 ?_
              obtain ⟨g113, h⟩ := grd_s h
              refine g_iald hx hb hK hW 12 rfl g113 dL_chart_594 ?_
              refine lv_iconst (v := (-1)) hx hb dL_chart_595 (by decide) ?_
              replace hW := hW.perm pf13
              replace hW := hW.perm pf13
              replace hW := hW.perm pf13
              replace hW := hW.perm pf13
              replace hW := hW.perm pf13
              replace hW := hW.perm pf13
              replace hW := hW.perm pf13
              replace hW := hW.perm pf13
              replace hW := hW.perm pf8
              obtain ⟨x_c114, x_e115, x_j116, x_a117, x_b118, x_m119, q120, h⟩ := bnd6_s h
              obtain ⟨gN121, h⟩ := grd_s h
              have gN121 := of_decide_eq_true gN121
              refine cs_L_55 hx hb hml hown hts hK hN hE hC hA hW (c_L_tries l D T A a_c a_g a_q a_n a_e a_j a_a a_b a_m (oA T 24 a_w x_w ++ (oA T 2 a_u x_u ++ (oA T 6 a_x x_x ++ (oA T 6 a_l x_l ++ (oA T 12 a_v x_v ++ Z))))) x_c_495 x_g x_q x_n x_e_495 x_j_495 x_a_495 x_b_495 x_m_495 v17_495 v20_495 (x_b_495 ((8 * v17_495) + v21_495).toNatClampNeg) (-1) x_c114 x_e115 x_j116 x_a117 x_b118 x_m119 q120) ⟨Nat.le_of_ble_eq_true rfl, Nat.le_of_ble_eq_true rfl⟩ hl.1 rfl (Nat.le_of_ble_eq_true rfl) dL_chart_596 (hfB gN121) rfl (fun H locs hW => ?_)
              replace hW := hW.perm pf8
              replace hW := hW.perm pf8
              replace hW := hW.perm pf8
              replace hW := hW.perm pf8
              replace hW := hW.perm pf8
              replace hW := hW.perm pf8
              replace hW := hW.perm pf8
              replace hW := hW.perm pf8
              replace hW := hW.perm pf13
              replace hW := hW.perm pf13
              replace hW := hW.perm pf13
              replace hW := hW.perm pf13
              replace hW := hW.perm pf13
              replace hW := hW.perm pf13
              obtain ⟨w21_122, ew21_122⟩ : ∃ y : Int32, y = v21_495 + 1 := ⟨_, rfl⟩
              replace h := lb_at ew21_122 h
              refine lv_iinc (v := w21_122) (lv' := [(21, .int w21_122), (0, .ref a_c), (1, .ref a_w), (2, .ref a_u), (3, .ref a_x), (4, .ref a_l), (5, .ref a_v), (6, .ref a_g), (7, .ref a_q), (8, .ref a_n), (9, .ref a_e), (10, .ref a_j), (11, .ref a_a), (12, .ref a_b), (13, .ref a_m), (14, .int v14_495), (15, .int v15_495), (16, .int v16_495), (17, .int v17_495), (19, .int v19_495), (20, .int v20_495)]) hx hb dL_chart_599 hl (k := 20) rfl (by rw [ew21_122]; rfl) (by decide) rfl (fun ls hl => ?_)
              refine lv_goto (tgt := 495) hx hb dL_chart_602 (by decide) ?_
              exact ih _ _ _ _ _ _ _ _ _ _ _ _ _ _ gN121 H locs ls _ _ _ _ _ _ _ _ hW (lv_sub hl [1, 2, 3, 4, 5, 6, 7, 8, 9, 10, 11, 12, 13, 14, 15, 16, 17, 18, 19, 20, 0] rfl) h k1
  have L473 : ∀ (n : Nat) (x_c_473 : Nat → Int32) (x_e_473 : Nat → Int32) (x_j_473 : Nat → Int32) (x_a_473 : Nat → Int32) (x_b_473 : Nat → Int32) (x_m_473 : Nat → Int32) (x_N_473 : Nat) (v14_473 : Int32) (v15_473 : Int32) (v16_473 : Int32) (v17_473 : Int32) (v19_473 : Int32) (hN_473 : x_N_473 ≤ 4000) (H : Heap) (locs : List Loc) (ls : Array Slot) (o19_473r : Int32) (y_c_473r : Nat → Int32) (y_e_473r : Nat → Int32) (y_j_473r : Nat → Int32) (y_a_473r : Nat → Int32) (y_b_473r : Nat → Int32) (y_m_473r : Nat → Int32) (y_N_473r : Nat), Wd D A s.heap (oA T 12 a_c x_c_473 ++ (oA T 24 a_w x_w ++ (oA T 2 a_u x_u ++ (oA T 6 a_x x_x ++ (oA T 6 a_l x_l ++ (oA T 12 a_v x_v ++ (oA T 20 a_g x_g ++ (oA T 60 a_q x_q ++ (oA T 5 a_n x_n ++ (oA T 64 a_e x_e_473 ++ (oA T 64 a_j x_j_473 ++ (oA T 64 a_a x_a_473 ++ (oA T 48 a_b x_b_473 ++ (oA T 6 a_m x_m_473 ++ Z)))))))))))))) H locs → lv_has ls 26 [(0, .ref a_c), (1, .ref a_w), (2, .ref a_u), (3, .ref a_x), (4, .ref a_l), (5, .ref a_v), (6, .ref a_g), (7, .ref a_q), (8, .ref a_n), (9, .ref a_e), (10, .ref a_j), (11, .ref a_a), (12, .ref a_b), (13, .ref a_m), (14, .int v14_473), (15, .int v15_473), (16, .int v16_473), (17, .int v17_473), (19, .int v19_473)] → f_L_chart_L473 n x_c_473 x_w x_u x_x x_l x_v x_g x_q x_n x_e_473 x_j_473 x_a_473 x_b_473 x_m_473 x_N_473 v14_473 v15_473 v16_473 v17_473 v19_473 = some (o19_473r, y_c_473r, y_e_473r, y_j_473r, y_a_473r, y_b_473r, y_m_473r, y_N_473r) → (∀ (H : Heap) (locs : List Loc) (ls : Array Slot), Wd D A s.heap (oA T 12 a_c y_c_473r ++ (oA T 24 a_w x_w ++ (oA T 2 a_u x_u ++ (oA T 6 a_x x_x ++ (oA T 6 a_l x_l ++ (oA T 12 a_v x_v ++ (oA T 20 a_g x_g ++ (oA T 60 a_q x_q ++ (oA T 5 a_n x_n ++ (oA T 64 a_e y_e_473r ++ (oA T 64 a_j y_j_473r ++ (oA T 64 a_a y_a_473r ++ (oA T 48 a_b y_b_473r ++ (oA T 6 a_m y_m_473r ++ Z)))))))))))))) H locs → lv_has ls 26 [(0, .ref a_c), (1, .ref a_w), (2, .ref a_u), (3, .ref a_x), (4, .ref a_l), (5, .ref a_v), (6, .ref a_g), (7, .ref a_q), (8, .ref a_n), (9, .ref a_e), (10, .ref a_j), (11, .ref a_a), (12, .ref a_b), (13, .ref a_m), (14, .int v14_473), (15, .int v15_473), (16, .int v16_473)] → W p l e (rmL 3 4000) s m args below meth c H locs y_N_473r (16 * y_N_473r) Q (F0 m 611 ls [])) → W p l e (rmL 3 4000) s m args below meth c H locs x_N_473 (16 * x_N_473) Q (F0 m 473 ls []) := by
    intro n
    induction n with
    | zero =>
      intro x_c_473 x_e_473 x_j_473 x_a_473 x_b_473 x_m_473 x_N_473 v14_473 v15_473 v16_473 v17_473 v19_473 hN_473 H locs ls o19_473r y_c_473r y_e_473r y_j_473r y_a_473r y_b_473r y_m_473r y_N_473r hW hl h k1
      rw [f_L_chart_L473] at h
      cases h
    | succ n ih =>
      intro x_c_473 x_e_473 x_j_473 x_a_473 x_b_473 x_m_473 x_N_473 v14_473 v15_473 v16_473 v17_473 v19_473 hN_473 H locs ls o19_473r y_c_473r y_e_473r y_j_473r y_a_473r y_b_473r y_m_473r y_N_473r hW hl h k1
      rw [f_L_chart_L473] at h
      refine lv_iload hx hb dL_chart_473 (lv_at hl 18 rfl) ?_
      refine lv_bipush (v := 10) hx hb dL_chart_475 (by decide) ?_
      refine lv_aload_n hx hb dL_chart_477 rfl (lv_at hl 0 rfl) ?_
      refine lv_iconst (v := 2) hx hb dL_chart_478 (by decide) ?_
      refine g_iald hx hb hK hW 0 rfl (by decide) dL_chart_479 ?_
      refine lv_imul hx hb dL_chart_480 ?_
      refine lv_icmp_ge (tgt := 611) hx hb dL_chart_481 (by decide) (fun c98 => ?_) (fun c98 => ?_)
      · replace h := ite_t c98 h
        obtain ⟨rfl, rfl, rfl, rfl, rfl, rfl, rfl, rfl⟩ := ret8 h
        exact k1 H locs ls hW (lv_sub hl [0, 1, 2, 3, 4, 5, 6, 7, 8, 9, 10, 11, 12, 13, 14, 15, 16] rfl)
      · replace h := ite_f c98 h
        refine lv_iload hx hb dL_chart_484 (lv_at hl 18 rfl) ?_
        refine lv_aload_n hx hb dL_chart_486 rfl (lv_at hl 0 rfl) ?_
        refine lv_iconst (v := 2) hx hb dL_chart_487 (by decide) ?_
        refine g_iald hx hb hK hW 0 rfl (by decide) dL_chart_488 ?_
        obtain ⟨g99, h⟩ := grd_s h
        refine lv_irem hx hb dL_chart_489 (nz_ne g99) ?_
        refine lv_topi (fun w20_100 ew20_100 => ?_)
        replace h := lb_at ew20_100 h
        refine lv_istore (lv' := [(20, .int w20_100), (0, .ref a_c), (1, .ref a_w), (2, .ref a_u), (3, .ref a_x), (4, .ref a_l), (5, .ref a_v), (6, .ref a_g), (7, .ref a_q), (8, .ref a_n), (9, .ref a_e), (10, .ref a_j), (11, .ref a_a), (12, .ref a_b), (13, .ref a_m), (14, .int v14_473), (15, .int v15_473), (16, .int v16_473), (17, .int v17_473), (19, .int v19_473)]) hx hb dL_chart_490 hl (by decide) rfl (fun ls hl => ?_)
        refine lv_iconst (v := 0) hx hb dL_chart_492 (by decide) ?_
        refine lv_istore (lv' := [(21, .int 0), (20, .int w20_100), (0, .ref a_c), (1, .ref a_w), (2, .ref a_u), (3, .ref a_x), (4, .ref a_l), (5, .ref a_v), (6, .ref a_g), (7, .ref a_q), (8, .ref a_n), (9, .ref a_e), (10, .ref a_j), (11, .ref a_a), (12, .ref a_b), (13, .ref a_m), (14, .int v14_473), (15, .int v15_473), (16, .int v16_473), (17, .int v17_473), (19, .int v19_473)]) hx hb dL_chart_493 hl (by decide) rfl (fun ls hl => ?_)
        obtain ⟨o21_u123, y_c_u123, y_e_u123, y_j_u123, y_a_u123, y_b_u123, y_m_u123, y_N_u123, q124, h⟩ := bnd8_s h
        obtain ⟨gN125, h⟩ := grd_s h
        have gN125 := of_decide_eq_true gN125
        refine L495 400 _ _ _ _ _ _ _ _ _ _ _ _ _ _ hN_473 H locs ls o21_u123 y_c_u123 y_e_u123 y_j_u123 y_a_u123 y_b_u123 y_m_u123 y_N_u123 hW (lv_sub hl [2, 3, 4, 5, 6, 7, 8, 9, 10, 11, 12, 13, 14, 15, 16, 17, 18, 19, 20, 1, 0] rfl) q124 (fun H locs ls hW hl => ?_)
        obtain ⟨w19_126, ew19_126⟩ : ∃ y : Int32, y = v19_473 + 1 := ⟨_, rfl⟩
        replace h := lb_at ew19_126 h
        refine lv_iinc (v := w19_126) (lv' := [(19, .int w19_126), (0, .ref a_c), (1, .ref a_w), (2, .ref a_u), (3, .ref a_x), (4, .ref a_l), (5, .ref a_v), (6, .ref a_g), (7, .ref a_q), (8, .ref a_n), (9, .ref a_e), (10, .ref a_j), (11, .ref a_a), (12, .ref a_b), (13, .ref a_m), (14, .int v14_473), (15, .int v15_473), (16, .int v16_473), (17, .int v17_473)]) hx hb dL_chart_605 hl (k := 18) rfl (by rw [ew19_126]; rfl) (by decide) rfl (fun ls hl => ?_)
        refine lv_goto (tgt := 473) hx hb dL_chart_608 (by decide) ?_
        exact ih _ _ _ _ _ _ _ _ _ _ _ _ gN125 H locs ls _ _ _ _ _ _ _ _ hW (lv_sub hl [1, 2, 3, 4, 5, 6, 7, 8, 9, 10, 11, 12, 13, 14, 15, 16, 17, 18, 0] rfl) h k1
  have L50 : ∀ (n : Nat) (x_c_50 : Nat → Int32) (x_e_50 : Nat → Int32) (x_j_50 : Nat → Int32) (x_a_50 : Nat → Int32) (x_b_50 : Nat → Int32) (x_m_50 : Nat → Int32) (x_N_50 : Nat) (v14_50 : Int32) (v15_50 : Int32) (v16_50 : Int32) (hN_50 : x_N_50 ≤ 4000) (H : Heap) (locs : List Loc) (ls : Array Slot) (o16_50r : Int32) (y_c_50r : Nat → Int32) (y_e_50r : Nat → Int32) (y_j_50r : Nat → Int32) (y_a_50r : Nat → Int32) (y_b_50r : Nat → Int32) (y_m_50r : Nat → Int32) (y_N_50r : Nat), Wd D A s.heap (oA T 12 a_c x_c_50 ++ (oA T 24 a_w x_w ++ (oA T 2 a_u x_u ++ (oA T 6 a_x x_x ++ (oA T 6 a_l x_l ++ (oA T 12 a_v x_v ++ (oA T 20 a_g x_g ++ (oA T 60 a_q x_q ++ (oA T 5 a_n x_n ++ (oA T 64 a_e x_e_50 ++ (oA T 64 a_j x_j_50 ++ (oA T 64 a_a x_a_50 ++ (oA T 48 a_b x_b_50 ++ (oA T 6 a_m x_m_50 ++ Z)))))))))))))) H locs → lv_has ls 26 [(0, .ref a_c), (1, .ref a_w), (2, .ref a_u), (3, .ref a_x), (4, .ref a_l), (5, .ref a_v), (6, .ref a_g), (7, .ref a_q), (8, .ref a_n), (9, .ref a_e), (10, .ref a_j), (11, .ref a_a), (12, .ref a_b), (13, .ref a_m), (14, .int v14_50), (15, .int v15_50), (16, .int v16_50)] → f_L_chart_L50 n x_c_50 x_w x_u x_x x_l x_v x_g x_q x_n x_e_50 x_j_50 x_a_50 x_b_50 x_m_50 x_N_50 v14_50 v15_50 v16_50 = some (o16_50r, y_c_50r, y_e_50r, y_j_50r, y_a_50r, y_b_50r, y_m_50r, y_N_50r) → (∀ (H : Heap) (locs : List Loc) (ls : Array Slot), Wd D A s.heap (oA T 12 a_c y_c_50r ++ (oA T 24 a_w x_w ++ (oA T 2 a_u x_u ++ (oA T 6 a_x x_x ++ (oA T 6 a_l x_l ++ (oA T 12 a_v x_v ++ (oA T 20 a_g x_g ++ (oA T 60 a_q x_q ++ (oA T 5 a_n x_n ++ (oA T 64 a_e y_e_50r ++ (oA T 64 a_j y_j_50r ++ (oA T 64 a_a y_a_50r ++ (oA T 48 a_b y_b_50r ++ (oA T 6 a_m y_m_50r ++ Z)))))))))))))) H locs → lv_has ls 26 [(0, .ref a_c), (1, .ref a_w), (2, .ref a_u), (3, .ref a_x), (4, .ref a_l), (5, .ref a_v), (6, .ref a_g), (7, .ref a_q), (8, .ref a_n), (9, .ref a_e), (10, .ref a_j), (11, .ref a_a), (12, .ref a_b), (13, .ref a_m), (14, .int v14_50), (15, .int v15_50)] → W p l e (rmL 3 4000) s m args below meth c H locs y_N_50r (16 * y_N_50r) Q (F0 m 617 ls [])) → W p l e (rmL 3 4000) s m args below meth c H locs x_N_50 (16 * x_N_50) Q (F0 m 50 ls []) := by
    intro n
    induction n with
    | zero =>
      intro x_c_50 x_e_50 x_j_50 x_a_50 x_b_50 x_m_50 x_N_50 v14_50 v15_50 v16_50 hN_50 H locs ls o16_50r y_c_50r y_e_50r y_j_50r y_a_50r y_b_50r y_m_50r y_N_50r hW hl h k1
      rw [f_L_chart_L50] at h
      cases h
    | succ n ih =>
      intro x_c_50 x_e_50 x_j_50 x_a_50 x_b_50 x_m_50 x_N_50 v14_50 v15_50 v16_50 hN_50 H locs ls o16_50r y_c_50r y_e_50r y_j_50r y_a_50r y_b_50r y_m_50r y_N_50r hW hl h k1
      rw [f_L_chart_L50] at h
      refine lv_iload hx hb dL_chart_50 (lv_at hl 16 rfl) ?_
      refine lv_iload hx hb dL_chart_52 (lv_at hl 15 rfl) ?_
      refine lv_iadd hx hb dL_chart_54 ?_
      refine lv_aload_n hx hb dL_chart_55 rfl (lv_at hl 0 rfl) ?_
      refine lv_bipush (v := 8) hx hb dL_chart_56 (by decide) ?_
      refine lv_iload hx hb dL_chart_58 (lv_at hl 14 rfl) ?_
      refine lv_iadd hx hb dL_chart_60 ?_
      obtain ⟨g11, h⟩ := grd_s h
      refine g_iald hx hb hK hW 0 rfl g11 dL_chart_61 ?_
      refine lv_icmp_gt (tgt := 617) hx hb dL_chart_62 (by decide) (fun c12 => ?_) (fun c12 => ?_)
      · replace h := ite_t c12 h
        obtain ⟨rfl, rfl, rfl, rfl, rfl, rfl, rfl, rfl⟩ := ret8 h
        exact k1 H locs ls hW (lv_sub hl [0, 1, 2, 3, 4, 5, 6, 7, 8, 9, 10, 11, 12, 13, 14, 15] rfl)
      · replace h := ite_f c12 h
        refine lv_iload hx hb dL_chart_65 (lv_at hl 16 rfl) ?_
        refine lv_iload hx hb dL_chart_67 (lv_at hl 15 rfl) ?_
        obtain ⟨r13, q14, h⟩ := bnd1_s h
        refine cs_L_52 hx hb hml hown hts hK hN hE hC hA hW (c_L_span l D T A (oA T 12 a_c x_c_50 ++ (oA T 24 a_w x_w ++ (oA T 2 a_u x_u ++ (oA T 6 a_x x_x ++ (oA T 6 a_l x_l ++ (oA T 12 a_v x_v ++ (oA T 20 a_g x_g ++ (oA T 60 a_q x_q ++ (oA T 5 a_n x_n ++ (oA T 64 a_e x_e_50 ++ (oA T 64 a_j x_j_50 ++ (oA T 64 a_a x_a_50 ++ (oA T 48 a_b x_b_50 ++ (oA T 6 a_m x_m_50 ++ Z)))))))))))))) v16_50 v15_50 r13 q14) ⟨Nat.le_of_ble_eq_true rfl, Nat.le_of_ble_eq_true rfl⟩ hl.1 rfl (Nat.le_of_ble_eq_true rfl) dL_chart_69 (hf0 hN_50) rfl (fun H locs hW => ?_)
        refine lv_istore (lv' := [(17, .int r13), (0, .ref a_c), (1, .ref a_w), (2, .ref a_u), (3, .ref a_x), (4, .ref a_l), (5, .ref a_v), (6, .ref a_g), (7, .ref a_q), (8, .ref a_n), (9, .ref a_e), (10, .ref a_j), (11, .ref a_a), (12, .ref a_b), (13, .ref a_m), (14, .int v14_50), (15, .int v15_50), (16, .int v16_50)]) hx hb dL_chart_72 hl (by decide) rfl (fun ls hl => ?_)
        refine lv_iconst (v := 3) hx hb dL_chart_74 (by decide) ?_
        refine lv_iload hx hb dL_chart_75 (lv_at hl 15 rfl) ?_
        refine lv_imul hx hb dL_chart_77 ?_
        refine lv_iload hx hb dL_chart_78 (lv_at hl 17 rfl) ?_
        refine lv_iadd hx hb dL_chart_80 ?_
        refine lv_topi (fun w18_15 ew18_15 => ?_)
        replace h := lb_at ew18_15 h
        refine lv_istore (lv' := [(18, .int w18_15), (17, .int r13), (0, .ref a_c), (1, .ref a_w), (2, .ref a_u), (3, .ref a_x), (4, .ref a_l), (5, .ref a_v), (6, .ref a_g), (7, .ref a_q), (8, .ref a_n), (9, .ref a_e), (10, .ref a_j), (11, .ref a_a), (12, .ref a_b), (13, .ref a_m), (14, .int v14_50), (15, .int v15_50), (16, .int v16_50)]) hx hb dL_chart_81 hl (by decide) rfl (fun ls hl => ?_)
        refine lv_iconst (v := 0) hx hb dL_chart_83 (by decide) ?_
        refine lv_istore (lv' := [(19, .int 0), (18, .int w18_15), (17, .int r13), (0, .ref a_c), (1, .ref a_w), (2, .ref a_u), (3, .ref a_x), (4, .ref a_l), (5, .ref a_v), (6, .ref a_g), (7, .ref a_q), (8, .ref a_n), (9, .ref a_e), (10, .ref a_j), (11, .ref a_a), (12, .ref a_b), (13, .ref a_m), (14, .int v14_50), (15, .int v15_50), (16, .int v16_50)]) hx hb dL_chart_84 hl (by decide) rfl (fun ls hl => ?_)
        obtain ⟨o19_u50, y_c_u50, y_e_u50, y_j_u50, y_a_u50, y_b_u50, y_m_u50, q51, h⟩ := bnd7_s h
        refine L86 400 _ _ _ _ _ _ _ _ _ _ _ _ _ hN_50 H locs ls o19_u50 y_c_u50 y_e_u50 y_j_u50 y_a_u50 y_b_u50 y_m_u50 hW (lv_sub hl [3, 4, 5, 6, 7, 8, 9, 10, 11, 12, 13, 14, 15, 16, 17, 18, 19, 2, 1, 0] rfl) q51 (fun H locs ls hW hl => ?_)
        refine lv_iconst (v := 1) hx hb dL_chart_248 (by decide) ?_
        refine lv_istore (lv' := [(19, .int 1), (0, .ref a_c), (1, .ref a_w), (2, .ref a_u), (3, .ref a_x), (4, .ref a_l), (5, .ref a_v), (6, .ref a_g), (7, .ref a_q), (8, .ref a_n), (9, .ref a_e), (10, .ref a_j), (11, .ref a_a), (12, .ref a_b), (13, .ref a_m), (14, .int v14_50), (15, .int v15_50), (16, .int v16_50), (17, .int r13)]) hx hb dL_chart_249 hl (by decide) rfl (fun ls hl => ?_)
        obtain ⟨o19_u95, y_c_u95, y_e_u95, y_j_u95, y_a_u95, y_b_u95, y_m_u95, y_N_u95, q96, h⟩ := bnd8_s h
        obtain ⟨gN97, h⟩ := grd_s h
        have gN97 := of_decide_eq_true gN97
        refine L251 400 _ _ _ _ _ _ _ _ _ _ _ _ hN_50 H locs ls o19_u95 y_c_u95 y_e_u95 y_j_u95 y_a_u95 y_b_u95 y_m_u95 y_N_u95 hW (lv_sub hl [1, 2, 3, 4, 5, 6, 7, 8, 9, 10, 11, 12, 13, 14, 15, 16, 17, 18, 0] rfl) q96 (fun H locs ls hW hl => ?_)
        refine lv_iconst (v := 0) hx hb dL_chart_470 (by decide) ?_
        refine lv_istore (lv' := [(19, .int 0), (0, .ref a_c), (1, .ref a_w), (2, .ref a_u), (3, .ref a_x), (4, .ref a_l), (5, .ref a_v), (6, .ref a_g), (7, .ref a_q), (8, .ref a_n), (9, .ref a_e), (10, .ref a_j), (11, .ref a_a), (12, .ref a_b), (13, .ref a_m), (14, .int v14_50), (15, .int v15_50), (16, .int v16_50), (17, .int r13)]) hx hb dL_chart_471 hl (by decide) rfl (fun ls hl => ?_)
        obtain ⟨o19_u127, y_c_u127, y_e_u127, y_j_u127, y_a_u127, y_b_u127, y_m_u127, y_N_u127, q128, h⟩ := bnd8_s h
        obtain ⟨gN129, h⟩ := grd_s h
        have gN129 := of_decide_eq_true gN129
        refine L473 400 _ _ _ _ _ _ _ _ _ _ _ _ gN97 H locs ls o19_u127 y_c_u127 y_e_u127 y_j_u127 y_a_u127 y_b_u127 y_m_u127 y_N_u127 hW (lv_sub hl [1, 2, 3, 4, 5, 6, 7, 8, 9, 10, 11, 12, 13, 14, 15, 16, 17, 18, 0] rfl) q128 (fun H locs ls hW hl => ?_)
        obtain ⟨w16_130, ew16_130⟩ : ∃ y : Int32, y = v16_50 + 1 := ⟨_, rfl⟩
        replace h := lb_at ew16_130 h
        refine lv_iinc (v := w16_130) (lv' := [(16, .int w16_130), (0, .ref a_c), (1, .ref a_w), (2, .ref a_u), (3, .ref a_x), (4, .ref a_l), (5, .ref a_v), (6, .ref a_g), (7, .ref a_q), (8, .ref a_n), (9, .ref a_e), (10, .ref a_j), (11, .ref a_a), (12, .ref a_b), (13, .ref a_m), (14, .int v14_50), (15, .int v15_50)]) hx hb dL_chart_611 hl (k := 16) rfl (by rw [ew16_130]; rfl) (by decide) rfl (fun ls hl => ?_)
        refine lv_goto (tgt := 50) hx hb dL_chart_614 (by decide) ?_
        exact ih _ _ _ _ _ _ _ _ _ _ gN129 H locs ls _ _ _ _ _ _ _ _ hW (lv_sub hl [1, 2, 3, 4, 5, 6, 7, 8, 9, 10, 11, 12, 13, 14, 15, 16, 0] rfl) h k1
  have L35 : ∀ (n : Nat) (x_c_35 : Nat → Int32) (x_e_35 : Nat → Int32) (x_j_35 : Nat → Int32) (x_a_35 : Nat → Int32) (x_b_35 : Nat → Int32) (x_m_35 : Nat → Int32) (x_N_35 : Nat) (v14_35 : Int32) (v15_35 : Int32) (hN_35 : x_N_35 ≤ 4000) (H : Heap) (locs : List Loc) (ls : Array Slot) (o15_35r : Int32) (y_c_35r : Nat → Int32) (y_e_35r : Nat → Int32) (y_j_35r : Nat → Int32) (y_a_35r : Nat → Int32) (y_b_35r : Nat → Int32) (y_m_35r : Nat → Int32) (y_N_35r : Nat), Wd D A s.heap (oA T 12 a_c x_c_35 ++ (oA T 24 a_w x_w ++ (oA T 2 a_u x_u ++ (oA T 6 a_x x_x ++ (oA T 6 a_l x_l ++ (oA T 12 a_v x_v ++ (oA T 20 a_g x_g ++ (oA T 60 a_q x_q ++ (oA T 5 a_n x_n ++ (oA T 64 a_e x_e_35 ++ (oA T 64 a_j x_j_35 ++ (oA T 64 a_a x_a_35 ++ (oA T 48 a_b x_b_35 ++ (oA T 6 a_m x_m_35 ++ Z)))))))))))))) H locs → lv_has ls 26 [(0, .ref a_c), (1, .ref a_w), (2, .ref a_u), (3, .ref a_x), (4, .ref a_l), (5, .ref a_v), (6, .ref a_g), (7, .ref a_q), (8, .ref a_n), (9, .ref a_e), (10, .ref a_j), (11, .ref a_a), (12, .ref a_b), (13, .ref a_m), (14, .int v14_35), (15, .int v15_35)] → f_L_chart_L35 n x_c_35 x_w x_u x_x x_l x_v x_g x_q x_n x_e_35 x_j_35 x_a_35 x_b_35 x_m_35 x_N_35 v14_35 v15_35 = some (o15_35r, y_c_35r, y_e_35r, y_j_35r, y_a_35r, y_b_35r, y_m_35r, y_N_35r) → (∀ (H : Heap) (locs : List Loc) (ls : Array Slot), Wd D A s.heap (oA T 12 a_c y_c_35r ++ (oA T 24 a_w x_w ++ (oA T 2 a_u x_u ++ (oA T 6 a_x x_x ++ (oA T 6 a_l x_l ++ (oA T 12 a_v x_v ++ (oA T 20 a_g x_g ++ (oA T 60 a_q x_q ++ (oA T 5 a_n x_n ++ (oA T 64 a_e y_e_35r ++ (oA T 64 a_j y_j_35r ++ (oA T 64 a_a y_a_35r ++ (oA T 48 a_b y_b_35r ++ (oA T 6 a_m y_m_35r ++ Z)))))))))))))) H locs → lv_has ls 26 [] → W p l e (rmL 3 4000) s m args below meth c H locs y_N_35r (16 * y_N_35r) Q (F0 m 623 ls [])) → W p l e (rmL 3 4000) s m args below meth c H locs x_N_35 (16 * x_N_35) Q (F0 m 35 ls []) := by
    intro n
    induction n with
    | zero =>
      intro x_c_35 x_e_35 x_j_35 x_a_35 x_b_35 x_m_35 x_N_35 v14_35 v15_35 hN_35 H locs ls o15_35r y_c_35r y_e_35r y_j_35r y_a_35r y_b_35r y_m_35r y_N_35r hW hl h k1
      rw [f_L_chart_L35] at h
      cases h
    | succ n ih =>
      intro x_c_35 x_e_35 x_j_35 x_a_35 x_b_35 x_m_35 x_N_35 v14_35 v15_35 hN_35 H locs ls o15_35r y_c_35r y_e_35r y_j_35r y_a_35r y_b_35r y_m_35r y_N_35r hW hl h k1
      rw [f_L_chart_L35] at h
      refine lv_iload hx hb dL_chart_35 (lv_at hl 15 rfl) ?_
      refine lv_aload_n hx hb dL_chart_37 rfl (lv_at hl 0 rfl) ?_
      refine lv_bipush (v := 8) hx hb dL_chart_38 (by decide) ?_
      refine lv_iload hx hb dL_chart_40 (lv_at hl 14 rfl) ?_
      refine lv_iadd hx hb dL_chart_42 ?_
      obtain ⟨g9, h⟩ := grd_s h
      refine g_iald hx hb hK hW 0 rfl g9 dL_chart_43 ?_
      refine lv_icmp_gt (tgt := 623) hx hb dL_chart_44 (by decide) (fun c10 => ?_) (fun c10 => ?_)
      · replace h := ite_t c10 h
        obtain ⟨rfl, rfl, rfl, rfl, rfl, rfl, rfl, rfl⟩ := ret8 h
        exact k1 H locs ls hW (lv_sub hl [] rfl)
      · replace h := ite_f c10 h
        refine lv_iconst (v := 0) hx hb dL_chart_47 (by decide) ?_
        refine lv_istore (lv' := [(16, .int 0), (0, .ref a_c), (1, .ref a_w), (2, .ref a_u), (3, .ref a_x), (4, .ref a_l), (5, .ref a_v), (6, .ref a_g), (7, .ref a_q), (8, .ref a_n), (9, .ref a_e), (10, .ref a_j), (11, .ref a_a), (12, .ref a_b), (13, .ref a_m), (14, .int v14_35), (15, .int v15_35)]) hx hb dL_chart_48 hl (by decide) rfl (fun ls hl => ?_)
        obtain ⟨o16_u131, y_c_u131, y_e_u131, y_j_u131, y_a_u131, y_b_u131, y_m_u131, y_N_u131, q132, h⟩ := bnd8_s h
        obtain ⟨gN133, h⟩ := grd_s h
        have gN133 := of_decide_eq_true gN133
        refine L50 400 _ _ _ _ _ _ _ _ _ _ hN_35 H locs ls o16_u131 y_c_u131 y_e_u131 y_j_u131 y_a_u131 y_b_u131 y_m_u131 y_N_u131 hW (lv_sub hl [1, 2, 3, 4, 5, 6, 7, 8, 9, 10, 11, 12, 13, 14, 15, 16, 0] rfl) q132 (fun H locs ls hW hl => ?_)
        obtain ⟨w15_134, ew15_134⟩ : ∃ y : Int32, y = v15_35 + 1 := ⟨_, rfl⟩
        replace h := lb_at ew15_134 h
        refine lv_iinc (v := w15_134) (lv' := [(15, .int w15_134), (0, .ref a_c), (1, .ref a_w), (2, .ref a_u), (3, .ref a_x), (4, .ref a_l), (5, .ref a_v), (6, .ref a_g), (7, .ref a_q), (8, .ref a_n), (9, .ref a_e), (10, .ref a_j), (11, .ref a_a), (12, .ref a_b), (13, .ref a_m), (14, .int v14_35)]) hx hb dL_chart_617 hl (k := 15) rfl (by rw [ew15_134]; rfl) (by decide) rfl (fun ls hl => ?_)
        refine lv_goto (tgt := 35) hx hb dL_chart_620 (by decide) ?_
        exact ih _ _ _ _ _ _ _ _ _ gN133 H locs ls _ _ _ _ _ _ _ _ hW (lv_sub hl [1, 2, 3, 4, 5, 6, 7, 8, 9, 10, 11, 12, 13, 14, 15, 0] rfl) h k1
  refine lv_aload_n hx hb dL_chart_0 rfl (lv_at hl 0 rfl) ?_
  refine lv_bipush (v := 6) hx hb dL_chart_1 (by decide) ?_
  refine lv_iconst (v := 0) hx hb dL_chart_3 (by decide) ?_
  refine g_iast (ws9 := oA T 12 a_c (upd x_c (6 : Int32).toNatClampNeg 0) ++ (oA T 24 a_w x_w ++ (oA T 2 a_u x_u ++ (oA T 6 a_x x_x ++ (oA T 6 a_l x_l ++ (oA T 12 a_v x_v ++ (oA T 20 a_g x_g ++ (oA T 60 a_q x_q ++ (oA T 5 a_n x_n ++ (oA T 64 a_e x_e ++ (oA T 64 a_j x_j ++ (oA T 64 a_a x_a ++ (oA T 48 a_b x_b ++ (oA T 6 a_m x_m ++ Z)))))))))))))) hx hb hK hW 0 rfl (by decide) rfl dL_chart_4 (fun H locs hW => ?_)
  obtain ⟨x_c1, ex_c1⟩ : ∃ y : Nat → Int32, y = upd x_c (6 : Int32).toNatClampNeg 0 := ⟨_, rfl⟩
  rw [← ex_c1] at hW
  replace h := lb_at ex_c1 h
  refine lv_aload_n hx hb dL_chart_5 rfl (lv_at hl 0 rfl) ?_
  refine lv_bipush (v := 7) hx hb dL_chart_6 (by decide) ?_
  refine lv_iconst (v := 0) hx hb dL_chart_8 (by decide) ?_
  refine g_iast (ws9 := oA T 12 a_c (upd x_c1 (7 : Int32).toNatClampNeg 0) ++ (oA T 24 a_w x_w ++ (oA T 2 a_u x_u ++ (oA T 6 a_x x_x ++ (oA T 6 a_l x_l ++ (oA T 12 a_v x_v ++ (oA T 20 a_g x_g ++ (oA T 60 a_q x_q ++ (oA T 5 a_n x_n ++ (oA T 64 a_e x_e ++ (oA T 64 a_j x_j ++ (oA T 64 a_a x_a ++ (oA T 48 a_b x_b ++ (oA T 6 a_m x_m ++ Z)))))))))))))) hx hb hK hW 0 rfl (by decide) rfl dL_chart_9 (fun H locs hW => ?_)
  obtain ⟨x_c2, ex_c2⟩ : ∃ y : Nat → Int32, y = upd x_c1 (7 : Int32).toNatClampNeg 0 := ⟨_, rfl⟩
  rw [← ex_c2] at hW
  replace h := lb_at ex_c2 h
  refine lv_iconst (v := 0) hx hb dL_chart_10 (by decide) ?_
  refine lv_istore (lv' := [(15, .int 0), (0, .ref a_c), (1, .ref a_w), (2, .ref a_u), (3, .ref a_x), (4, .ref a_l), (5, .ref a_v), (6, .ref a_g), (7, .ref a_q), (8, .ref a_n), (9, .ref a_e), (10, .ref a_j), (11, .ref a_a), (12, .ref a_b), (13, .ref a_m), (14, .int p15)]) hx hb dL_chart_11 hl (by decide) rfl (fun ls hl => ?_)
  obtain ⟨o15_u7, y_m_u7, q8, h⟩ := bnd2_s h
  refine L13 400 _ _ _ _ _ _ _ _ _ (Nat.zero_le _) H locs ls o15_u7 y_m_u7 hW (lv_sub hl [1, 2, 3, 4, 5, 6, 7, 8, 9, 10, 11, 12, 13, 14, 15, 0] rfl) q8 (fun H locs ls hW hl => ?_)
  refine lv_iconst (v := 1) hx hb dL_chart_32 (by decide) ?_
  refine lv_istore (lv' := [(15, .int 1), (0, .ref a_c), (1, .ref a_w), (2, .ref a_u), (3, .ref a_x), (4, .ref a_l), (5, .ref a_v), (6, .ref a_g), (7, .ref a_q), (8, .ref a_n), (9, .ref a_e), (10, .ref a_j), (11, .ref a_a), (12, .ref a_b), (13, .ref a_m), (14, .int p15)]) hx hb dL_chart_33 hl (by decide) rfl (fun ls hl => ?_)
  obtain ⟨o15_u135, y_c_u135, y_e_u135, y_j_u135, y_a_u135, y_b_u135, y_m_u135, y_N_u135, q136, h⟩ := bnd8_s h
  obtain ⟨gN137, h⟩ := grd_s h
  have gN137 := of_decide_eq_true gN137
  refine L35 400 _ _ _ _ _ _ _ _ _ (Nat.zero_le _) H locs ls o15_u135 y_c_u135 y_e_u135 y_j_u135 y_a_u135 y_b_u135 y_m_u135 y_N_u135 hW (lv_sub hl [1, 2, 3, 4, 5, 6, 7, 8, 9, 10, 11, 12, 13, 14, 15, 0] rfl) q136 (fun H locs ls hW hl => ?_)
  obtain ⟨rfl, rfl, rfl, rfl, rfl, rfl⟩ := ret6 h
  rw [hQ]
  refine W.widen (k := 4000) (n := (16 * 4000)) gN137 (Nat.mul_le_mul_left 16 gN137) ?_
  exact g_retv hx hb hr hlk hW dL_chart_623
set_option maxHeartbeats 16000000 in
set_option maxRecDepth 100000 in
theorem c_L_reads (l : Launch) (D : va_G) (T : Nat → ClassId) (A : Nat → Prop) (a_c : Nat) (a_v : Nat) (a_h : Nat) (Z : va_W) (x_c : Nat → Int32) (x_v : Nat → Int32) (x_h : Nat → Int32) (p4 : Int32) (x_c9 : Nat → Int32) (x_h9 : Nat → Int32) (h : f_L_reads x_c x_v x_h p4 = some (x_c9, x_h9)) : Met l yL_reads (Cond.code yL_reads cL_reads 6 none :: wsL_law) (rmL 0 0) (Pl D T A (oA T 12 a_c x_c ++ (oA T 12 a_v x_v ++ (oA T 16 a_h x_h ++ Z))) [.ref a_c, .ref a_v, .ref a_h, .int p4]) (Qgv D A (oA T 12 a_c x_c9 ++ (oA T 12 a_v x_v ++ (oA T 16 a_h x_h9 ++ Z)))) 0 0 A := by
  refine Met.ofW (cc := cL_reads) (maxL := 6) (ret := none) (by decide +kernel) rfl ?_
  intro p e s m args below meth c s₁ B hml hv
  obtain ⟨ha, hP, hK, hD, hN, hE, hC, hA⟩ := hv
  have hx := B.exec
  have hb := B.bytes
  have hr := B.returns
  have hlk := B.notSynchronized
  have hts : ∀ w ∈ wsL_law, w.before args s = true := fun w hw => atoms_spec B.pre w (List.mem_cons_of_mem _ hw)
  have hown : s.vm.findClass RL = some m.cls := findClass_of_methodNamed B.named
  have hW : Wd D A s.heap (oA T 12 a_c x_c ++ (oA T 12 a_v x_v ++ (oA T 16 a_h x_h ++ Z))) s.heap [] := ⟨hP, hD, va_S.rf⟩
  have hl := lv_entry [.ref a_c, .ref a_v, .ref a_h, .int p4] (n := 6) (Nat.le_of_ble_eq_true rfl)
  refine W.eq (en_eq ha) ?_
  generalize (lg_sl [.ref a_c, .ref a_v, .ref a_h, .int p4] ++ List.replicate (6 - (lg_sl [.ref a_c, .ref a_v, .ref a_h, .int p4]).length) Slot.unset).toArray = ls at hl ⊢
  have hl : lv_has ls 6 [(0, .ref a_c), (1, .ref a_v), (2, .ref a_h), (3, .int p4)] := hl
  clear hP hD B ha
  obtain ⟨Q, hQ⟩ : ∃ Q, Q = MQ below (Qgv D A (oA T 12 a_c x_c9 ++ (oA T 12 a_v x_v ++ (oA T 16 a_h x_h9 ++ Z)))) args s 0 0 A := ⟨_, rfl⟩
  rw [← hQ]
  change W p l e (rmL 0 0) s m args below meth c s.heap [] 0 0 Q (F0 m 0 ls [])
  rw [f_L_reads] at h
  suffices hm : ∀ (H : Heap) (locs : List Loc), Wd D A s.heap (oA T 12 a_c x_c ++ (oA T 12 a_v x_v ++ (oA T 16 a_h x_h ++ Z))) H locs → W p l e (rmL 0 0) s m args below meth c H locs 0 0 Q (F0 m 0 ls []) from hm _ _ hW
  clear hW
  intro H locs hW
  have L41 : ∀ (n : Nat) (x_c_41 : Nat → Int32) (x_h_41 : Nat → Int32) (v3_41 : Int32) (v4_41 : Int32) (v5_41 : Int32) (H : Heap) (locs : List Loc) (ls : Array Slot) (o4_41r : Int32) (o5_41r : Int32), Wd D A s.heap (oA T 12 a_c x_c_41 ++ (oA T 12 a_v x_v ++ (oA T 16 a_h x_h_41 ++ Z))) H locs → lv_has ls 6 [(0, .ref a_c), (1, .ref a_v), (2, .ref a_h), (3, .int v3_41), (4, .int v4_41), (5, .int v5_41)] → f_L_reads_L41 n x_c_41 x_v x_h_41 v3_41 v4_41 v5_41 = some (o4_41r, o5_41r) → (∀ (H : Heap) (locs : List Loc) (ls : Array Slot), Wd D A s.heap (oA T 12 a_c x_c_41 ++ (oA T 12 a_v x_v ++ (oA T 16 a_h x_h_41 ++ Z))) H locs → lv_has ls 6 [(0, .ref a_c), (1, .ref a_v), (2, .ref a_h), (3, .int v3_41), (4, .int o4_41r)] → W p l e (rmL 0 0) s m args below meth c H locs 0 0 Q (F0 m 95 ls [])) → W p l e (rmL 0 0) s m args below meth c H locs 0 0 Q (F0 m 41 ls []) := by
    intro n
    induction n with
    | zero =>
      intro x_c_41 x_h_41 v3_41 v4_41 v5_41 H locs ls o4_41r o5_41r hW hl h k1
      rw [f_L_reads_L41] at h
      cases h
    | succ n ih =>
      intro x_c_41 x_h_41 v3_41 v4_41 v5_41 H locs ls o4_41r o5_41r hW hl h k1
      rw [f_L_reads_L41] at h
      refine lv_iload hx hb dL_reads_41 (lv_at hl 5 rfl) ?_
      refine lv_iconst (v := 2) hx hb dL_reads_43 (by decide) ?_
      refine lv_aload_n hx hb dL_reads_44 rfl (lv_at hl 0 rfl) ?_
      refine lv_bipush (v := 8) hx hb dL_reads_45 (by decide) ?_
      refine lv_iload_n hx hb dL_reads_47 rfl (lv_at hl 3 rfl) ?_
      refine lv_iadd hx hb dL_reads_48 ?_
      obtain ⟨g3, h⟩ := grd_s h
      refine g_iald hx hb hK hW 0 rfl g3 dL_reads_49 ?_
      refine lv_imul hx hb dL_reads_50 ?_
      refine lv_icmp_ge (tgt := 95) hx hb dL_reads_51 (by decide) (fun c4 => ?_) (fun c4 => ?_)
      · replace h := ite_t c4 h
        obtain ⟨rfl, rfl⟩ := ret2 h
        exact k1 H locs ls hW (lv_sub hl [0, 1, 2, 3, 4] rfl)
      · replace h := ite_f c4 h
        refine lv_iload hx hb dL_reads_54 (lv_at hl 4 rfl) ?_
        refine lv_if_ne (tgt := 82) hx hb dL_reads_56 (by decide) (fun c5 => ?_) (fun c5 => ?_)
        · replace h := ite_f c5 h
          refine lv_iconst (v := 1) hx hb dL_reads_82 (by decide) ?_
          refine lv_goto (tgt := 87) hx hb dL_reads_83 (by decide) ?_
          refine lv_istore (lv' := [(4, .int 1), (0, .ref a_c), (1, .ref a_v), (2, .ref a_h), (3, .int v3_41), (5, .int v5_41)]) hx hb dL_reads_87 hl (by decide) rfl (fun ls hl => ?_)
          obtain ⟨w5_6, ew5_6⟩ : ∃ y : Int32, y = v5_41 + 1 := ⟨_, rfl⟩
          replace h := lb_at ew5_6 h
          refine lv_iinc (v := w5_6) (lv' := [(5, .int w5_6), (4, .int 1), (0, .ref a_c), (1, .ref a_v), (2, .ref a_h), (3, .int v3_41)]) hx hb dL_reads_89 hl (k := 5) rfl (by rw [ew5_6]; rfl) (by decide) rfl (fun ls hl => ?_)
          refine lv_goto (tgt := 41) hx hb dL_reads_92 (by decide) ?_
          exact ih _ _ _ _ _ H locs ls _ _ hW (lv_sub hl [2, 3, 4, 5, 1, 0] rfl) h k1
        · replace h := ite_t c5 h
          refine lv_aload_n hx hb dL_reads_59 rfl (lv_at hl 2 rfl) ?_
          refine lv_bipush (v := 8) hx hb dL_reads_60 (by decide) ?_
          refine lv_iload_n hx hb dL_reads_62 rfl (lv_at hl 3 rfl) ?_
          refine lv_imul hx hb dL_reads_63 ?_
          refine lv_iconst (v := 2) hx hb dL_reads_64 (by decide) ?_
          refine lv_iadd hx hb dL_reads_65 ?_
          refine lv_iload hx hb dL_reads_66 (lv_at hl 5 rfl) ?_
          refine lv_iadd hx hb dL_reads_68 ?_
          obtain ⟨g7, h⟩ := grd_s h
          refine g_iald hx hb hK hW 2 rfl g7 dL_reads_69 ?_
          refine lv_aload_n hx hb dL_reads_70 rfl (lv_at hl 1 rfl) ?_
          refine lv_bipush (v := 6) hx hb dL_reads_71 (by decide) ?_
          refine lv_iload_n hx hb dL_reads_73 rfl (lv_at hl 3 rfl) ?_
          refine lv_imul hx hb dL_reads_74 ?_
          refine lv_iload hx hb dL_reads_75 (lv_at hl 5 rfl) ?_
          refine lv_iadd hx hb dL_reads_77 ?_
          obtain ⟨g8, h⟩ := grd_s h
          refine g_iald hx hb hK hW 1 rfl g8 dL_reads_78 ?_
          refine lv_icmp_eq (tgt := 86) hx hb dL_reads_79 (by decide) (fun c9 => ?_) (fun c9 => ?_)
          · replace h := ite_t c9 h
            refine lv_iconst (v := 0) hx hb dL_reads_86 (by decide) ?_
            refine lv_istore (lv' := [(4, .int 0), (0, .ref a_c), (1, .ref a_v), (2, .ref a_h), (3, .int v3_41), (5, .int v5_41)]) hx hb dL_reads_87 hl (by decide) rfl (fun ls hl => ?_)
            obtain ⟨w5_10, ew5_10⟩ : ∃ y : Int32, y = v5_41 + 1 := ⟨_, rfl⟩
            replace h := lb_at ew5_10 h
            refine lv_iinc (v := w5_10) (lv' := [(5, .int w5_10), (4, .int 0), (0, .ref a_c), (1, .ref a_v), (2, .ref a_h), (3, .int v3_41)]) hx hb dL_reads_89 hl (k := 5) rfl (by rw [ew5_10]; rfl) (by decide) rfl (fun ls hl => ?_)
            refine lv_goto (tgt := 41) hx hb dL_reads_92 (by decide) ?_
            exact ih _ _ _ _ _ H locs ls _ _ hW (lv_sub hl [2, 3, 4, 5, 1, 0] rfl) h k1
          · replace h := ite_f c9 h
            refine lv_iconst (v := 1) hx hb dL_reads_82 (by decide) ?_
            refine lv_goto (tgt := 87) hx hb dL_reads_83 (by decide) ?_
            refine lv_istore (lv' := [(4, .int 1), (0, .ref a_c), (1, .ref a_v), (2, .ref a_h), (3, .int v3_41), (5, .int v5_41)]) hx hb dL_reads_87 hl (by decide) rfl (fun ls hl => ?_)
            obtain ⟨w5_11, ew5_11⟩ : ∃ y : Int32, y = v5_41 + 1 := ⟨_, rfl⟩
            replace h := lb_at ew5_11 h
            refine lv_iinc (v := w5_11) (lv' := [(5, .int w5_11), (4, .int 1), (0, .ref a_c), (1, .ref a_v), (2, .ref a_h), (3, .int v3_41)]) hx hb dL_reads_89 hl (k := 5) rfl (by rw [ew5_11]; rfl) (by decide) rfl (fun ls hl => ?_)
            refine lv_goto (tgt := 41) hx hb dL_reads_92 (by decide) ?_
            exact ih _ _ _ _ _ H locs ls _ _ hW (lv_sub hl [2, 3, 4, 5, 1, 0] rfl) h k1
  have L139 : ∀ (n : Nat) (x_c_139 : Nat → Int32) (x_h_139 : Nat → Int32) (v3_139 : Int32) (v5_139 : Int32) (H : Heap) (locs : List Loc) (ls : Array Slot) (o5_139r : Int32) (y_h_139r : Nat → Int32), Wd D A s.heap (oA T 12 a_c x_c_139 ++ (oA T 12 a_v x_v ++ (oA T 16 a_h x_h_139 ++ Z))) H locs → lv_has ls 6 [(0, .ref a_c), (1, .ref a_v), (2, .ref a_h), (3, .int v3_139), (5, .int v5_139)] → f_L_reads_L139 n x_c_139 x_v x_h_139 v3_139 v5_139 = some (o5_139r, y_h_139r) → (∀ (H : Heap) (locs : List Loc) (ls : Array Slot), Wd D A s.heap (oA T 12 a_c x_c_139 ++ (oA T 12 a_v x_v ++ (oA T 16 a_h y_h_139r ++ Z))) H locs → lv_has ls 6 [] → W p l e (rmL 0 0) s m args below meth c H locs 0 0 Q (F0 m 178 ls [])) → W p l e (rmL 0 0) s m args below meth c H locs 0 0 Q (F0 m 139 ls []) := by
    intro n
    induction n with
    | zero =>
      intro x_c_139 x_h_139 v3_139 v5_139 H locs ls o5_139r y_h_139r hW hl h k1
      rw [f_L_reads_L139] at h
      cases h
    | succ n ih =>
      intro x_c_139 x_h_139 v3_139 v5_139 H locs ls o5_139r y_h_139r hW hl h k1
      rw [f_L_reads_L139] at h
      refine lv_iload hx hb dL_reads_139 (lv_at hl 4 rfl) ?_
      refine lv_iconst (v := 2) hx hb dL_reads_141 (by decide) ?_
      refine lv_aload_n hx hb dL_reads_142 rfl (lv_at hl 0 rfl) ?_
      refine lv_bipush (v := 8) hx hb dL_reads_143 (by decide) ?_
      refine lv_iload_n hx hb dL_reads_145 rfl (lv_at hl 3 rfl) ?_
      refine lv_iadd hx hb dL_reads_146 ?_
      obtain ⟨g22, h⟩ := grd_s h
      refine g_iald hx hb hK hW 0 rfl g22 dL_reads_147 ?_
      refine lv_imul hx hb dL_reads_148 ?_
      refine lv_icmp_ge (tgt := 178) hx hb dL_reads_149 (by decide) (fun c23 => ?_) (fun c23 => ?_)
      · replace h := ite_t c23 h
        obtain ⟨rfl, rfl⟩ := ret2 h
        exact k1 H locs ls hW (lv_sub hl [] rfl)
      · replace h := ite_f c23 h
        refine lv_aload_n hx hb dL_reads_152 rfl (lv_at hl 2 rfl) ?_
        refine lv_bipush (v := 8) hx hb dL_reads_153 (by decide) ?_
        refine lv_iload_n hx hb dL_reads_155 rfl (lv_at hl 3 rfl) ?_
        refine lv_imul hx hb dL_reads_156 ?_
        refine lv_iconst (v := 2) hx hb dL_reads_157 (by decide) ?_
        refine lv_iadd hx hb dL_reads_158 ?_
        refine lv_iload hx hb dL_reads_159 (lv_at hl 4 rfl) ?_
        refine lv_iadd hx hb dL_reads_161 ?_
        refine lv_aload_n hx hb dL_reads_162 rfl (lv_at hl 1 rfl) ?_
        refine lv_bipush (v := 6) hx hb dL_reads_163 (by decide) ?_
        refine lv_iload_n hx hb dL_reads_165 rfl (lv_at hl 3 rfl) ?_
        refine lv_imul hx hb dL_reads_166 ?_
        refine lv_iload hx hb dL_reads_167 (lv_at hl 4 rfl) ?_
        refine lv_iadd hx hb dL_reads_169 ?_
        obtain ⟨g24, h⟩ := grd_s h
        refine g_iald hx hb hK hW 1 rfl g24 dL_reads_170 ?_
        obtain ⟨g25, h⟩ := grd_s h
        refine g_iast (ws9 := oA T 12 a_c x_c_139 ++ (oA T 12 a_v x_v ++ (oA T 16 a_h (upd x_h_139 (((8 * v3_139) + 2) + v5_139).toNatClampNeg (x_v ((6 * v3_139) + v5_139).toNatClampNeg)) ++ Z))) hx hb hK hW 2 rfl g25 rfl dL_reads_171 (fun H locs hW => ?_)
        obtain ⟨x_h26, ex_h26⟩ : ∃ y : Nat → Int32, y = upd x_h_139 (((8 * v3_139) + 2) + v5_139).toNatClampNeg (x_v ((6 * v3_139) + v5_139).toNatClampNeg) := ⟨_, rfl⟩
        rw [← ex_h26] at hW
        replace h := lb_at ex_h26 h
        obtain ⟨w5_27, ew5_27⟩ : ∃ y : Int32, y = v5_139 + 1 := ⟨_, rfl⟩
        replace h := lb_at ew5_27 h
        refine lv_iinc (v := w5_27) (lv' := [(5, .int w5_27), (0, .ref a_c), (1, .ref a_v), (2, .ref a_h), (3, .int v3_139)]) hx hb dL_reads_172 hl (k := 4) rfl (by rw [ew5_27]; rfl) (by decide) rfl (fun ls hl => ?_)
        refine lv_goto (tgt := 139) hx hb dL_reads_175 (by decide) ?_
        exact ih _ _ _ _ H locs ls _ _ hW (lv_sub hl [1, 2, 3, 4, 0] rfl) h k1
  have J109 : ∀ (x_c_109 : Nat → Int32) (x_h_109 : Nat → Int32) (v3_109 : Int32) (s1_109 : Int32) (s2_109 : Int32) (s3_109 : Int32) (H : Heap) (locs : List Loc) (ls : Array Slot), Wd D A s.heap (oA T 12 a_c x_c_109 ++ (oA T 12 a_v x_v ++ (oA T 16 a_h x_h_109 ++ Z))) H locs → lv_has ls 6 [(0, .ref a_c), (1, .ref a_v), (2, .ref a_h), (3, .int v3_109)] → f_L_reads_J109 x_c_109 x_v x_h_109 v3_109 s1_109 s2_109 s3_109 = some (x_c9, x_h9) → W p l e (rmL 0 0) s m args below meth c H locs 0 0 Q (F0 m 109 ls [.int s3_109, .int s2_109, .int s1_109, .ref a_c]) := by
    intro x_c_109 x_h_109 v3_109 s1_109 s2_109 s3_109 H locs ls hW hl h
    rw [f_L_reads_J109] at h
    refine lv_iadd hx hb dL_reads_109 ?_
    obtain ⟨g15, h⟩ := grd_s h
    refine g_iast (ws9 := oA T 12 a_c (upd x_c_109 s1_109.toNatClampNeg (s2_109 + s3_109)) ++ (oA T 12 a_v x_v ++ (oA T 16 a_h x_h_109 ++ Z))) hx hb hK hW 0 rfl g15 rfl dL_reads_110 (fun H locs hW => ?_)
    obtain ⟨x_c16, ex_c16⟩ : ∃ y : Nat → Int32, y = upd x_c_109 s1_109.toNatClampNeg (s2_109 + s3_109) := ⟨_, rfl⟩
    rw [← ex_c16] at hW
    replace h := lb_at ex_c16 h
    refine lv_aload_n hx hb dL_reads_111 rfl (lv_at hl 2 rfl) ?_
    refine lv_bipush (v := 8) hx hb dL_reads_112 (by decide) ?_
    refine lv_iload_n hx hb dL_reads_114 rfl (lv_at hl 3 rfl) ?_
    refine lv_imul hx hb dL_reads_115 ?_
    refine lv_aload_n hx hb dL_reads_116 rfl (lv_at hl 0 rfl) ?_
    refine lv_iconst (v := 4) hx hb dL_reads_117 (by decide) ?_
    refine g_iald hx hb hK hW 0 rfl (by decide) dL_reads_118 ?_
    refine lv_iconst (v := 1) hx hb dL_reads_119 (by decide) ?_
    refine lv_iadd hx hb dL_reads_120 ?_
    obtain ⟨g17, h⟩ := grd_s h
    refine g_iast (ws9 := oA T 12 a_c x_c16 ++ (oA T 12 a_v x_v ++ (oA T 16 a_h (upd x_h_109 (8 * v3_109).toNatClampNeg ((x_c16 (4 : Int32).toNatClampNeg) + 1)) ++ Z))) hx hb hK hW 2 rfl g17 rfl dL_reads_121 (fun H locs hW => ?_)
    obtain ⟨x_h18, ex_h18⟩ : ∃ y : Nat → Int32, y = upd x_h_109 (8 * v3_109).toNatClampNeg ((x_c16 (4 : Int32).toNatClampNeg) + 1) := ⟨_, rfl⟩
    rw [← ex_h18] at hW
    replace h := lb_at ex_h18 h
    refine lv_aload_n hx hb dL_reads_122 rfl (lv_at hl 2 rfl) ?_
    refine lv_bipush (v := 8) hx hb dL_reads_123 (by decide) ?_
    refine lv_iload_n hx hb dL_reads_125 rfl (lv_at hl 3 rfl) ?_
    refine lv_imul hx hb dL_reads_126 ?_
    refine lv_iconst (v := 1) hx hb dL_reads_127 (by decide) ?_
    refine lv_iadd hx hb dL_reads_128 ?_
    refine lv_aload_n hx hb dL_reads_129 rfl (lv_at hl 0 rfl) ?_
    refine lv_bipush (v := 10) hx hb dL_reads_130 (by decide) ?_
    refine lv_iload_n hx hb dL_reads_132 rfl (lv_at hl 3 rfl) ?_
    refine lv_iadd hx hb dL_reads_133 ?_
    obtain ⟨g19, h⟩ := grd_s h
    refine g_iald hx hb hK hW 0 rfl g19 dL_reads_134 ?_
    obtain ⟨g20, h⟩ := grd_s h
    refine g_iast (ws9 := oA T 12 a_c x_c16 ++ (oA T 12 a_v x_v ++ (oA T 16 a_h (upd x_h18 ((8 * v3_109) + 1).toNatClampNeg (x_c16 (10 + v3_109).toNatClampNeg)) ++ Z))) hx hb hK hW 2 rfl g20 rfl dL_reads_135 (fun H locs hW => ?_)
    obtain ⟨x_h21, ex_h21⟩ : ∃ y : Nat → Int32, y = upd x_h18 ((8 * v3_109) + 1).toNatClampNeg (x_c16 (10 + v3_109).toNatClampNeg) := ⟨_, rfl⟩
    rw [← ex_h21] at hW
    replace h := lb_at ex_h21 h
    refine lv_iconst (v := 0) hx hb dL_reads_136 (by decide) ?_
    refine lv_istore (lv' := [(5, .int 0), (0, .ref a_c), (1, .ref a_v), (2, .ref a_h), (3, .int v3_109)]) hx hb dL_reads_137 hl (by decide) rfl (fun ls hl => ?_)
    obtain ⟨o5_u28, y_h_u28, q29, h⟩ := bnd2_s h
    refine L139 400 _ _ _ _ H locs ls o5_u28 y_h_u28 hW (lv_sub hl [1, 2, 3, 4, 0] rfl) q29 (fun H locs ls hW hl => ?_)
    obtain ⟨rfl, rfl⟩ := ret2 h
    rw [hQ]
    exact g_retv hx hb hr hlk hW dL_reads_178
  have J36 : ∀ (x_c_36 : Nat → Int32) (x_h_36 : Nat → Int32) (v3_36 : Int32) (s0_36 : Int32) (H : Heap) (locs : List Loc) (ls : Array Slot), Wd D A s.heap (oA T 12 a_c x_c_36 ++ (oA T 12 a_v x_v ++ (oA T 16 a_h x_h_36 ++ Z))) H locs → lv_has ls 6 [(0, .ref a_c), (1, .ref a_v), (2, .ref a_h), (3, .int v3_36)] → f_L_reads_J36 x_c_36 x_v x_h_36 v3_36 s0_36 = some (x_c9, x_h9) → W p l e (rmL 0 0) s m args below meth c H locs 0 0 Q (F0 m 36 ls [.int s0_36]) := by
    intro x_c_36 x_h_36 v3_36 s0_36 H locs ls hW hl h
    rw [f_L_reads_J36] at h
    refine lv_istore (lv' := [(4, .int s0_36), (0, .ref a_c), (1, .ref a_v), (2, .ref a_h), (3, .int v3_36)]) hx hb dL_reads_36 hl (by decide) rfl (fun ls hl => ?_)
    refine lv_iconst (v := 0) hx hb dL_reads_38 (by decide) ?_
    refine lv_istore (lv' := [(5, .int 0), (4, .int s0_36), (0, .ref a_c), (1, .ref a_v), (2, .ref a_h), (3, .int v3_36)]) hx hb dL_reads_39 hl (by decide) rfl (fun ls hl => ?_)
    obtain ⟨o4_u12, o5_u12, q13, h⟩ := bnd2_s h
    refine L41 400 _ _ _ _ _ H locs ls o4_u12 o5_u12 hW (lv_sub hl [2, 3, 4, 5, 1, 0] rfl) q13 (fun H locs ls hW hl => ?_)
    refine lv_aload_n hx hb dL_reads_95 rfl (lv_at hl 0 rfl) ?_
    refine lv_iconst (v := 5) hx hb dL_reads_96 (by decide) ?_
    refine lv_dup2_11 hx hb dL_reads_97 rfl rfl ?_
    refine g_iald hx hb hK hW 0 rfl (by decide) dL_reads_98 ?_
    refine lv_iload hx hb dL_reads_99 (lv_at hl 4 rfl) ?_
    refine lv_if_eq (tgt := 108) hx hb dL_reads_101 (by decide) (fun c14 => ?_) (fun c14 => ?_)
    · replace h := ite_t c14 h
      refine lv_iconst (v := 0) hx hb dL_reads_108 (by decide) ?_
      exact J109 _ _ _ _ _ _ H locs ls hW (lv_sub hl [0, 1, 2, 3] rfl) h
    · replace h := ite_f c14 h
      refine lv_iconst (v := 1) hx hb dL_reads_104 (by decide) ?_
      refine lv_goto (tgt := 109) hx hb dL_reads_105 (by decide) ?_
      exact J109 _ _ _ _ _ _ H locs ls hW (lv_sub hl [0, 1, 2, 3] rfl) h
  have J31 : ∀ (x_c_31 : Nat → Int32) (x_h_31 : Nat → Int32) (v3_31 : Int32) (H : Heap) (locs : List Loc) (ls : Array Slot), Wd D A s.heap (oA T 12 a_c x_c_31 ++ (oA T 12 a_v x_v ++ (oA T 16 a_h x_h_31 ++ Z))) H locs → lv_has ls 6 [(0, .ref a_c), (1, .ref a_v), (2, .ref a_h), (3, .int v3_31)] → f_L_reads_J31 x_c_31 x_v x_h_31 v3_31 = some (x_c9, x_h9) → W p l e (rmL 0 0) s m args below meth c H locs 0 0 Q (F0 m 31 ls []) := by
    intro x_c_31 x_h_31 v3_31 H locs ls hW hl h
    rw [f_L_reads_J31] at h
    refine lv_iconst (v := 1) hx hb dL_reads_31 (by decide) ?_
    refine lv_goto (tgt := 36) hx hb dL_reads_32 (by decide) ?_
    exact J36 _ _ _ _ H locs ls hW (lv_sub hl [0, 1, 2, 3] rfl) h
  refine lv_aload_n hx hb dL_reads_0 rfl (lv_at hl 2 rfl) ?_
  refine lv_bipush (v := 8) hx hb dL_reads_1 (by decide) ?_
  refine lv_iload_n hx hb dL_reads_3 rfl (lv_at hl 3 rfl) ?_
  refine lv_imul hx hb dL_reads_4 ?_
  obtain ⟨g1, h⟩ := grd_s h
  refine g_iald hx hb hK hW 2 rfl g1 dL_reads_5 ?_
  refine lv_aload_n hx hb dL_reads_6 rfl (lv_at hl 0 rfl) ?_
  refine lv_iconst (v := 4) hx hb dL_reads_7 (by decide) ?_
  refine g_iald hx hb hK hW 0 rfl (by decide) dL_reads_8 ?_
  refine lv_iconst (v := 1) hx hb dL_reads_9 (by decide) ?_
  refine lv_iadd hx hb dL_reads_10 ?_
  refine lv_icmp_ne (tgt := 31) hx hb dL_reads_11 (by decide) (fun c2 => ?_) (fun c2 => ?_)
  · replace h := ite_f c2 h
    exact J31 _ _ _ H locs ls hW (lv_sub hl [0, 1, 2, 3] rfl) h
  · replace h := ite_t c2 h
    refine lv_aload_n hx hb dL_reads_14 rfl (lv_at hl 2 rfl) ?_
    refine lv_bipush (v := 8) hx hb dL_reads_15 (by decide) ?_
    refine lv_iload_n hx hb dL_reads_17 rfl (lv_at hl 3 rfl) ?_
    refine lv_imul hx hb dL_reads_18 ?_
    refine lv_iconst (v := 1) hx hb dL_reads_19 (by decide) ?_
    refine lv_iadd hx hb dL_reads_20 ?_
    obtain ⟨g30, h⟩ := grd_s h
    refine g_iald hx hb hK hW 2 rfl g30 dL_reads_21 ?_
    refine lv_aload_n hx hb dL_reads_22 rfl (lv_at hl 0 rfl) ?_
    refine lv_bipush (v := 10) hx hb dL_reads_23 (by decide) ?_
    refine lv_iload_n hx hb dL_reads_25 rfl (lv_at hl 3 rfl) ?_
    refine lv_iadd hx hb dL_reads_26 ?_
    obtain ⟨g31, h⟩ := grd_s h
    refine g_iald hx hb hK hW 0 rfl g31 dL_reads_27 ?_
    refine lv_icmp_eq (tgt := 35) hx hb dL_reads_28 (by decide) (fun c32 => ?_) (fun c32 => ?_)
    · replace h := ite_t c32 h
      refine lv_iconst (v := 0) hx hb dL_reads_35 (by decide) ?_
      exact J36 _ _ _ _ H locs ls hW (lv_sub hl [0, 1, 2, 3] rfl) h
    · replace h := ite_f c32 h
      exact J31 _ _ _ H locs ls hW (lv_sub hl [0, 1, 2, 3] rfl) h
set_option maxHeartbeats 16000000 in
set_option maxRecDepth 100000 in
theorem c_L_whole (l : Launch) (D : va_G) (T : Nat → ClassId) (A : Nat → Prop) (a_c : Nat) (a_e : Nat) (a_j : Nat) (a_b : Nat) (a_m : Nat) (Z : va_W) (x_c : Nat → Int32) (x_e : Nat → Int32) (x_j : Nat → Int32) (x_b : Nat → Int32) (x_m : Nat → Int32) (p6 : Int32) (r : Int32) (h : f_L_whole x_c x_e x_j x_b x_m p6 = some r) : Met l yL_whole (Cond.code yL_whole cL_whole 10 (some .int) :: wsL_law) (rmL 1 0) (Pl D T A (oA T 12 a_c x_c ++ (oA T 64 a_e x_e ++ (oA T 64 a_j x_j ++ (oA T 48 a_b x_b ++ (oA T 6 a_m x_m ++ Z))))) [.ref a_c, .ref a_e, .ref a_j, .ref a_b, .ref a_m, .int p6]) (Qgi D A (oA T 12 a_c x_c ++ (oA T 64 a_e x_e ++ (oA T 64 a_j x_j ++ (oA T 48 a_b x_b ++ (oA T 6 a_m x_m ++ Z))))) r) 0 0 A := by
  refine Met.ofW (cc := cL_whole) (maxL := 10) (ret := (some .int)) (by decide +kernel) rfl ?_
  intro p e s m args below meth c s₁ B hml hv
  obtain ⟨ha, hP, hK, hD, hN, hE, hC, hA⟩ := hv
  have hx := B.exec
  have hb := B.bytes
  have hr := B.returns
  have hlk := B.notSynchronized
  have hts : ∀ w ∈ wsL_law, w.before args s = true := fun w hw => atoms_spec B.pre w (List.mem_cons_of_mem _ hw)
  have hown : s.vm.findClass RL = some m.cls := findClass_of_methodNamed B.named
  have hW : Wd D A s.heap (oA T 12 a_c x_c ++ (oA T 64 a_e x_e ++ (oA T 64 a_j x_j ++ (oA T 48 a_b x_b ++ (oA T 6 a_m x_m ++ Z))))) s.heap [] := ⟨hP, hD, va_S.rf⟩
  have hl := lv_entry [.ref a_c, .ref a_e, .ref a_j, .ref a_b, .ref a_m, .int p6] (n := 10) (Nat.le_of_ble_eq_true rfl)
  refine W.eq (en_eq ha) ?_
  generalize (lg_sl [.ref a_c, .ref a_e, .ref a_j, .ref a_b, .ref a_m, .int p6] ++ List.replicate (10 - (lg_sl [.ref a_c, .ref a_e, .ref a_j, .ref a_b, .ref a_m, .int p6]).length) Slot.unset).toArray = ls at hl ⊢
  have hl : lv_has ls 10 [(0, .ref a_c), (1, .ref a_e), (2, .ref a_j), (3, .ref a_b), (4, .ref a_m), (5, .int p6)] := hl
  clear hP hD B ha
  obtain ⟨Q, hQ⟩ : ∃ Q, Q = MQ below (Qgi D A (oA T 12 a_c x_c ++ (oA T 64 a_e x_e ++ (oA T 64 a_j x_j ++ (oA T 48 a_b x_b ++ (oA T 6 a_m x_m ++ Z))))) r) args s 0 0 A := ⟨_, rfl⟩
  rw [← hQ]
  change W p l e (rmL 1 0) s m args below meth c s.heap [] 0 0 Q (F0 m 0 ls [])
  rw [f_L_whole] at h
  suffices hm : ∀ (H : Heap) (locs : List Loc), Wd D A s.heap (oA T 12 a_c x_c ++ (oA T 64 a_e x_e ++ (oA T 64 a_j x_j ++ (oA T 48 a_b x_b ++ (oA T 6 a_m x_m ++ Z))))) H locs → W p l e (rmL 1 0) s m args below meth c H locs 0 0 Q (F0 m 0 ls []) from hm _ _ hW
  clear hW
  intro H locs hW
  have L19 : ∀ (n : Nat) (v5_19 : Int32) (v6_19 : Int32) (v7_19 : Int32) (v8_19 : Int32) (H : Heap) (locs : List Loc) (ls : Array Slot) (o6_19r : Int32) (o8_19r : Int32), Wd D A s.heap (oA T 12 a_c x_c ++ (oA T 64 a_e x_e ++ (oA T 64 a_j x_j ++ (oA T 48 a_b x_b ++ (oA T 6 a_m x_m ++ Z))))) H locs → lv_has ls 10 [(0, .ref a_c), (1, .ref a_e), (2, .ref a_j), (3, .ref a_b), (4, .ref a_m), (5, .int v5_19), (6, .int v6_19), (7, .int v7_19), (8, .int v8_19)] → f_L_whole_L19 n x_c x_e x_j x_b x_m v5_19 v6_19 v7_19 v8_19 = some (o6_19r, o8_19r) → (∀ (H : Heap) (locs : List Loc) (ls : Array Slot), Wd D A s.heap (oA T 12 a_c x_c ++ (oA T 64 a_e x_e ++ (oA T 64 a_j x_j ++ (oA T 48 a_b x_b ++ (oA T 6 a_m x_m ++ Z))))) H locs → lv_has ls 10 [(6, .int o6_19r)] → W p l e (rmL 1 0) s m args below meth c H locs 0 0 Q (F0 m 95 ls [])) → W p l e (rmL 1 0) s m args below meth c H locs 0 0 Q (F0 m 19 ls []) := by
    intro n
    induction n with
    | zero =>
      intro v5_19 v6_19 v7_19 v8_19 H locs ls o6_19r o8_19r hW hl h k1
      rw [f_L_whole_L19] at h
      cases h
    | succ n ih =>
      intro v5_19 v6_19 v7_19 v8_19 H locs ls o6_19r o8_19r hW hl h k1
      rw [f_L_whole_L19] at h
      refine lv_aload_n hx hb dL_whole_19 rfl (lv_at hl 0 rfl) ?_
      refine lv_bipush (v := 8) hx hb dL_whole_20 (by decide) ?_
      refine lv_iload hx hb dL_whole_22 (lv_at hl 5 rfl) ?_
      refine lv_iadd hx hb dL_whole_24 ?_
      obtain ⟨g4, h⟩ := grd_s h
      refine g_iald hx hb hK hW 0 rfl g4 dL_whole_25 ?_
      refine lv_if_le (tgt := 95) hx hb dL_whole_26 (by decide) (fun c5 => ?_) (fun c5 => ?_)
      · replace h := ite_t c5 h
        obtain ⟨rfl, rfl⟩ := ret2 h
        exact k1 H locs ls hW (lv_sub hl [6] rfl)
      · replace h := ite_f c5 h
        refine lv_iload hx hb dL_whole_29 (lv_at hl 8 rfl) ?_
        refine lv_aload hx hb dL_whole_31 (lv_at hl 4 rfl) ?_
        refine lv_iload hx hb dL_whole_33 (lv_at hl 7 rfl) ?_
        obtain ⟨g6, h⟩ := grd_s h
        refine g_iald hx hb hK hW 4 rfl g6 dL_whole_35 ?_
        refine lv_icmp_ge (tgt := 95) hx hb dL_whole_36 (by decide) (fun c7 => ?_) (fun c7 => ?_)
        · replace h := ite_t c7 h
          obtain ⟨rfl, rfl⟩ := ret2 h
          exact k1 H locs ls hW (lv_sub hl [6] rfl)
        · replace h := ite_f c7 h
          refine lv_aload_n hx hb dL_whole_39 rfl (lv_at hl 3 rfl) ?_
          refine lv_bipush (v := 8) hx hb dL_whole_40 (by decide) ?_
          refine lv_iload hx hb dL_whole_42 (lv_at hl 7 rfl) ?_
          refine lv_imul hx hb dL_whole_44 ?_
          refine lv_iload hx hb dL_whole_45 (lv_at hl 8 rfl) ?_
          refine lv_iadd hx hb dL_whole_47 ?_
          obtain ⟨g8, h⟩ := grd_s h
          refine g_iald hx hb hK hW 3 rfl g8 dL_whole_48 ?_
          refine lv_topi (fun w9_9 ew9_9 => ?_)
          replace h := lb_at ew9_9 h
          refine lv_istore (lv' := [(9, .int w9_9), (0, .ref a_c), (1, .ref a_e), (2, .ref a_j), (3, .ref a_b), (4, .ref a_m), (5, .int v5_19), (6, .int v6_19), (7, .int v7_19), (8, .int v8_19)]) hx hb dL_whole_49 hl (by decide) rfl (fun ls hl => ?_)
          refine lv_aload_n hx hb dL_whole_51 rfl (lv_at hl 2 rfl) ?_
          refine lv_iload hx hb dL_whole_52 (lv_at hl 0 rfl) ?_
          obtain ⟨g10, h⟩ := grd_s h
          refine g_iald hx hb hK hW 1 rfl g10 dL_whole_54 ?_
          refine lv_sipush (v := 1000) hx hb dL_whole_55 (by decide) ?_
          refine lv_idiv hx hb dL_whole_58 (by decide) ?_
          refine lv_bipush (v := 9) hx hb dL_whole_59 (by decide) ?_
          refine lv_icmp_ne (tgt := 85) hx hb dL_whole_61 (by decide) (fun c11 => ?_) (fun c11 => ?_)
          · replace h := ite_f c11 h
            refine lv_iload hx hb dL_whole_85 (lv_at hl 7 rfl) ?_
            refine lv_istore (lv' := [(6, .int v6_19), (9, .int w9_9), (0, .ref a_c), (1, .ref a_e), (2, .ref a_j), (3, .ref a_b), (4, .ref a_m), (5, .int v5_19), (7, .int v7_19), (8, .int v8_19)]) hx hb dL_whole_87 hl (by decide) rfl (fun ls hl => ?_)
            obtain ⟨w8_12, ew8_12⟩ : ∃ y : Int32, y = v8_19 + 1 := ⟨_, rfl⟩
            replace h := lb_at ew8_12 h
            refine lv_iinc (v := w8_12) (lv' := [(8, .int w8_12), (6, .int v6_19), (9, .int w9_9), (0, .ref a_c), (1, .ref a_e), (2, .ref a_j), (3, .ref a_b), (4, .ref a_m), (5, .int v5_19), (7, .int v7_19)]) hx hb dL_whole_89 hl (k := 9) rfl (by rw [ew8_12]; rfl) (by decide) rfl (fun ls hl => ?_)
            refine lv_goto (tgt := 19) hx hb dL_whole_92 (by decide) ?_
            exact ih _ _ _ _ H locs ls _ _ hW (lv_sub hl [3, 4, 5, 6, 7, 8, 1, 9, 0] rfl) h k1
          · replace h := ite_t c11 h
            refine lv_iload hx hb dL_whole_64 (lv_at hl 7 rfl) ?_
            refine lv_if_lt (tgt := 80) hx hb dL_whole_66 (by decide) (fun c13 => ?_) (fun c13 => ?_)
            · replace h := ite_t c13 h
              refine lv_iload hx hb dL_whole_80 (lv_at hl 0 rfl) ?_
              refine lv_goto (tgt := 87) hx hb dL_whole_82 (by decide) ?_
              refine lv_istore (lv' := [(6, .int w9_9), (9, .int w9_9), (0, .ref a_c), (1, .ref a_e), (2, .ref a_j), (3, .ref a_b), (4, .ref a_m), (5, .int v5_19), (7, .int v7_19), (8, .int v8_19)]) hx hb dL_whole_87 hl (by decide) rfl (fun ls hl => ?_)
              obtain ⟨w8_14, ew8_14⟩ : ∃ y : Int32, y = v8_19 + 1 := ⟨_, rfl⟩
              replace h := lb_at ew8_14 h
              refine lv_iinc (v := w8_14) (lv' := [(8, .int w8_14), (6, .int w9_9), (9, .int w9_9), (0, .ref a_c), (1, .ref a_e), (2, .ref a_j), (3, .ref a_b), (4, .ref a_m), (5, .int v5_19), (7, .int v7_19)]) hx hb dL_whole_89 hl (k := 9) rfl (by rw [ew8_14]; rfl) (by decide) rfl (fun ls hl => ?_)
              refine lv_goto (tgt := 19) hx hb dL_whole_92 (by decide) ?_
              exact ih _ _ _ _ H locs ls _ _ hW (lv_sub hl [3, 4, 5, 6, 7, 8, 1, 9, 0] rfl) h k1
            · replace h := ite_f c13 h
              refine lv_aload_n hx hb dL_whole_69 rfl (lv_at hl 3 rfl) ?_
              refine lv_iload hx hb dL_whole_70 (lv_at hl 0 rfl) ?_
              obtain ⟨g15, h⟩ := grd_s h
              refine g_iald hx hb hK hW 2 rfl g15 dL_whole_72 ?_
              refine lv_aload_n hx hb dL_whole_73 rfl (lv_at hl 3 rfl) ?_
              refine lv_iload hx hb dL_whole_74 (lv_at hl 7 rfl) ?_
              obtain ⟨g16, h⟩ := grd_s h
              refine g_iald hx hb hK hW 2 rfl g16 dL_whole_76 ?_
              refine lv_icmp_ge (tgt := 85) hx hb dL_whole_77 (by decide) (fun c17 => ?_) (fun c17 => ?_)
              · replace h := ite_t c17 h
                refine lv_iload hx hb dL_whole_85 (lv_at hl 7 rfl) ?_
                refine lv_istore (lv' := [(6, .int v6_19), (9, .int w9_9), (0, .ref a_c), (1, .ref a_e), (2, .ref a_j), (3, .ref a_b), (4, .ref a_m), (5, .int v5_19), (7, .int v7_19), (8, .int v8_19)]) hx hb dL_whole_87 hl (by decide) rfl (fun ls hl => ?_)
                obtain ⟨w8_18, ew8_18⟩ : ∃ y : Int32, y = v8_19 + 1 := ⟨_, rfl⟩
                replace h := lb_at ew8_18 h
                refine lv_iinc (v := w8_18) (lv' := [(8, .int w8_18), (6, .int v6_19), (9, .int w9_9), (0, .ref a_c), (1, .ref a_e), (2, .ref a_j), (3, .ref a_b), (4, .ref a_m), (5, .int v5_19), (7, .int v7_19)]) hx hb dL_whole_89 hl (k := 9) rfl (by rw [ew8_18]; rfl) (by decide) rfl (fun ls hl => ?_)
                refine lv_goto (tgt := 19) hx hb dL_whole_92 (by decide) ?_
                exact ih _ _ _ _ H locs ls _ _ hW (lv_sub hl [3, 4, 5, 6, 7, 8, 1, 9, 0] rfl) h k1
              · replace h := ite_f c17 h
                refine lv_iload hx hb dL_whole_80 (lv_at hl 0 rfl) ?_
                refine lv_goto (tgt := 87) hx hb dL_whole_82 (by decide) ?_
                refine lv_istore (lv' := [(6, .int w9_9), (9, .int w9_9), (0, .ref a_c), (1, .ref a_e), (2, .ref a_j), (3, .ref a_b), (4, .ref a_m), (5, .int v5_19), (7, .int v7_19), (8, .int v8_19)]) hx hb dL_whole_87 hl (by decide) rfl (fun ls hl => ?_)
                obtain ⟨w8_19, ew8_19⟩ : ∃ y : Int32, y = v8_19 + 1 := ⟨_, rfl⟩
                replace h := lb_at ew8_19 h
                refine lv_iinc (v := w8_19) (lv' := [(8, .int w8_19), (6, .int w9_9), (9, .int w9_9), (0, .ref a_c), (1, .ref a_e), (2, .ref a_j), (3, .ref a_b), (4, .ref a_m), (5, .int v5_19), (7, .int v7_19)]) hx hb dL_whole_89 hl (k := 9) rfl (by rw [ew8_19]; rfl) (by decide) rfl (fun ls hl => ?_)
                refine lv_goto (tgt := 19) hx hb dL_whole_92 (by decide) ?_
                exact ih _ _ _ _ H locs ls _ _ hW (lv_sub hl [3, 4, 5, 6, 7, 8, 1, 9, 0] rfl) h k1
  refine lv_iconst (v := (-1)) hx hb dL_whole_0 (by decide) ?_
  refine lv_istore (lv' := [(6, .int (-1)), (0, .ref a_c), (1, .ref a_e), (2, .ref a_j), (3, .ref a_b), (4, .ref a_m), (5, .int p6)]) hx hb dL_whole_1 hl (by decide) rfl (fun ls hl => ?_)
  refine lv_iconst (v := 0) hx hb dL_whole_3 (by decide) ?_
  refine lv_aload_n hx hb dL_whole_4 rfl (lv_at hl 1 rfl) ?_
  refine lv_bipush (v := 8) hx hb dL_whole_5 (by decide) ?_
  refine lv_iload hx hb dL_whole_7 (lv_at hl 6 rfl) ?_
  refine lv_iadd hx hb dL_whole_9 ?_
  obtain ⟨g1, h⟩ := grd_s h
  refine g_iald hx hb hK hW 0 rfl g1 dL_whole_10 ?_
  obtain ⟨r2, q3, h⟩ := bnd1_s h
  refine cs_L_52 hx hb hml hown hts hK hN hE hC hA hW (c_L_span l D T A (oA T 12 a_c x_c ++ (oA T 64 a_e x_e ++ (oA T 64 a_j x_j ++ (oA T 48 a_b x_b ++ (oA T 6 a_m x_m ++ Z))))) 0 (x_c (8 + p6).toNatClampNeg) r2 q3) ⟨Nat.le_of_ble_eq_true rfl, Nat.le_of_ble_eq_true rfl⟩ hl.1 rfl (Nat.le_of_ble_eq_true rfl) dL_whole_11 (hf0 (Nat.zero_le _)) rfl (fun H locs hW => ?_)
  refine lv_istore (lv' := [(7, .int r2), (6, .int (-1)), (0, .ref a_c), (1, .ref a_e), (2, .ref a_j), (3, .ref a_b), (4, .ref a_m), (5, .int p6)]) hx hb dL_whole_14 hl (by decide) rfl (fun ls hl => ?_)
  refine lv_iconst (v := 0) hx hb dL_whole_16 (by decide) ?_
  refine lv_istore (lv' := [(8, .int 0), (7, .int r2), (6, .int (-1)), (0, .ref a_c), (1, .ref a_e), (2, .ref a_j), (3, .ref a_b), (4, .ref a_m), (5, .int p6)]) hx hb dL_whole_17 hl (by decide) rfl (fun ls hl => ?_)
  obtain ⟨o6_u20, o8_u20, q21, h⟩ := bnd2_s h
  refine L19 400 _ _ _ _ H locs ls o6_u20 o8_u20 hW (lv_sub hl [3, 4, 5, 6, 7, 8, 2, 1, 0] rfl) q21 (fun H locs ls hW hl => ?_)
  refine lv_iload hx hb dL_whole_95 (lv_at hl 0 rfl) ?_
  obtain rfl := ret1 h
  rw [hQ]
  exact g_reti hx hb hr hlk hW dL_whole_97
set_option maxHeartbeats 16000000 in
set_option maxRecDepth 100000 in
theorem c_L_faults (l : Launch) (D : va_G) (T : Nat → ClassId) (A : Nat → Prop) (a_g : Nat) (a_q : Nat) (a_n : Nat) (a_e : Nat) (a_j : Nat) (a_a : Nat) (a_z : Nat) (Z : va_W) (x_g : Nat → Int32) (x_q : Nat → Int32) (x_n : Nat → Int32) (x_e : Nat → Int32) (x_j : Nat → Int32) (x_a : Nat → Int32) (x_z : Nat → Int32) (p8 : Int32) (r : Int32) (x_z9 : Nat → Int32) (h : f_L_faults x_g x_q x_n x_e x_j x_a x_z p8 = some (r, x_z9)) : Met l yL_faults (Cond.code yL_faults cL_faults 17 (some .int) :: wsL_law) (rmL 2 500) (Pl D T A (oA T 20 a_g x_g ++ (oA T 60 a_q x_q ++ (oA T 5 a_n x_n ++ (oA T 64 a_e x_e ++ (oA T 64 a_j x_j ++ (oA T 64 a_a x_a ++ (oA T 64 a_z x_z ++ Z))))))) [.ref a_g, .ref a_q, .ref a_n, .ref a_e, .ref a_j, .ref a_a, .ref a_z, .int p8]) (Qgi D A (oA T 20 a_g x_g ++ (oA T 60 a_q x_q ++ (oA T 5 a_n x_n ++ (oA T 64 a_e x_e ++ (oA T 64 a_j x_j ++ (oA T 64 a_a x_a ++ (oA T 64 a_z x_z9 ++ Z))))))) r) 500 (16 * 500) A := by
  refine Met.ofW (cc := cL_faults) (maxL := 17) (ret := (some .int)) (by decide +kernel) rfl ?_
  intro p e s m args below meth c s₁ B hml hv
  obtain ⟨ha, hP, hK, hD, hN, hE, hC, hA⟩ := hv
  have hx := B.exec
  have hb := B.bytes
  have hr := B.returns
  have hlk := B.notSynchronized
  have hts : ∀ w ∈ wsL_law, w.before args s = true := fun w hw => atoms_spec B.pre w (List.mem_cons_of_mem _ hw)
  have hown : s.vm.findClass RL = some m.cls := findClass_of_methodNamed B.named
  have hW : Wd D A s.heap (oA T 20 a_g x_g ++ (oA T 60 a_q x_q ++ (oA T 5 a_n x_n ++ (oA T 64 a_e x_e ++ (oA T 64 a_j x_j ++ (oA T 64 a_a x_a ++ (oA T 64 a_z x_z ++ Z))))))) s.heap [] := ⟨hP, hD, va_S.rf⟩
  have hl := lv_entry [.ref a_g, .ref a_q, .ref a_n, .ref a_e, .ref a_j, .ref a_a, .ref a_z, .int p8] (n := 17) (Nat.le_of_ble_eq_true rfl)
  refine W.eq (en_eq ha) ?_
  generalize (lg_sl [.ref a_g, .ref a_q, .ref a_n, .ref a_e, .ref a_j, .ref a_a, .ref a_z, .int p8] ++ List.replicate (17 - (lg_sl [.ref a_g, .ref a_q, .ref a_n, .ref a_e, .ref a_j, .ref a_a, .ref a_z, .int p8]).length) Slot.unset).toArray = ls at hl ⊢
  have hl : lv_has ls 17 [(0, .ref a_g), (1, .ref a_q), (2, .ref a_n), (3, .ref a_e), (4, .ref a_j), (5, .ref a_a), (6, .ref a_z), (7, .int p8)] := hl
  clear hP hD B ha
  obtain ⟨Q, hQ⟩ : ∃ Q, Q = MQ below (Qgi D A (oA T 20 a_g x_g ++ (oA T 60 a_q x_q ++ (oA T 5 a_n x_n ++ (oA T 64 a_e x_e ++ (oA T 64 a_j x_j ++ (oA T 64 a_a x_a ++ (oA T 64 a_z x_z9 ++ Z))))))) r) args s 500 (16 * 500) A := ⟨_, rfl⟩
  rw [← hQ]
  change W p l e (rmL 2 500) s m args below meth c s.heap [] 0 (16 * 0) Q (F0 m 0 ls [])
  rw [f_L_faults] at h
  suffices hm : ∀ (H : Heap) (locs : List Loc), Wd D A s.heap (oA T 20 a_g x_g ++ (oA T 60 a_q x_q ++ (oA T 5 a_n x_n ++ (oA T 64 a_e x_e ++ (oA T 64 a_j x_j ++ (oA T 64 a_a x_a ++ (oA T 64 a_z x_z ++ Z))))))) H locs → W p l e (rmL 2 500) s m args below meth c H locs 0 (16 * 0) Q (F0 m 0 ls []) from hm _ _ hW
  clear hW
  intro H locs hW
  refine lv_bipush (v := 16) hx hb dL_faults_0 (by decide) ?_
  refine l_newa (b := 1) hx hb hts hK hA hW 16 (by decide) (by decide) (by decide) (by decide) (by decide) (hfB (Nat.le_of_ble_eq_true rfl)) dL_faults_2 (fun a_nw1 H hW => ?_)
  refine lv_astore (lv' := [(8, .ref a_nw1), (0, .ref a_g), (1, .ref a_q), (2, .ref a_n), (3, .ref a_e), (4, .ref a_j), (5, .ref a_a), (6, .ref a_z), (7, .int p8)]) hx hb dL_faults_4 hl (by decide) rfl (fun ls hl => ?_)
  obtain ⟨x_nw10, ex_nw10⟩ : ∃ y : Nat → Int32, y = (fun _ => 0) := ⟨_, rfl⟩
  replace h := lb_at ex_nw10 h
  have hW : Wd D A s.heap (oA T 16 a_nw1 x_nw10 ++ (oA T 20 a_g x_g ++ (oA T 60 a_q x_q ++ (oA T 5 a_n x_n ++ (oA T 64 a_e x_e ++ (oA T 64 a_j x_j ++ (oA T 64 a_a x_a ++ (oA T 64 a_z x_z ++ Z)))))))) H locs := by rw [ex_nw10]; exact hW
  have L109 : ∀ (n : Nat) (x_z_109 : Nat → Int32) (x_nw1_109 : Nat → Int32) (x_N_109 : Nat) (v9_109 : Int32) (v10_109 : Int32) (v12_109 : Int32) (v13_109 : Int32) (v14_109 : Int32) (v15_109 : Int32) (v16_109 : Int32) (hN_109 : x_N_109 ≤ 500) (H : Heap) (locs : List Loc) (ls : Array Slot) (o10_109r : Int32) (o16_109r : Int32) (y_z_109r : Nat → Int32), Wd D A s.heap (oA T 16 a_nw1 x_nw1_109 ++ (oA T 20 a_g x_g ++ (oA T 60 a_q x_q ++ (oA T 5 a_n x_n ++ (oA T 64 a_e x_e ++ (oA T 64 a_j x_j ++ (oA T 64 a_a x_a ++ (oA T 64 a_z x_z_109 ++ Z)))))))) H locs → lv_has ls 17 [(0, .ref a_g), (1, .ref a_q), (2, .ref a_n), (3, .ref a_e), (4, .ref a_j), (5, .ref a_a), (6, .ref a_z), (8, .ref a_nw1), (9, .int v9_109), (10, .int v10_109), (12, .int v12_109), (13, .int v13_109), (14, .int v14_109), (15, .int v15_109), (16, .int v16_109)] → f_L_faults_L109 n x_g x_q x_n x_e x_j x_a x_z_109 x_nw1_109 x_N_109 v9_109 v10_109 v12_109 v13_109 v14_109 v15_109 v16_109 = some (o10_109r, o16_109r, y_z_109r) → (∀ (H : Heap) (locs : List Loc) (ls : Array Slot), Wd D A s.heap (oA T 16 a_nw1 x_nw1_109 ++ (oA T 20 a_g x_g ++ (oA T 60 a_q x_q ++ (oA T 5 a_n x_n ++ (oA T 64 a_e x_e ++ (oA T 64 a_j x_j ++ (oA T 64 a_a x_a ++ (oA T 64 a_z y_z_109r ++ Z)))))))) H locs → lv_has ls 17 [(0, .ref a_g), (1, .ref a_q), (2, .ref a_n), (3, .ref a_e), (4, .ref a_j), (5, .ref a_a), (6, .ref a_z), (8, .ref a_nw1), (9, .int v9_109), (10, .int o10_109r), (13, .int v13_109), (14, .int v14_109)] → W p l e (rmL 2 500) s m args below meth c H locs x_N_109 (16 * x_N_109) Q (F0 m 155 ls [])) → W p l e (rmL 2 500) s m args below meth c H locs x_N_109 (16 * x_N_109) Q (F0 m 109 ls []) := by
    intro n
    induction n with
    | zero =>
      intro x_z_109 x_nw1_109 x_N_109 v9_109 v10_109 v12_109 v13_109 v14_109 v15_109 v16_109 hN_109 H locs ls o10_109r o16_109r y_z_109r hW hl h k1
      rw [f_L_faults_L109] at h
      cases h
    | succ n ih =>
      intro x_z_109 x_nw1_109 x_N_109 v9_109 v10_109 v12_109 v13_109 v14_109 v15_109 v16_109 hN_109 H locs ls o10_109r o16_109r y_z_109r hW hl h k1
      rw [f_L_faults_L109] at h
      refine lv_iload hx hb dL_faults_109 (lv_at hl 14 rfl) ?_
      refine lv_iconst (v := 3) hx hb dL_faults_111 (by decide) ?_
      refine lv_icmp_ge (tgt := 155) hx hb dL_faults_112 (by decide) (fun c17 => ?_) (fun c17 => ?_)
      · replace h := ite_t c17 h
        obtain ⟨rfl, rfl, rfl⟩ := ret3 h
        exact k1 H locs ls hW (lv_sub hl [0, 1, 2, 3, 4, 5, 6, 7, 8, 9, 11, 12] rfl)
      · replace h := ite_f c17 h
        refine lv_iload hx hb dL_faults_115 (lv_at hl 13 rfl) ?_
        refine lv_iload hx hb dL_faults_117 (lv_at hl 14 rfl) ?_
        refine lv_ishr hx hb dL_faults_119 ?_
        refine lv_iconst (v := 1) hx hb dL_faults_120 (by decide) ?_
        refine lv_iand hx hb dL_faults_121 ?_
        refine lv_iconst (v := 1) hx hb dL_faults_122 (by decide) ?_
        refine lv_icmp_ne (tgt := 149) hx hb dL_faults_123 (by decide) (fun c18 => ?_) (fun c18 => ?_)
        · replace h := ite_f c18 h
          obtain ⟨w16_19, ew16_19⟩ : ∃ y : Int32, y = v16_109 + 1 := ⟨_, rfl⟩
          replace h := lb_at ew16_19 h
          refine lv_iinc (v := w16_19) (lv' := [(16, .int w16_19), (0, .ref a_g), (1, .ref a_q), (2, .ref a_n), (3, .ref a_e), (4, .ref a_j), (5, .ref a_a), (6, .ref a_z), (8, .ref a_nw1), (9, .int v9_109), (10, .int v10_109), (12, .int v12_109), (13, .int v13_109), (14, .int v14_109), (15, .int v15_109)]) hx hb dL_faults_149 hl (k := 14) rfl (by rw [ew16_19]; rfl) (by decide) rfl (fun ls hl => ?_)
          refine lv_goto (tgt := 109) hx hb dL_faults_152 (by decide) ?_
          exact ih _ _ _ _ _ _ _ _ _ _ hN_109 H locs ls _ _ _ hW (lv_sub hl [1, 2, 3, 4, 5, 6, 7, 8, 9, 10, 11, 12, 13, 14, 0] rfl) h k1
        · replace h := ite_t c18 h
          refine lv_iload hx hb dL_faults_126 (lv_at hl 9 rfl) ?_
          refine lv_bipush (v := 64) hx hb dL_faults_128 (by decide) ?_
          refine lv_icmp_ge (tgt := 149) hx hb dL_faults_130 (by decide) (fun c20 => ?_) (fun c20 => ?_)
          · replace h := ite_t c20 h
            obtain ⟨w16_21, ew16_21⟩ : ∃ y : Int32, y = v16_109 + 1 := ⟨_, rfl⟩
            replace h := lb_at ew16_21 h
            refine lv_iinc (v := w16_21) (lv' := [(16, .int w16_21), (0, .ref a_g), (1, .ref a_q), (2, .ref a_n), (3, .ref a_e), (4, .ref a_j), (5, .ref a_a), (6, .ref a_z), (8, .ref a_nw1), (9, .int v9_109), (10, .int v10_109), (12, .int v12_109), (13, .int v13_109), (14, .int v14_109), (15, .int v15_109)]) hx hb dL_faults_149 hl (k := 14) rfl (by rw [ew16_21]; rfl) (by decide) rfl (fun ls hl => ?_)
            refine lv_goto (tgt := 109) hx hb dL_faults_152 (by decide) ?_
            exact ih _ _ _ _ _ _ _ _ _ _ hN_109 H locs ls _ _ _ hW (lv_sub hl [1, 2, 3, 4, 5, 6, 7, 8, 9, 10, 11, 12, 13, 14, 0] rfl) h k1
          · replace h := ite_f c20 h
            refine lv_aload hx hb dL_faults_133 (lv_at hl 6 rfl) ?_
            refine lv_iload hx hb dL_faults_135 (lv_at hl 9 rfl) ?_
            refine lv_bipush (v := 10) hx hb dL_faults_137 (by decide) ?_
            refine lv_iload hx hb dL_faults_139 (lv_at hl 10 rfl) ?_
            refine lv_imul hx hb dL_faults_141 ?_
            refine lv_iload hx hb dL_faults_142 (lv_at hl 14 rfl) ?_
            refine lv_iadd hx hb dL_faults_144 ?_
            obtain ⟨g22, h⟩ := grd_s h
            refine g_iast (ws9 := oA T 16 a_nw1 x_nw1_109 ++ (oA T 20 a_g x_g ++ (oA T 60 a_q x_q ++ (oA T 5 a_n x_n ++ (oA T 64 a_e x_e ++ (oA T 64 a_j x_j ++ (oA T 64 a_a x_a ++ (oA T 64 a_z (upd x_z_109 v10_109.toNatClampNeg ((10 * v12_109) + v16_109)) ++ Z)))))))) hx hb hK hW 7 rfl g22 rfl dL_faults_145 (fun H locs hW => ?_)
            obtain ⟨x_z23, ex_z23⟩ : ∃ y : Nat → Int32, y = upd x_z_109 v10_109.toNatClampNeg ((10 * v12_109) + v16_109) := ⟨_, rfl⟩
            rw [← ex_z23] at hW
            replace h := lb_at ex_z23 h
            obtain ⟨w10_24, ew10_24⟩ : ∃ y : Int32, y = v10_109 + 1 := ⟨_, rfl⟩
            replace h := lb_at ew10_24 h
            refine lv_iinc (v := w10_24) (lv' := [(10, .int w10_24), (0, .ref a_g), (1, .ref a_q), (2, .ref a_n), (3, .ref a_e), (4, .ref a_j), (5, .ref a_a), (6, .ref a_z), (8, .ref a_nw1), (9, .int v9_109), (12, .int v12_109), (13, .int v13_109), (14, .int v14_109), (15, .int v15_109), (16, .int v16_109)]) hx hb dL_faults_146 hl (k := 9) rfl (by rw [ew10_24]; rfl) (by decide) rfl (fun ls hl => ?_)
            obtain ⟨w16_25, ew16_25⟩ : ∃ y : Int32, y = v16_109 + 1 := ⟨_, rfl⟩
            replace h := lb_at ew16_25 h
            refine lv_iinc (v := w16_25) (lv' := [(16, .int w16_25), (10, .int w10_24), (0, .ref a_g), (1, .ref a_q), (2, .ref a_n), (3, .ref a_e), (4, .ref a_j), (5, .ref a_a), (6, .ref a_z), (8, .ref a_nw1), (9, .int v9_109), (12, .int v12_109), (13, .int v13_109), (14, .int v14_109), (15, .int v15_109)]) hx hb dL_faults_149 hl (k := 14) rfl (by rw [ew16_25]; rfl) (by decide) rfl (fun ls hl => ?_)
            refine lv_goto (tgt := 109) hx hb dL_faults_152 (by decide) ?_
            exact ih _ _ _ _ _ _ _ _ _ _ hN_109 H locs ls _ _ _ hW (lv_sub hl [2, 3, 4, 5, 6, 7, 8, 9, 10, 1, 11, 12, 13, 14, 0] rfl) h k1
  have L26 : ∀ (n : Nat) (x_z_26 : Nat → Int32) (x_nw1_26 : Nat → Int32) (x_N_26 : Nat) (v9_26 : Int32) (v10_26 : Int32) (hN_26 : x_N_26 ≤ 500) (H : Heap) (locs : List Loc) (ls : Array Slot) (o9_26r : Int32) (o10_26r : Int32) (y_z_26r : Nat → Int32) (y_nw1_26r : Nat → Int32) (y_N_26r : Nat), Wd D A s.heap (oA T 16 a_nw1 x_nw1_26 ++ (oA T 20 a_g x_g ++ (oA T 60 a_q x_q ++ (oA T 5 a_n x_n ++ (oA T 64 a_e x_e ++ (oA T 64 a_j x_j ++ (oA T 64 a_a x_a ++ (oA T 64 a_z x_z_26 ++ Z)))))))) H locs → lv_has ls 17 [(0, .ref a_g), (1, .ref a_q), (2, .ref a_n), (3, .ref a_e), (4, .ref a_j), (5, .ref a_a), (6, .ref a_z), (8, .ref a_nw1), (9, .int v9_26), (10, .int v10_26)] → f_L_faults_L26 n x_g x_q x_n x_e x_j x_a x_z_26 x_nw1_26 x_N_26 v9_26 v10_26 = some (o9_26r, o10_26r, y_z_26r, y_nw1_26r, y_N_26r) → (∀ (H : Heap) (locs : List Loc) (ls : Array Slot), Wd D A s.heap (oA T 16 a_nw1 y_nw1_26r ++ (oA T 20 a_g x_g ++ (oA T 60 a_q x_q ++ (oA T 5 a_n x_n ++ (oA T 64 a_e x_e ++ (oA T 64 a_j x_j ++ (oA T 64 a_a x_a ++ (oA T 64 a_z y_z_26r ++ Z)))))))) H locs → lv_has ls 17 [(10, .int o10_26r)] → W p l e (rmL 2 500) s m args below meth c H locs y_N_26r (16 * y_N_26r) Q (F0 m 183 ls [])) → W p l e (rmL 2 500) s m args below meth c H locs x_N_26 (16 * x_N_26) Q (F0 m 26 ls []) := by
    intro n
    induction n with
    | zero =>
      intro x_z_26 x_nw1_26 x_N_26 v9_26 v10_26 hN_26 H locs ls o9_26r o10_26r y_z_26r y_nw1_26r y_N_26r hW hl h k1
      rw [f_L_faults_L26] at h
      cases h
    | succ n ih =>
      intro x_z_26 x_nw1_26 x_N_26 v9_26 v10_26 hN_26 H locs ls o9_26r o10_26r y_z_26r y_nw1_26r y_N_26r hW hl h k1
      rw [f_L_faults_L26] at h
      refine lv_iload hx hb dL_faults_26 (lv_at hl 8 rfl) ?_
      refine lv_if_le (tgt := 183) hx hb dL_faults_28 (by decide) (fun c2 => ?_) (fun c2 => ?_)
      · replace h := ite_t c2 h
        obtain ⟨rfl, rfl, rfl, rfl, rfl⟩ := ret5 h
        exact k1 H locs ls hW (lv_sub hl [9] rfl)
      · replace h := ite_f c2 h
        obtain ⟨w9_3, ew9_3⟩ : ∃ y : Int32, y = v9_26 + (-1) := ⟨_, rfl⟩
        replace h := lb_at ew9_3 h
        refine lv_iinc (v := w9_3) (lv' := [(9, .int w9_3), (0, .ref a_g), (1, .ref a_q), (2, .ref a_n), (3, .ref a_e), (4, .ref a_j), (5, .ref a_a), (6, .ref a_z), (8, .ref a_nw1), (10, .int v10_26)]) hx hb dL_faults_31 hl (k := 8) rfl (by rw [ew9_3]; rfl) (by decide) rfl (fun ls hl => ?_)
        refine lv_aload hx hb dL_faults_34 (lv_at hl 8 rfl) ?_
        refine lv_iload hx hb dL_faults_36 (lv_at hl 0 rfl) ?_
        obtain ⟨g4, h⟩ := grd_s h
        refine g_iald hx hb hK hW 0 rfl g4 dL_faults_38 ?_
        refine lv_topi (fun w11_5 ew11_5 => ?_)
        replace h := lb_at ew11_5 h
        refine lv_istore (lv' := [(11, .int w11_5), (9, .int w9_3), (0, .ref a_g), (1, .ref a_q), (2, .ref a_n), (3, .ref a_e), (4, .ref a_j), (5, .ref a_a), (6, .ref a_z), (8, .ref a_nw1), (10, .int v10_26)]) hx hb dL_faults_39 hl (by decide) rfl (fun ls hl => ?_)
        refine lv_aload hx hb dL_faults_41 (lv_at hl 7 rfl) ?_
        refine lv_iload hx hb dL_faults_43 (lv_at hl 0 rfl) ?_
        obtain ⟨g6, h⟩ := grd_s h
        refine g_iald hx hb hK hW 6 rfl g6 dL_faults_45 ?_
        refine lv_bipush (v := 100) hx hb dL_faults_46 (by decide) ?_
        refine lv_irem hx hb dL_faults_48 (by decide) ?_
        refine lv_iconst (v := 1) hx hb dL_faults_49 (by decide) ?_
        refine lv_isub hx hb dL_faults_50 ?_
        refine lv_topi (fun w12_7 ew12_7 => ?_)
        replace h := lb_at ew12_7 h
        refine lv_istore (lv' := [(12, .int w12_7), (11, .int w11_5), (9, .int w9_3), (0, .ref a_g), (1, .ref a_q), (2, .ref a_n), (3, .ref a_e), (4, .ref a_j), (5, .ref a_a), (6, .ref a_z), (8, .ref a_nw1), (10, .int v10_26)]) hx hb dL_faults_51 hl (by decide) rfl (fun ls hl => ?_)
        refine lv_iload hx hb dL_faults_53 (lv_at hl 0 rfl) ?_
        refine lv_if_lt (tgt := 180) hx hb dL_faults_55 (by decide) (fun c8 => ?_) (fun c8 => ?_)
        · replace h := ite_t c8 h
          refine lv_goto (tgt := 26) hx hb dL_faults_180 (by decide) ?_
          exact ih _ _ _ _ _ hN_26 H locs ls _ _ _ _ _ hW (lv_sub hl [3, 4, 5, 6, 7, 8, 9, 10, 2, 11] rfl) h k1
        · replace h := ite_f c8 h
          refine lv_aload hx hb dL_faults_58 (lv_at hl 8 rfl) ?_
          refine lv_iload hx hb dL_faults_60 (lv_at hl 1 rfl) ?_
          obtain ⟨g9, h⟩ := grd_s h
          refine g_iald hx hb hK hW 6 rfl g9 dL_faults_62 ?_
          refine lv_bipush (v := 100) hx hb dL_faults_63 (by decide) ?_
          refine lv_idiv hx hb dL_faults_65 (by decide) ?_
          refine lv_bipush (v := 100) hx hb dL_faults_66 (by decide) ?_
          refine lv_irem hx hb dL_faults_68 (by decide) ?_
          refine lv_iconst (v := 1) hx hb dL_faults_69 (by decide) ?_
          refine lv_isub hx hb dL_faults_70 ?_
          refine lv_topi (fun w13_10 ew13_10 => ?_)
          replace h := lb_at ew13_10 h
          refine lv_istore (lv' := [(13, .int w13_10), (12, .int w12_7), (11, .int w11_5), (9, .int w9_3), (0, .ref a_g), (1, .ref a_q), (2, .ref a_n), (3, .ref a_e), (4, .ref a_j), (5, .ref a_a), (6, .ref a_z), (8, .ref a_nw1), (10, .int v10_26)]) hx hb dL_faults_71 hl (by decide) rfl (fun ls hl => ?_)
          refine lv_aload hx hb dL_faults_73 (lv_at hl 9 rfl) ?_
          refine lv_iload hx hb dL_faults_75 (lv_at hl 2 rfl) ?_
          obtain ⟨g11, h⟩ := grd_s h
          refine g_iald hx hb hK hW 6 rfl g11 dL_faults_77 ?_
          refine lv_sipush (v := 10000) hx hb dL_faults_78 (by decide) ?_
          refine lv_idiv hx hb dL_faults_81 (by decide) ?_
          refine lv_iconst (v := 1) hx hb dL_faults_82 (by decide) ?_
          refine lv_isub hx hb dL_faults_83 ?_
          refine lv_topi (fun w14_12 ew14_12 => ?_)
          replace h := lb_at ew14_12 h
          refine lv_istore (lv' := [(14, .int w14_12), (13, .int w13_10), (12, .int w12_7), (11, .int w11_5), (9, .int w9_3), (0, .ref a_g), (1, .ref a_q), (2, .ref a_n), (3, .ref a_e), (4, .ref a_j), (5, .ref a_a), (6, .ref a_z), (8, .ref a_nw1), (10, .int v10_26)]) hx hb dL_faults_84 hl (by decide) rfl (fun ls hl => ?_)
          refine lv_aload_n hx hb dL_faults_86 rfl (lv_at hl 5 rfl) ?_
          refine lv_aload_n hx hb dL_faults_87 rfl (lv_at hl 6 rfl) ?_
          refine lv_aload_n hx hb dL_faults_88 rfl (lv_at hl 7 rfl) ?_
          refine lv_aload_n hx hb dL_faults_89 rfl (lv_at hl 8 rfl) ?_
          refine lv_aload hx hb dL_faults_90 (lv_at hl 9 rfl) ?_
          refine lv_iload hx hb dL_faults_92 (lv_at hl 2 rfl) ?_
          refine lv_iload hx hb dL_faults_94 (lv_at hl 1 rfl) ?_
          refine lv_iload hx hb dL_faults_96 (lv_at hl 0 rfl) ?_
          replace hW := hW.perm pf5
          replace hW := hW.perm pf5
          replace hW := hW.perm pf5
          replace hW := hW.perm pf5
          replace hW := hW.perm pf5
          obtain ⟨r13, q14, h⟩ := bnd1_s h
          obtain ⟨gN15, h⟩ := grd_s h
          have gN15 := of_decide_eq_true gN15
          refine cs_L_44 hx hb hml hown hts hK hN hE hC hA hW (c_L_use l D T A a_g a_q a_n a_e a_j (oA T 16 a_nw1 x_nw1_26 ++ (oA T 64 a_a x_a ++ (oA T 64 a_z x_z_26 ++ Z))) x_g x_q x_n x_e x_j w12_7 w13_10 w14_12 r13 q14) ⟨Nat.le_of_ble_eq_true rfl, Nat.le_of_ble_eq_true rfl⟩ hl.1 rfl (Nat.le_of_ble_eq_true rfl) dL_faults_98 (hfB gN15) rfl (fun H locs hW => ?_)
          replace hW := hW.perm pf7
          replace hW := hW.perm pf7
          replace hW := hW.perm pf6
          replace hW := hW.perm pf6
          replace hW := hW.perm pf6
          replace hW := hW.perm pf6
          replace hW := hW.perm pf6
          replace hW := hW.perm pf7
          refine lv_ldc (v := 10000000) hx hb hown (hts _ wm39_2) dL_faults_101 ?_
          refine lv_idiv hx hb dL_faults_103 (by decide) ?_
          refine lv_topi (fun w15_16 ew15_16 => ?_)
          replace h := lb_at ew15_16 h
          refine lv_istore (lv' := [(15, .int w15_16), (14, .int w14_12), (13, .int w13_10), (12, .int w12_7), (11, .int w11_5), (9, .int w9_3), (0, .ref a_g), (1, .ref a_q), (2, .ref a_n), (3, .ref a_e), (4, .ref a_j), (5, .ref a_a), (6, .ref a_z), (8, .ref a_nw1), (10, .int v10_26)]) hx hb dL_faults_104 hl (by decide) rfl (fun ls hl => ?_)
          refine lv_iconst (v := 0) hx hb dL_faults_106 (by decide) ?_
          refine lv_istore (lv' := [(16, .int 0), (15, .int w15_16), (14, .int w14_12), (13, .int w13_10), (12, .int w12_7), (11, .int w11_5), (9, .int w9_3), (0, .ref a_g), (1, .ref a_q), (2, .ref a_n), (3, .ref a_e), (4, .ref a_j), (5, .ref a_a), (6, .ref a_z), (8, .ref a_nw1), (10, .int v10_26)]) hx hb dL_faults_107 hl (by decide) rfl (fun ls hl => ?_)
          obtain ⟨o10_u26, o16_u26, y_z_u26, q27, h⟩ := bnd3_s h
          refine L109 400 _ _ _ _ _ _ _ _ _ _ gN15 H locs ls o10_u26 o16_u26 y_z_u26 hW (lv_sub hl [7, 8, 9, 10, 11, 12, 13, 14, 6, 15, 4, 3, 2, 1, 0] rfl) q27 (fun H locs ls hW hl => ?_)
          refine lv_iload hx hb dL_faults_155 (lv_at hl 11 rfl) ?_
          refine lv_if_lt (tgt := 170) hx hb dL_faults_157 (by decide) (fun c28 => ?_) (fun c28 => ?_)
          · replace h := ite_t c28 h
            refine lv_aload hx hb dL_faults_170 (lv_at hl 7 rfl) ?_
            refine lv_iload hx hb dL_faults_172 (lv_at hl 8 rfl) ?_
            refine lv_iload hx hb dL_faults_174 (lv_at hl 10 rfl) ?_
            obtain ⟨g29, h⟩ := grd_s h
            refine g_iast (ws9 := oA T 16 a_nw1 (upd x_nw1_26 w9_3.toNatClampNeg w13_10) ++ (oA T 20 a_g x_g ++ (oA T 60 a_q x_q ++ (oA T 5 a_n x_n ++ (oA T 64 a_e x_e ++ (oA T 64 a_j x_j ++ (oA T 64 a_a x_a ++ (oA T 64 a_z y_z_u26 ++ Z)))))))) hx hb hK hW 0 rfl g29 rfl dL_faults_176 (fun H locs hW => ?_)
            obtain ⟨x_nw130, ex_nw130⟩ : ∃ y : Nat → Int32, y = upd x_nw1_26 w9_3.toNatClampNeg w13_10 := ⟨_, rfl⟩
            rw [← ex_nw130] at hW
            replace h := lb_at ex_nw130 h
            obtain ⟨w9_31, ew9_31⟩ : ∃ y : Int32, y = w9_3 + 1 := ⟨_, rfl⟩
            replace h := lb_at ew9_31 h
            refine lv_iinc (v := w9_31) (lv' := [(9, .int w9_31), (0, .ref a_g), (1, .ref a_q), (2, .ref a_n), (3, .ref a_e), (4, .ref a_j), (5, .ref a_a), (6, .ref a_z), (8, .ref a_nw1), (10, .int o10_u26), (13, .int w13_10), (14, .int w14_12)]) hx hb dL_faults_177 hl (k := 8) rfl (by rw [ew9_31]; rfl) (by decide) rfl (fun ls hl => ?_)
            refine lv_goto (tgt := 26) hx hb dL_faults_180 (by decide) ?_
            exact ih _ _ _ _ _ gN15 H locs ls _ _ _ _ _ hW (lv_sub hl [1, 2, 3, 4, 5, 6, 7, 8, 0, 9] rfl) h k1
          · replace h := ite_f c28 h
            refine lv_aload hx hb dL_faults_160 (lv_at hl 7 rfl) ?_
            refine lv_iload hx hb dL_faults_162 (lv_at hl 8 rfl) ?_
            refine lv_iload hx hb dL_faults_164 (lv_at hl 11 rfl) ?_
            obtain ⟨g32, h⟩ := grd_s h
            refine g_iast (ws9 := oA T 16 a_nw1 (upd x_nw1_26 w9_3.toNatClampNeg w14_12) ++ (oA T 20 a_g x_g ++ (oA T 60 a_q x_q ++ (oA T 5 a_n x_n ++ (oA T 64 a_e x_e ++ (oA T 64 a_j x_j ++ (oA T 64 a_a x_a ++ (oA T 64 a_z y_z_u26 ++ Z)))))))) hx hb hK hW 0 rfl g32 rfl dL_faults_166 (fun H locs hW => ?_)
            obtain ⟨x_nw133, ex_nw133⟩ : ∃ y : Nat → Int32, y = upd x_nw1_26 w9_3.toNatClampNeg w14_12 := ⟨_, rfl⟩
            rw [← ex_nw133] at hW
            replace h := lb_at ex_nw133 h
            obtain ⟨w9_34, ew9_34⟩ : ∃ y : Int32, y = w9_3 + 1 := ⟨_, rfl⟩
            replace h := lb_at ew9_34 h
            refine lv_iinc (v := w9_34) (lv' := [(9, .int w9_34), (0, .ref a_g), (1, .ref a_q), (2, .ref a_n), (3, .ref a_e), (4, .ref a_j), (5, .ref a_a), (6, .ref a_z), (8, .ref a_nw1), (10, .int o10_u26), (13, .int w13_10), (14, .int w14_12)]) hx hb dL_faults_167 hl (k := 8) rfl (by rw [ew9_34]; rfl) (by decide) rfl (fun ls hl => ?_)
            refine lv_aload hx hb dL_faults_170 (lv_at hl 8 rfl) ?_
            refine lv_iload hx hb dL_faults_172 (lv_at hl 0 rfl) ?_
            refine lv_iload hx hb dL_faults_174 (lv_at hl 10 rfl) ?_
            obtain ⟨g35, h⟩ := grd_s h
            refine g_iast (ws9 := oA T 16 a_nw1 (upd x_nw133 w9_34.toNatClampNeg w13_10) ++ (oA T 20 a_g x_g ++ (oA T 60 a_q x_q ++ (oA T 5 a_n x_n ++ (oA T 64 a_e x_e ++ (oA T 64 a_j x_j ++ (oA T 64 a_a x_a ++ (oA T 64 a_z y_z_u26 ++ Z)))))))) hx hb hK hW 0 rfl g35 rfl dL_faults_176 (fun H locs hW => ?_)
            obtain ⟨x_nw136, ex_nw136⟩ : ∃ y : Nat → Int32, y = upd x_nw133 w9_34.toNatClampNeg w13_10 := ⟨_, rfl⟩
            rw [← ex_nw136] at hW
            replace h := lb_at ex_nw136 h
            obtain ⟨w9_37, ew9_37⟩ : ∃ y : Int32, y = w9_34 + 1 := ⟨_, rfl⟩
            replace h := lb_at ew9_37 h
            refine lv_iinc (v := w9_37) (lv' := [(9, .int w9_37), (0, .ref a_g), (1, .ref a_q), (2, .ref a_n), (3, .ref a_e), (4, .ref a_j), (5, .ref a_a), (6, .ref a_z), (8, .ref a_nw1), (10, .int o10_u26), (13, .int w13_10), (14, .int w14_12)]) hx hb dL_faults_177 hl (k := 0) rfl (by rw [ew9_37]; rfl) (by decide) rfl (fun ls hl => ?_)
            refine lv_goto (tgt := 26) hx hb dL_faults_180 (by decide) ?_
            exact ih _ _ _ _ _ gN15 H locs ls _ _ _ _ _ hW (lv_sub hl [1, 2, 3, 4, 5, 6, 7, 8, 0, 9] rfl) h k1
  have J26 : ∀ (x_z_26 : Nat → Int32) (x_nw1_26 : Nat → Int32) (x_N_26 : Nat) (v9_26 : Int32) (v10_26 : Int32) (hN_26 : x_N_26 ≤ 500) (H : Heap) (locs : List Loc) (ls : Array Slot), Wd D A s.heap (oA T 16 a_nw1 x_nw1_26 ++ (oA T 20 a_g x_g ++ (oA T 60 a_q x_q ++ (oA T 5 a_n x_n ++ (oA T 64 a_e x_e ++ (oA T 64 a_j x_j ++ (oA T 64 a_a x_a ++ (oA T 64 a_z x_z_26 ++ Z)))))))) H locs → lv_has ls 17 [(0, .ref a_g), (1, .ref a_q), (2, .ref a_n), (3, .ref a_e), (4, .ref a_j), (5, .ref a_a), (6, .ref a_z), (8, .ref a_nw1), (9, .int v9_26), (10, .int v10_26)] → f_L_faults_J26 x_g x_q x_n x_e x_j x_a x_z_26 x_nw1_26 x_N_26 v9_26 v10_26 = some (r, x_z9) → W p l e (rmL 2 500) s m args below meth c H locs x_N_26 (16 * x_N_26) Q (F0 m 26 ls []) := by
    intro x_z_26 x_nw1_26 x_N_26 v9_26 v10_26 hN_26 H locs ls hW hl h
    rw [f_L_faults_J26] at h
    obtain ⟨o9_u38, o10_u38, y_z_u38, y_nw1_u38, y_N_u38, q39, h⟩ := bnd5_s h
    obtain ⟨gN40, h⟩ := grd_s h
    have gN40 := of_decide_eq_true gN40
    refine L26 400 _ _ _ _ _ hN_26 H locs ls o9_u38 o10_u38 y_z_u38 y_nw1_u38 y_N_u38 hW (lv_sub hl [0, 1, 2, 3, 4, 5, 6, 7, 8, 9] rfl) q39 (fun H locs ls hW hl => ?_)
    refine lv_iload hx hb dL_faults_183 (lv_at hl 0 rfl) ?_
    obtain ⟨rfl, rfl⟩ := ret2 h
    rw [hQ]
    replace hW := hW.tl
    refine W.widen (k := 500) (n := (16 * 500)) gN40 (Nat.mul_le_mul_left 16 gN40) ?_
    exact g_reti hx hb hr hlk hW dL_faults_185
  refine lv_iconst (v := 0) hx hb dL_faults_6 (by decide) ?_
  refine lv_istore (lv' := [(9, .int 0), (8, .ref a_nw1), (0, .ref a_g), (1, .ref a_q), (2, .ref a_n), (3, .ref a_e), (4, .ref a_j), (5, .ref a_a), (6, .ref a_z), (7, .int p8)]) hx hb dL_faults_7 hl (by decide) rfl (fun ls hl => ?_)
  refine lv_iconst (v := 0) hx hb dL_faults_9 (by decide) ?_
  refine lv_istore (lv' := [(10, .int 0), (9, .int 0), (8, .ref a_nw1), (0, .ref a_g), (1, .ref a_q), (2, .ref a_n), (3, .ref a_e), (4, .ref a_j), (5, .ref a_a), (6, .ref a_z), (7, .int p8)]) hx hb dL_faults_10 hl (by decide) rfl (fun ls hl => ?_)
  refine lv_iload hx hb dL_faults_12 (lv_at hl 10 rfl) ?_
  refine lv_if_lt (tgt := 26) hx hb dL_faults_14 (by decide) (fun c1 => ?_) (fun c1 => ?_)
  · replace h := ite_t c1 h
    exact J26 _ _ _ _ _ (Nat.le_of_ble_eq_true rfl) H locs ls hW (lv_sub hl [3, 4, 5, 6, 7, 8, 9, 2, 1, 0] rfl) h
  · replace h := ite_f c1 h
    refine lv_aload hx hb dL_faults_17 (lv_at hl 2 rfl) ?_
    refine lv_iconst (v := 0) hx hb dL_faults_19 (by decide) ?_
    refine lv_iload hx hb dL_faults_20 (lv_at hl 10 rfl) ?_
    refine g_iast (ws9 := oA T 16 a_nw1 (upd x_nw10 (0 : Int32).toNatClampNeg p8) ++ (oA T 20 a_g x_g ++ (oA T 60 a_q x_q ++ (oA T 5 a_n x_n ++ (oA T 64 a_e x_e ++ (oA T 64 a_j x_j ++ (oA T 64 a_a x_a ++ (oA T 64 a_z x_z ++ Z)))))))) hx hb hK hW 0 rfl (by decide) rfl dL_faults_22 (fun H locs hW => ?_)
    obtain ⟨x_nw141, ex_nw141⟩ : ∃ y : Nat → Int32, y = upd x_nw10 (0 : Int32).toNatClampNeg p8 := ⟨_, rfl⟩
    rw [← ex_nw141] at hW
    replace h := lb_at ex_nw141 h
    refine lv_iconst (v := 1) hx hb dL_faults_23 (by decide) ?_
    refine lv_istore (lv' := [(9, .int 1), (10, .int 0), (8, .ref a_nw1), (0, .ref a_g), (1, .ref a_q), (2, .ref a_n), (3, .ref a_e), (4, .ref a_j), (5, .ref a_a), (6, .ref a_z), (7, .int p8)]) hx hb dL_faults_24 hl (by decide) rfl (fun ls hl => ?_)
    exact J26 _ _ _ _ _ (Nat.le_of_ble_eq_true rfl) H locs ls hW (lv_sub hl [3, 4, 5, 6, 7, 8, 9, 2, 0, 1] rfl) h
set_option maxHeartbeats 16000000 in
set_option maxRecDepth 100000 in
theorem c_L_fragments (l : Launch) (D : va_G) (T : Nat → ClassId) (A : Nat → Prop) (a_c : Nat) (a_w : Nat) (a_u : Nat) (a_x : Nat) (a_j : Nat) (a_b : Nat) (a_m : Nat) (a_z : Nat) (Z : va_W) (x_c : Nat → Int32) (x_w : Nat → Int32) (x_u : Nat → Int32) (x_x : Nat → Int32) (x_j : Nat → Int32) (x_b : Nat → Int32) (x_m : Nat → Int32) (x_z : Nat → Int32) (p9 : Int32) (p10 : Int32) (r : Int32) (x_z9 : Nat → Int32) (h : f_L_fragments x_c x_w x_u x_x x_j x_b x_m x_z p9 p10 = some (r, x_z9)) : Met l yL_fragments (Cond.code yL_fragments cL_fragments 20 (some .int) :: wsL_law) (rmL 1 2) (Pl D T A (oA T 12 a_c x_c ++ (oA T 24 a_w x_w ++ (oA T 2 a_u x_u ++ (oA T 6 a_x x_x ++ (oA T 64 a_j x_j ++ (oA T 48 a_b x_b ++ (oA T 6 a_m x_m ++ (oA T 64 a_z x_z ++ Z)))))))) [.ref a_c, .ref a_w, .ref a_u, .ref a_x, .ref a_j, .ref a_b, .ref a_m, .ref a_z, .int p9, .int p10]) (Qgi D A (oA T 12 a_c x_c ++ (oA T 24 a_w x_w ++ (oA T 2 a_u x_u ++ (oA T 6 a_x x_x ++ (oA T 64 a_j x_j ++ (oA T 48 a_b x_b ++ (oA T 6 a_m x_m ++ (oA T 64 a_z x_z9 ++ Z)))))))) r) 2 (16 * 2) A := by
  refine Met.ofW (cc := cL_fragments) (maxL := 20) (ret := (some .int)) (by decide +kernel) rfl ?_
  intro p e s m args below meth c s₁ B hml hv
  obtain ⟨ha, hP, hK, hD, hN, hE, hC, hA⟩ := hv
  have hx := B.exec
  have hb := B.bytes
  have hr := B.returns
  have hlk := B.notSynchronized
  have hts : ∀ w ∈ wsL_law, w.before args s = true := fun w hw => atoms_spec B.pre w (List.mem_cons_of_mem _ hw)
  have hown : s.vm.findClass RL = some m.cls := findClass_of_methodNamed B.named
  have hW : Wd D A s.heap (oA T 12 a_c x_c ++ (oA T 24 a_w x_w ++ (oA T 2 a_u x_u ++ (oA T 6 a_x x_x ++ (oA T 64 a_j x_j ++ (oA T 48 a_b x_b ++ (oA T 6 a_m x_m ++ (oA T 64 a_z x_z ++ Z)))))))) s.heap [] := ⟨hP, hD, va_S.rf⟩
  have hl := lv_entry [.ref a_c, .ref a_w, .ref a_u, .ref a_x, .ref a_j, .ref a_b, .ref a_m, .ref a_z, .int p9, .int p10] (n := 20) (Nat.le_of_ble_eq_true rfl)
  refine W.eq (en_eq ha) ?_
  generalize (lg_sl [.ref a_c, .ref a_w, .ref a_u, .ref a_x, .ref a_j, .ref a_b, .ref a_m, .ref a_z, .int p9, .int p10] ++ List.replicate (20 - (lg_sl [.ref a_c, .ref a_w, .ref a_u, .ref a_x, .ref a_j, .ref a_b, .ref a_m, .ref a_z, .int p9, .int p10]).length) Slot.unset).toArray = ls at hl ⊢
  have hl : lv_has ls 20 [(0, .ref a_c), (1, .ref a_w), (2, .ref a_u), (3, .ref a_x), (4, .ref a_j), (5, .ref a_b), (6, .ref a_m), (7, .ref a_z), (8, .int p9), (9, .int p10)] := hl
  clear hP hD B ha
  obtain ⟨Q, hQ⟩ : ∃ Q, Q = MQ below (Qgi D A (oA T 12 a_c x_c ++ (oA T 24 a_w x_w ++ (oA T 2 a_u x_u ++ (oA T 6 a_x x_x ++ (oA T 64 a_j x_j ++ (oA T 48 a_b x_b ++ (oA T 6 a_m x_m ++ (oA T 64 a_z x_z9 ++ Z)))))))) r) args s 2 (16 * 2) A := ⟨_, rfl⟩
  rw [← hQ]
  change W p l e (rmL 1 2) s m args below meth c s.heap [] 0 (16 * 0) Q (F0 m 0 ls [])
  rw [f_L_fragments] at h
  suffices hm : ∀ (H : Heap) (locs : List Loc), Wd D A s.heap (oA T 12 a_c x_c ++ (oA T 24 a_w x_w ++ (oA T 2 a_u x_u ++ (oA T 6 a_x x_x ++ (oA T 64 a_j x_j ++ (oA T 48 a_b x_b ++ (oA T 6 a_m x_m ++ (oA T 64 a_z x_z ++ Z)))))))) H locs → W p l e (rmL 1 2) s m args below meth c H locs 0 (16 * 0) Q (F0 m 0 ls []) from hm _ _ hW
  clear hW
  intro H locs hW
  refine lv_aload_n hx hb dL_fragments_0 rfl (lv_at hl 0 rfl) ?_
  refine lv_bipush (v := 8) hx hb dL_fragments_1 (by decide) ?_
  refine lv_iload hx hb dL_fragments_3 (lv_at hl 8 rfl) ?_
  refine lv_iadd hx hb dL_fragments_5 ?_
  obtain ⟨g1, h⟩ := grd_s h
  refine g_iald hx hb hK hW 0 rfl g1 dL_fragments_6 ?_
  refine lv_topi (fun w10_2 ew10_2 => ?_)
  replace h := lb_at ew10_2 h
  refine lv_istore (lv' := [(10, .int w10_2), (0, .ref a_c), (1, .ref a_w), (2, .ref a_u), (3, .ref a_x), (4, .ref a_j), (5, .ref a_b), (6, .ref a_m), (7, .ref a_z), (8, .int p9), (9, .int p10)]) hx hb dL_fragments_7 hl (by decide) rfl (fun ls hl => ?_)
  refine lv_iconst (v := 4) hx hb dL_fragments_9 (by decide) ?_
  refine l_newl (b := 1) hx hb hts hK hA hW 4 (by decide) (by decide) (by decide) (by decide) (by decide) (hfB (Nat.le_of_ble_eq_true rfl)) dL_fragments_10 (fun a_nw1 H hW => ?_)
  refine lv_astore (lv' := [(11, .ref a_nw1), (10, .int w10_2), (0, .ref a_c), (1, .ref a_w), (2, .ref a_u), (3, .ref a_x), (4, .ref a_j), (5, .ref a_b), (6, .ref a_m), (7, .ref a_z), (8, .int p9), (9, .int p10)]) hx hb dL_fragments_12 hl (by decide) rfl (fun ls hl => ?_)
  refine lv_iconst (v := 4) hx hb dL_fragments_14 (by decide) ?_
  refine l_newa (b := 1) hx hb hts hK hA hW 4 (by decide) (by decide) (by decide) (by decide) (by decide) (hfB (Nat.le_of_ble_eq_true rfl)) dL_fragments_15 (fun a_nw2 H hW => ?_)
  refine lv_astore (lv' := [(12, .ref a_nw2), (11, .ref a_nw1), (10, .int w10_2), (0, .ref a_c), (1, .ref a_w), (2, .ref a_u), (3, .ref a_x), (4, .ref a_j), (5, .ref a_b), (6, .ref a_m), (7, .ref a_z), (8, .int p9), (9, .int p10)]) hx hb dL_fragments_17 hl (by decide) rfl (fun ls hl => ?_)
  obtain ⟨x_nw10, ex_nw10⟩ : ∃ y : Nat → Int64, y = (fun _ => 0) := ⟨_, rfl⟩
  replace h := lb_at ex_nw10 h
  obtain ⟨x_nw20, ex_nw20⟩ : ∃ y : Nat → Int32, y = (fun _ => 0) := ⟨_, rfl⟩
  replace h := lb_at ex_nw20 h
  have hW : Wd D A s.heap (oA T 4 a_nw2 x_nw20 ++ (oJ T 4 a_nw1 x_nw10 ++ (oA T 12 a_c x_c ++ (oA T 24 a_w x_w ++ (oA T 2 a_u x_u ++ (oA T 6 a_x x_x ++ (oA T 64 a_j x_j ++ (oA T 48 a_b x_b ++ (oA T 6 a_m x_m ++ (oA T 64 a_z x_z ++ Z)))))))))) H locs := by rw [ex_nw10, ex_nw20]; exact hW
  have L95 : ∀ (n : Nat) (x_z_95 : Nat → Int32) (x_nw1_95 : Nat → Int64) (x_nw2_95 : Nat → Int32) (x_N_95 : Nat) (v8_95 : Int32) (v9_95 : Int32) (v10_95 : Int32) (v13_95 : Int32) (v14_95 : Int32) (v15_95 : Int32) (v16_95 : Int64) (v18_95 : Int32) (hN_95 : x_N_95 ≤ 2) (H : Heap) (locs : List Loc) (ls : Array Slot) (o16_95r : Int64) (o18_95r : Int32), Wd D A s.heap (oA T 4 a_nw2 x_nw2_95 ++ (oJ T 4 a_nw1 x_nw1_95 ++ (oA T 12 a_c x_c ++ (oA T 24 a_w x_w ++ (oA T 2 a_u x_u ++ (oA T 6 a_x x_x ++ (oA T 64 a_j x_j ++ (oA T 48 a_b x_b ++ (oA T 6 a_m x_m ++ (oA T 64 a_z x_z_95 ++ Z)))))))))) H locs → lv_has ls 20 [(1, .ref a_w), (2, .ref a_u), (3, .ref a_x), (4, .ref a_j), (5, .ref a_b), (6, .ref a_m), (7, .ref a_z), (8, .int v8_95), (9, .int v9_95), (10, .int v10_95), (11, .ref a_nw1), (12, .ref a_nw2), (13, .int v13_95), (14, .int v14_95), (15, .int v15_95), (16, .long v16_95), (18, .int v18_95)] → f_L_fragments_L95 n x_c x_w x_u x_x x_j x_b x_m x_z_95 x_nw1_95 x_nw2_95 x_N_95 v8_95 v9_95 v10_95 v13_95 v14_95 v15_95 v16_95 v18_95 = some (o16_95r, o18_95r) → (∀ (H : Heap) (locs : List Loc) (ls : Array Slot), Wd D A s.heap (oA T 4 a_nw2 x_nw2_95 ++ (oJ T 4 a_nw1 x_nw1_95 ++ (oA T 12 a_c x_c ++ (oA T 24 a_w x_w ++ (oA T 2 a_u x_u ++ (oA T 6 a_x x_x ++ (oA T 64 a_j x_j ++ (oA T 48 a_b x_b ++ (oA T 6 a_m x_m ++ (oA T 64 a_z x_z_95 ++ Z)))))))))) H locs → lv_has ls 20 [(1, .ref a_w), (2, .ref a_u), (3, .ref a_x), (4, .ref a_j), (5, .ref a_b), (6, .ref a_m), (7, .ref a_z), (8, .int v8_95), (9, .int v9_95), (10, .int v10_95), (11, .ref a_nw1), (12, .ref a_nw2), (13, .int v13_95), (14, .int v14_95), (16, .long o16_95r)] → W p l e (rmL 1 2) s m args below meth c H locs x_N_95 (16 * x_N_95) Q (F0 m 154 ls [])) → W p l e (rmL 1 2) s m args below meth c H locs x_N_95 (16 * x_N_95) Q (F0 m 95 ls []) := by
    intro n
    induction n with
    | zero =>
      intro x_z_95 x_nw1_95 x_nw2_95 x_N_95 v8_95 v9_95 v10_95 v13_95 v14_95 v15_95 v16_95 v18_95 hN_95 H locs ls o16_95r o18_95r hW hl h k1
      rw [f_L_fragments_L95] at h
      cases h
    | succ n ih =>
      intro x_z_95 x_nw1_95 x_nw2_95 x_N_95 v8_95 v9_95 v10_95 v13_95 v14_95 v15_95 v16_95 v18_95 hN_95 H locs ls o16_95r o18_95r hW hl h k1
      rw [f_L_fragments_L95] at h
      refine lv_iload hx hb dL_fragments_95 (lv_at hl 16 rfl) ?_
      refine lv_aload hx hb dL_fragments_97 (lv_at hl 5 rfl) ?_
      refine lv_iload hx hb dL_fragments_99 (lv_at hl 14 rfl) ?_
      obtain ⟨g11, h⟩ := grd_s h
      refine g_iald hx hb hK hW 8 rfl g11 dL_fragments_101 ?_
      refine lv_icmp_ge (tgt := 154) hx hb dL_fragments_102 (by decide) (fun c12 => ?_) (fun c12 => ?_)
      · replace h := ite_t c12 h
        obtain ⟨rfl, rfl⟩ := ret2 h
        exact k1 H locs ls hW (lv_sub hl [0, 1, 2, 3, 4, 5, 6, 7, 8, 9, 10, 11, 12, 13, 15] rfl)
      · replace h := ite_f c12 h
        refine lv_aload hx hb dL_fragments_105 (lv_at hl 3 rfl) ?_
        refine lv_aload hx hb dL_fragments_107 (lv_at hl 4 rfl) ?_
        refine lv_bipush (v := 8) hx hb dL_fragments_109 (by decide) ?_
        refine lv_iload hx hb dL_fragments_111 (lv_at hl 14 rfl) ?_
        refine lv_imul hx hb dL_fragments_113 ?_
        refine lv_iload hx hb dL_fragments_114 (lv_at hl 16 rfl) ?_
        refine lv_iadd hx hb dL_fragments_116 ?_
        obtain ⟨g13, h⟩ := grd_s h
        refine g_iald hx hb hK hW 7 rfl g13 dL_fragments_117 ?_
        obtain ⟨g14, h⟩ := grd_s h
        refine g_iald hx hb hK hW 6 rfl g14 dL_fragments_118 ?_
        refine lv_i2l (v := (x_j (x_b ((8 * v15_95) + v18_95).toNatClampNeg).toNatClampNeg).toInt64) hx hb dL_fragments_119 rfl ?_
        refine lv_lload hx hb dL_fragments_120 (lv_at hl 15 rfl) ?_
        refine W.lcmp hx hb dL_fragments_122 ?_
        refine lv_if_ge (tgt := 144) hx hb dL_fragments_123 (by decide) (fun c15 => ?_) (fun c15 => ?_)
        · replace h := ite_t c15 h
          refine lv_lload hx hb dL_fragments_144 (lv_at hl 15 rfl) ?_
          refine lv_lstore (lv' := [(16, .long v16_95), (1, .ref a_w), (2, .ref a_u), (3, .ref a_x), (4, .ref a_j), (5, .ref a_b), (6, .ref a_m), (7, .ref a_z), (8, .int v8_95), (9, .int v9_95), (10, .int v10_95), (11, .ref a_nw1), (12, .ref a_nw2), (13, .int v13_95), (14, .int v14_95), (15, .int v15_95), (18, .int v18_95)]) hx hb dL_fragments_146 hl (by decide) rfl (fun ls hl => ?_)
          obtain ⟨w18_16, ew18_16⟩ : ∃ y : Int32, y = v18_95 + 1 := ⟨_, rfl⟩
          replace h := lb_at ew18_16 h
          refine lv_iinc (v := w18_16) (lv' := [(18, .int w18_16), (16, .long v16_95), (1, .ref a_w), (2, .ref a_u), (3, .ref a_x), (4, .ref a_j), (5, .ref a_b), (6, .ref a_m), (7, .ref a_z), (8, .int v8_95), (9, .int v9_95), (10, .int v10_95), (11, .ref a_nw1), (12, .ref a_nw2), (13, .int v13_95), (14, .int v14_95), (15, .int v15_95)]) hx hb dL_fragments_148 hl (k := 16) rfl (by rw [ew18_16]; rfl) (by decide) rfl (fun ls hl => ?_)
          refine lv_goto (tgt := 95) hx hb dL_fragments_151 (by decide) ?_
          exact ih _ _ _ _ _ _ _ _ _ _ _ _ hN_95 H locs ls _ _ hW (lv_sub hl [2, 3, 4, 5, 6, 7, 8, 9, 10, 11, 12, 13, 14, 15, 16, 1, 0] rfl) h k1
        · replace h := ite_f c15 h
          refine lv_aload hx hb dL_fragments_126 (lv_at hl 3 rfl) ?_
          refine lv_aload hx hb dL_fragments_128 (lv_at hl 4 rfl) ?_
          refine lv_bipush (v := 8) hx hb dL_fragments_130 (by decide) ?_
          refine lv_iload hx hb dL_fragments_132 (lv_at hl 14 rfl) ?_
          refine lv_imul hx hb dL_fragments_134 ?_
          refine lv_iload hx hb dL_fragments_135 (lv_at hl 16 rfl) ?_
          refine lv_iadd hx hb dL_fragments_137 ?_
          obtain ⟨g17, h⟩ := grd_s h
          refine g_iald hx hb hK hW 7 rfl g17 dL_fragments_138 ?_
          obtain ⟨g18, h⟩ := grd_s h
          refine g_iald hx hb hK hW 6 rfl g18 dL_fragments_139 ?_
          refine lv_i2l (v := (x_j (x_b ((8 * v15_95) + v18_95).toNatClampNeg).toNatClampNeg).toInt64) hx hb dL_fragments_140 rfl ?_
          refine lv_goto (tgt := 146) hx hb dL_fragments_141 (by decide) ?_
          refine lv_topl (fun w16_19 ew16_19 => ?_)
          replace h := lb_at ew16_19 h
          refine lv_lstore (lv' := [(16, .long w16_19), (1, .ref a_w), (2, .ref a_u), (3, .ref a_x), (4, .ref a_j), (5, .ref a_b), (6, .ref a_m), (7, .ref a_z), (8, .int v8_95), (9, .int v9_95), (10, .int v10_95), (11, .ref a_nw1), (12, .ref a_nw2), (13, .int v13_95), (14, .int v14_95), (15, .int v15_95), (18, .int v18_95)]) hx hb dL_fragments_146 hl (by decide) rfl (fun ls hl => ?_)
          obtain ⟨w18_20, ew18_20⟩ : ∃ y : Int32, y = v18_95 + 1 := ⟨_, rfl⟩
          replace h := lb_at ew18_20 h
          refine lv_iinc (v := w18_20) (lv' := [(18, .int w18_20), (16, .long w16_19), (1, .ref a_w), (2, .ref a_u), (3, .ref a_x), (4, .ref a_j), (5, .ref a_b), (6, .ref a_m), (7, .ref a_z), (8, .int v8_95), (9, .int v9_95), (10, .int v10_95), (11, .ref a_nw1), (12, .ref a_nw2), (13, .int v13_95), (14, .int v14_95), (15, .int v15_95)]) hx hb dL_fragments_148 hl (k := 16) rfl (by rw [ew18_20]; rfl) (by decide) rfl (fun ls hl => ?_)
          refine lv_goto (tgt := 95) hx hb dL_fragments_151 (by decide) ?_
          exact ih _ _ _ _ _ _ _ _ _ _ _ _ hN_95 H locs ls _ _ hW (lv_sub hl [2, 3, 4, 5, 6, 7, 8, 9, 10, 11, 12, 13, 14, 15, 16, 1, 0] rfl) h k1
  have J196 : ∀ (x_z_196 : Nat → Int32) (x_nw1_196 : Nat → Int64) (x_nw2_196 : Nat → Int32) (x_N_196 : Nat) (v8_196 : Int32) (v9_196 : Int32) (v10_196 : Int32) (v13_196 : Int32) (v14_196 : Int32) (v18_196 : Int64) (s1_196 : Int32) (s2_196 : Int32) (hN_196 : x_N_196 ≤ 2) (H : Heap) (locs : List Loc) (ls : Array Slot) (code : Nat) (o14j : Int32) (y_nw1j : Nat → Int64) (y_nw2j : Nat → Int32), Wd D A s.heap (oA T 4 a_nw2 x_nw2_196 ++ (oJ T 4 a_nw1 x_nw1_196 ++ (oA T 12 a_c x_c ++ (oA T 24 a_w x_w ++ (oA T 2 a_u x_u ++ (oA T 6 a_x x_x ++ (oA T 64 a_j x_j ++ (oA T 48 a_b x_b ++ (oA T 6 a_m x_m ++ (oA T 64 a_z x_z_196 ++ Z)))))))))) H locs → lv_has ls 20 [(1, .ref a_w), (2, .ref a_u), (3, .ref a_x), (4, .ref a_j), (5, .ref a_b), (6, .ref a_m), (7, .ref a_z), (8, .int v8_196), (9, .int v9_196), (10, .int v10_196), (11, .ref a_nw1), (12, .ref a_nw2), (13, .int v13_196), (14, .int v14_196), (18, .long v18_196)] → f_L_fragments_J196 x_c x_w x_u x_x x_j x_b x_m x_z_196 x_nw1_196 x_nw2_196 x_N_196 v8_196 v9_196 v10_196 v13_196 v14_196 v18_196 s1_196 s2_196 = some (code, o14j, y_nw1j, y_nw2j) → (code = 0 → ∀ (H : Heap) (locs : List Loc) (ls : Array Slot), Wd D A s.heap (oA T 4 a_nw2 y_nw2j ++ (oJ T 4 a_nw1 y_nw1j ++ (oA T 12 a_c x_c ++ (oA T 24 a_w x_w ++ (oA T 2 a_u x_u ++ (oA T 6 a_x x_x ++ (oA T 64 a_j x_j ++ (oA T 48 a_b x_b ++ (oA T 6 a_m x_m ++ (oA T 64 a_z x_z_196 ++ Z)))))))))) H locs → lv_has ls 20 [(1, .ref a_w), (2, .ref a_u), (3, .ref a_x), (4, .ref a_j), (5, .ref a_b), (6, .ref a_m), (7, .ref a_z), (8, .int v8_196), (9, .int v9_196), (10, .int v10_196), (11, .ref a_nw1), (12, .ref a_nw2), (13, .int v13_196), (14, .int o14j)] → W p l e (rmL 1 2) s m args below meth c H locs x_N_196 (16 * x_N_196) Q (F0 m 41 ls [])) → (code = 1 → ∀ (H : Heap) (locs : List Loc) (ls : Array Slot), Wd D A s.heap (oA T 4 a_nw2 y_nw2j ++ (oJ T 4 a_nw1 y_nw1j ++ (oA T 12 a_c x_c ++ (oA T 24 a_w x_w ++ (oA T 2 a_u x_u ++ (oA T 6 a_x x_x ++ (oA T 64 a_j x_j ++ (oA T 48 a_b x_b ++ (oA T 6 a_m x_m ++ (oA T 64 a_z x_z_196 ++ Z)))))))))) H locs → lv_has ls 20 [(1, .ref a_w), (2, .ref a_u), (3, .ref a_x), (4, .ref a_j), (5, .ref a_b), (6, .ref a_m), (7, .ref a_z), (8, .int v8_196), (9, .int v9_196), (10, .int v10_196), (11, .ref a_nw1), (12, .ref a_nw2), (13, .int v13_196)] → W p l e (rmL 1 2) s m args below meth c H locs x_N_196 (16 * x_N_196) Q (F0 m 229 ls [])) → W p l e (rmL 1 2) s m args below meth c H locs x_N_196 (16 * x_N_196) Q (F0 m 196 ls [.int s2_196, .int s1_196, .ref a_nw2]) := by
    intro x_z_196 x_nw1_196 x_nw2_196 x_N_196 v8_196 v9_196 v10_196 v13_196 v14_196 v18_196 s1_196 s2_196 hN_196 H locs ls code o14j y_nw1j y_nw2j hW hl h k0 k1
    rw [f_L_fragments_J196] at h
    obtain ⟨g28, h⟩ := grd_s h
    refine g_iast (ws9 := oA T 4 a_nw2 (upd x_nw2_196 s1_196.toNatClampNeg s2_196) ++ (oJ T 4 a_nw1 x_nw1_196 ++ (oA T 12 a_c x_c ++ (oA T 24 a_w x_w ++ (oA T 2 a_u x_u ++ (oA T 6 a_x x_x ++ (oA T 64 a_j x_j ++ (oA T 48 a_b x_b ++ (oA T 6 a_m x_m ++ (oA T 64 a_z x_z_196 ++ Z)))))))))) hx hb hK hW 0 rfl g28 rfl dL_fragments_196 (fun H locs hW => ?_)
    obtain ⟨x_nw229, ex_nw229⟩ : ∃ y : Nat → Int32, y = upd x_nw2_196 s1_196.toNatClampNeg s2_196 := ⟨_, rfl⟩
    rw [← ex_nw229] at hW
    replace h := lb_at ex_nw229 h
    refine lv_aload hx hb dL_fragments_197 (lv_at hl 10 rfl) ?_
    refine lv_iload hx hb dL_fragments_199 (lv_at hl 12 rfl) ?_
    refine lv_lload hx hb dL_fragments_201 (lv_at hl 14 rfl) ?_
    refine lv_aload hx hb dL_fragments_203 (lv_at hl 10 rfl) ?_
    refine lv_iload hx hb dL_fragments_205 (lv_at hl 12 rfl) ?_
    obtain ⟨g30, h⟩ := grd_s h
    refine va_lald hx hb hK hW.1 1 3 rfl rfl (gd_in g30) dL_fragments_207 ?_
    refine W.lcmp hx hb dL_fragments_208 ?_
    refine lv_if_ge (tgt := 217) hx hb dL_fragments_209 (by decide) (fun c31 => ?_) (fun c31 => ?_)
    · replace h := ite_t c31 h
      refine lv_aload hx hb dL_fragments_217 (lv_at hl 10 rfl) ?_
      refine lv_iload hx hb dL_fragments_219 (lv_at hl 12 rfl) ?_
      obtain ⟨g32, h⟩ := grd_s h
      refine va_lald hx hb hK hW.1 1 3 rfl rfl (gd_in g32) dL_fragments_221 ?_
      obtain ⟨g33, h⟩ := grd_s h
      refine l_last (ws9 := oA T 4 a_nw2 x_nw229 ++ (oJ T 4 a_nw1 (vp_updL x_nw1_196 v13_196.toNatClampNeg (x_nw1_196 v13_196.toNatClampNeg)) ++ (oA T 12 a_c x_c ++ (oA T 24 a_w x_w ++ (oA T 2 a_u x_u ++ (oA T 6 a_x x_x ++ (oA T 64 a_j x_j ++ (oA T 48 a_b x_b ++ (oA T 6 a_m x_m ++ (oA T 64 a_z x_z_196 ++ Z)))))))))) hx hb hK hW 1 rfl g33 rfl dL_fragments_222 (fun H locs hW => ?_)
      obtain ⟨x_nw134, ex_nw134⟩ : ∃ y : Nat → Int64, y = vp_updL x_nw1_196 v13_196.toNatClampNeg (x_nw1_196 v13_196.toNatClampNeg) := ⟨_, rfl⟩
      rw [← ex_nw134] at hW
      replace h := lb_at ex_nw134 h
      obtain ⟨w14_35, ew14_35⟩ : ∃ y : Int32, y = v14_196 + 1 := ⟨_, rfl⟩
      replace h := lb_at ew14_35 h
      refine lv_iinc (v := w14_35) (lv' := [(14, .int w14_35), (1, .ref a_w), (2, .ref a_u), (3, .ref a_x), (4, .ref a_j), (5, .ref a_b), (6, .ref a_m), (7, .ref a_z), (8, .int v8_196), (9, .int v9_196), (10, .int v10_196), (11, .ref a_nw1), (12, .ref a_nw2), (13, .int v13_196), (18, .long v18_196)]) hx hb dL_fragments_223 hl (k := 13) rfl (by rw [ew14_35]; rfl) (by decide) rfl (fun ls hl => ?_)
      refine lv_goto (tgt := 41) hx hb dL_fragments_226 (by decide) ?_
      obtain ⟨rfl, rfl, rfl, rfl⟩ := ret4 h
      exact k0 rfl H locs ls hW (lv_sub hl [1, 2, 3, 4, 5, 6, 7, 8, 9, 10, 11, 12, 13, 0] rfl)
    · replace h := ite_f c31 h
      refine lv_lload hx hb dL_fragments_212 (lv_at hl 14 rfl) ?_
      refine lv_goto (tgt := 222) hx hb dL_fragments_214 (by decide) ?_
      obtain ⟨g36, h⟩ := grd_s h
      refine l_last (ws9 := oA T 4 a_nw2 x_nw229 ++ (oJ T 4 a_nw1 (vp_updL x_nw1_196 v13_196.toNatClampNeg v18_196) ++ (oA T 12 a_c x_c ++ (oA T 24 a_w x_w ++ (oA T 2 a_u x_u ++ (oA T 6 a_x x_x ++ (oA T 64 a_j x_j ++ (oA T 48 a_b x_b ++ (oA T 6 a_m x_m ++ (oA T 64 a_z x_z_196 ++ Z)))))))))) hx hb hK hW 1 rfl g36 rfl dL_fragments_222 (fun H locs hW => ?_)
      obtain ⟨x_nw137, ex_nw137⟩ : ∃ y : Nat → Int64, y = vp_updL x_nw1_196 v13_196.toNatClampNeg v18_196 := ⟨_, rfl⟩
      rw [← ex_nw137] at hW
      replace h := lb_at ex_nw137 h
      obtain ⟨w14_38, ew14_38⟩ : ∃ y : Int32, y = v14_196 + 1 := ⟨_, rfl⟩
      replace h := lb_at ew14_38 h
      refine lv_iinc (v := w14_38) (lv' := [(14, .int w14_38), (1, .ref a_w), (2, .ref a_u), (3, .ref a_x), (4, .ref a_j), (5, .ref a_b), (6, .ref a_m), (7, .ref a_z), (8, .int v8_196), (9, .int v9_196), (10, .int v10_196), (11, .ref a_nw1), (12, .ref a_nw2), (13, .int v13_196), (18, .long v18_196)]) hx hb dL_fragments_223 hl (k := 13) rfl (by rw [ew14_38]; rfl) (by decide) rfl (fun ls hl => ?_)
      refine lv_goto (tgt := 41) hx hb dL_fragments_226 (by decide) ?_
      obtain ⟨rfl, rfl, rfl, rfl⟩ := ret4 h
      exact k0 rfl H locs ls hW (lv_sub hl [1, 2, 3, 4, 5, 6, 7, 8, 9, 10, 11, 12, 13, 0] rfl)
  have J90 : ∀ (x_z_90 : Nat → Int32) (x_nw1_90 : Nat → Int64) (x_nw2_90 : Nat → Int32) (x_N_90 : Nat) (v8_90 : Int32) (v9_90 : Int32) (v10_90 : Int32) (v13_90 : Int32) (v14_90 : Int32) (v15_90 : Int32) (s0_90 : Int64) (hN_90 : x_N_90 ≤ 2) (H : Heap) (locs : List Loc) (ls : Array Slot) (code : Nat) (o14j : Int32) (y_nw1j : Nat → Int64) (y_nw2j : Nat → Int32), Wd D A s.heap (oA T 4 a_nw2 x_nw2_90 ++ (oJ T 4 a_nw1 x_nw1_90 ++ (oA T 12 a_c x_c ++ (oA T 24 a_w x_w ++ (oA T 2 a_u x_u ++ (oA T 6 a_x x_x ++ (oA T 64 a_j x_j ++ (oA T 48 a_b x_b ++ (oA T 6 a_m x_m ++ (oA T 64 a_z x_z_90 ++ Z)))))))))) H locs → lv_has ls 20 [(1, .ref a_w), (2, .ref a_u), (3, .ref a_x), (4, .ref a_j), (5, .ref a_b), (6, .ref a_m), (7, .ref a_z), (8, .int v8_90), (9, .int v9_90), (10, .int v10_90), (11, .ref a_nw1), (12, .ref a_nw2), (13, .int v13_90), (14, .int v14_90), (15, .int v15_90)] → f_L_fragments_J90 x_c x_w x_u x_x x_j x_b x_m x_z_90 x_nw1_90 x_nw2_90 x_N_90 v8_90 v9_90 v10_90 v13_90 v14_90 v15_90 s0_90 = some (code, o14j, y_nw1j, y_nw2j) → (code = 0 → ∀ (H : Heap) (locs : List Loc) (ls : Array Slot), Wd D A s.heap (oA T 4 a_nw2 y_nw2j ++ (oJ T 4 a_nw1 y_nw1j ++ (oA T 12 a_c x_c ++ (oA T 24 a_w x_w ++ (oA T 2 a_u x_u ++ (oA T 6 a_x x_x ++ (oA T 64 a_j x_j ++ (oA T 48 a_b x_b ++ (oA T 6 a_m x_m ++ (oA T 64 a_z x_z_90 ++ Z)))))))))) H locs → lv_has ls 20 [(1, .ref a_w), (2, .ref a_u), (3, .ref a_x), (4, .ref a_j), (5, .ref a_b), (6, .ref a_m), (7, .ref a_z), (8, .int v8_90), (9, .int v9_90), (10, .int v10_90), (11, .ref a_nw1), (12, .ref a_nw2), (13, .int v13_90), (14, .int o14j)] → W p l e (rmL 1 2) s m args below meth c H locs x_N_90 (16 * x_N_90) Q (F0 m 41 ls [])) → (code = 1 → ∀ (H : Heap) (locs : List Loc) (ls : Array Slot), Wd D A s.heap (oA T 4 a_nw2 y_nw2j ++ (oJ T 4 a_nw1 y_nw1j ++ (oA T 12 a_c x_c ++ (oA T 24 a_w x_w ++ (oA T 2 a_u x_u ++ (oA T 6 a_x x_x ++ (oA T 64 a_j x_j ++ (oA T 48 a_b x_b ++ (oA T 6 a_m x_m ++ (oA T 64 a_z x_z_90 ++ Z)))))))))) H locs → lv_has ls 20 [(1, .ref a_w), (2, .ref a_u), (3, .ref a_x), (4, .ref a_j), (5, .ref a_b), (6, .ref a_m), (7, .ref a_z), (8, .int v8_90), (9, .int v9_90), (10, .int v10_90), (11, .ref a_nw1), (12, .ref a_nw2), (13, .int v13_90)] → W p l e (rmL 1 2) s m args below meth c H locs x_N_90 (16 * x_N_90) Q (F0 m 229 ls [])) → W p l e (rmL 1 2) s m args below meth c H locs x_N_90 (16 * x_N_90) Q (F0 m 90 ls [.long s0_90]) := by
    intro x_z_90 x_nw1_90 x_nw2_90 x_N_90 v8_90 v9_90 v10_90 v13_90 v14_90 v15_90 s0_90 hN_90 H locs ls code o14j y_nw1j y_nw2j hW hl h k0 k1
    rw [f_L_fragments_J90] at h
    refine lv_lstore (lv' := [(16, .long s0_90), (1, .ref a_w), (2, .ref a_u), (3, .ref a_x), (4, .ref a_j), (5, .ref a_b), (6, .ref a_m), (7, .ref a_z), (8, .int v8_90), (9, .int v9_90), (10, .int v10_90), (11, .ref a_nw1), (12, .ref a_nw2), (13, .int v13_90), (14, .int v14_90), (15, .int v15_90)]) hx hb dL_fragments_90 hl (by decide) rfl (fun ls hl => ?_)
    refine lv_iconst (v := 0) hx hb dL_fragments_92 (by decide) ?_
    refine lv_istore (lv' := [(18, .int 0), (16, .long s0_90), (1, .ref a_w), (2, .ref a_u), (3, .ref a_x), (4, .ref a_j), (5, .ref a_b), (6, .ref a_m), (7, .ref a_z), (8, .int v8_90), (9, .int v9_90), (10, .int v10_90), (11, .ref a_nw1), (12, .ref a_nw2), (13, .int v13_90), (14, .int v14_90), (15, .int v15_90)]) hx hb dL_fragments_93 hl (by decide) rfl (fun ls hl => ?_)
    obtain ⟨o16_u21, o18_u21, q22, h⟩ := bnd2_s h
    refine L95 400 _ _ _ _ _ _ _ _ _ _ _ _ hN_90 H locs ls o16_u21 o18_u21 hW (lv_sub hl [2, 3, 4, 5, 6, 7, 8, 9, 10, 11, 12, 13, 14, 15, 16, 1, 0] rfl) q22 (fun H locs ls hW hl => ?_)
    refine lv_lload hx hb dL_fragments_154 (lv_at hl 14 rfl) ?_
    refine lv_ldc2 (v := (100000 : Int64)) hx hb hown (hts _ wm39_20) dL_fragments_156 ?_
    refine lv_ladd hx hb dL_fragments_159 ?_
    refine lv_aload hx hb dL_fragments_160 (lv_at hl 10 rfl) ?_
    refine lv_iload hx hb dL_fragments_162 (lv_at hl 12 rfl) ?_
    refine lv_iload hx hb dL_fragments_164 (lv_at hl 13 rfl) ?_
    refine lv_iadd hx hb dL_fragments_166 ?_
    obtain ⟨g23, h⟩ := grd_s h
    refine va_lald hx hb hK hW.1 1 3 rfl rfl (gd_in g23) dL_fragments_167 ?_
    refine lv_ladd hx hb dL_fragments_168 ?_
    refine lv_topl (fun w18_24 ew18_24 => ?_)
    replace h := lb_at ew18_24 h
    refine lv_lstore (lv' := [(18, .long w18_24), (1, .ref a_w), (2, .ref a_u), (3, .ref a_x), (4, .ref a_j), (5, .ref a_b), (6, .ref a_m), (7, .ref a_z), (8, .int v8_90), (9, .int v9_90), (10, .int v10_90), (11, .ref a_nw1), (12, .ref a_nw2), (13, .int v13_90), (14, .int v14_90), (16, .long o16_u21)]) hx hb dL_fragments_169 hl (by decide) rfl (fun ls hl => ?_)
    refine lv_aload hx hb dL_fragments_171 (lv_at hl 12 rfl) ?_
    refine lv_iload hx hb dL_fragments_173 (lv_at hl 13 rfl) ?_
    refine lv_lload hx hb dL_fragments_175 (lv_at hl 0 rfl) ?_
    refine lv_aload hx hb dL_fragments_177 (lv_at hl 11 rfl) ?_
    refine lv_iload hx hb dL_fragments_179 (lv_at hl 13 rfl) ?_
    obtain ⟨g25, h⟩ := grd_s h
    refine va_lald hx hb hK hW.1 1 3 rfl rfl (gd_in g25) dL_fragments_181 ?_
    refine W.lcmp hx hb dL_fragments_182 ?_
    refine lv_if_gt (tgt := 191) hx hb dL_fragments_183 (by decide) (fun c26 => ?_) (fun c26 => ?_)
    · replace h := ite_t c26 h
      refine lv_aload hx hb dL_fragments_191 (lv_at hl 12 rfl) ?_
      refine lv_iload hx hb dL_fragments_193 (lv_at hl 13 rfl) ?_
      obtain ⟨g27, h⟩ := grd_s h
      refine g_iald hx hb hK hW 0 rfl g27 dL_fragments_195 ?_
      exact J196 _ _ _ _ _ _ _ _ _ _ _ _ hN_90 H locs ls _ _ _ _ hW (lv_sub hl [1, 2, 3, 4, 5, 6, 7, 8, 9, 10, 11, 12, 13, 14, 0] rfl) h k0 k1
    · replace h := ite_f c26 h
      refine lv_iload hx hb dL_fragments_186 (lv_at hl 14 rfl) ?_
      refine lv_goto (tgt := 196) hx hb dL_fragments_188 (by decide) ?_
      exact J196 _ _ _ _ _ _ _ _ _ _ _ _ hN_90 H locs ls _ _ _ _ hW (lv_sub hl [1, 2, 3, 4, 5, 6, 7, 8, 9, 10, 11, 12, 13, 14, 0] rfl) h k0 k1
  have J87 : ∀ (x_z_87 : Nat → Int32) (x_nw1_87 : Nat → Int64) (x_nw2_87 : Nat → Int32) (x_N_87 : Nat) (v8_87 : Int32) (v9_87 : Int32) (v10_87 : Int32) (v13_87 : Int32) (v14_87 : Int32) (v15_87 : Int32) (hN_87 : x_N_87 ≤ 2) (H : Heap) (locs : List Loc) (ls : Array Slot) (code : Nat) (o14j : Int32) (y_nw1j : Nat → Int64) (y_nw2j : Nat → Int32), Wd D A s.heap (oA T 4 a_nw2 x_nw2_87 ++ (oJ T 4 a_nw1 x_nw1_87 ++ (oA T 12 a_c x_c ++ (oA T 24 a_w x_w ++ (oA T 2 a_u x_u ++ (oA T 6 a_x x_x ++ (oA T 64 a_j x_j ++ (oA T 48 a_b x_b ++ (oA T 6 a_m x_m ++ (oA T 64 a_z x_z_87 ++ Z)))))))))) H locs → lv_has ls 20 [(1, .ref a_w), (2, .ref a_u), (3, .ref a_x), (4, .ref a_j), (5, .ref a_b), (6, .ref a_m), (7, .ref a_z), (8, .int v8_87), (9, .int v9_87), (10, .int v10_87), (11, .ref a_nw1), (12, .ref a_nw2), (13, .int v13_87), (14, .int v14_87), (15, .int v15_87)] → f_L_fragments_J87 x_c x_w x_u x_x x_j x_b x_m x_z_87 x_nw1_87 x_nw2_87 x_N_87 v8_87 v9_87 v10_87 v13_87 v14_87 v15_87 = some (code, o14j, y_nw1j, y_nw2j) → (code = 0 → ∀ (H : Heap) (locs : List Loc) (ls : Array Slot), Wd D A s.heap (oA T 4 a_nw2 y_nw2j ++ (oJ T 4 a_nw1 y_nw1j ++ (oA T 12 a_c x_c ++ (oA T 24 a_w x_w ++ (oA T 2 a_u x_u ++ (oA T 6 a_x x_x ++ (oA T 64 a_j x_j ++ (oA T 48 a_b x_b ++ (oA T 6 a_m x_m ++ (oA T 64 a_z x_z_87 ++ Z)))))))))) H locs → lv_has ls 20 [(1, .ref a_w), (2, .ref a_u), (3, .ref a_x), (4, .ref a_j), (5, .ref a_b), (6, .ref a_m), (7, .ref a_z), (8, .int v8_87), (9, .int v9_87), (10, .int v10_87), (11, .ref a_nw1), (12, .ref a_nw2), (13, .int v13_87), (14, .int o14j)] → W p l e (rmL 1 2) s m args below meth c H locs x_N_87 (16 * x_N_87) Q (F0 m 41 ls [])) → (code = 1 → ∀ (H : Heap) (locs : List Loc) (ls : Array Slot), Wd D A s.heap (oA T 4 a_nw2 y_nw2j ++ (oJ T 4 a_nw1 y_nw1j ++ (oA T 12 a_c x_c ++ (oA T 24 a_w x_w ++ (oA T 2 a_u x_u ++ (oA T 6 a_x x_x ++ (oA T 64 a_j x_j ++ (oA T 48 a_b x_b ++ (oA T 6 a_m x_m ++ (oA T 64 a_z x_z_87 ++ Z)))))))))) H locs → lv_has ls 20 [(1, .ref a_w), (2, .ref a_u), (3, .ref a_x), (4, .ref a_j), (5, .ref a_b), (6, .ref a_m), (7, .ref a_z), (8, .int v8_87), (9, .int v9_87), (10, .int v10_87), (11, .ref a_nw1), (12, .ref a_nw2), (13, .int v13_87)] → W p l e (rmL 1 2) s m args below meth c H locs x_N_87 (16 * x_N_87) Q (F0 m 229 ls [])) → W p l e (rmL 1 2) s m args below meth c H locs x_N_87 (16 * x_N_87) Q (F0 m 87 ls []) := by
    intro x_z_87 x_nw1_87 x_nw2_87 x_N_87 v8_87 v9_87 v10_87 v13_87 v14_87 v15_87 hN_87 H locs ls code o14j y_nw1j y_nw2j hW hl h k0 k1
    rw [f_L_fragments_J87] at h
    refine lv_ldc2 (v := (1000000000 : Int64)) hx hb hown (hts _ wm39_19) dL_fragments_87 ?_
    exact J90 _ _ _ _ _ _ _ _ _ _ _ hN_87 H locs ls _ _ _ _ hW (lv_sub hl [0, 1, 2, 3, 4, 5, 6, 7, 8, 9, 10, 11, 12, 13, 14] rfl) h k0 k1
  have L41 : ∀ (n : Nat) (x_z_41 : Nat → Int32) (x_nw1_41 : Nat → Int64) (x_nw2_41 : Nat → Int32) (x_N_41 : Nat) (v8_41 : Int32) (v9_41 : Int32) (v10_41 : Int32) (v13_41 : Int32) (v14_41 : Int32) (hN_41 : x_N_41 ≤ 2) (H : Heap) (locs : List Loc) (ls : Array Slot) (o14_41r : Int32) (y_nw1_41r : Nat → Int64) (y_nw2_41r : Nat → Int32), Wd D A s.heap (oA T 4 a_nw2 x_nw2_41 ++ (oJ T 4 a_nw1 x_nw1_41 ++ (oA T 12 a_c x_c ++ (oA T 24 a_w x_w ++ (oA T 2 a_u x_u ++ (oA T 6 a_x x_x ++ (oA T 64 a_j x_j ++ (oA T 48 a_b x_b ++ (oA T 6 a_m x_m ++ (oA T 64 a_z x_z_41 ++ Z)))))))))) H locs → lv_has ls 20 [(1, .ref a_w), (2, .ref a_u), (3, .ref a_x), (4, .ref a_j), (5, .ref a_b), (6, .ref a_m), (7, .ref a_z), (8, .int v8_41), (9, .int v9_41), (10, .int v10_41), (11, .ref a_nw1), (12, .ref a_nw2), (13, .int v13_41), (14, .int v14_41)] → f_L_fragments_L41 n x_c x_w x_u x_x x_j x_b x_m x_z_41 x_nw1_41 x_nw2_41 x_N_41 v8_41 v9_41 v10_41 v13_41 v14_41 = some (o14_41r, y_nw1_41r, y_nw2_41r) → (∀ (H : Heap) (locs : List Loc) (ls : Array Slot), Wd D A s.heap (oA T 4 a_nw2 y_nw2_41r ++ (oJ T 4 a_nw1 y_nw1_41r ++ (oA T 12 a_c x_c ++ (oA T 24 a_w x_w ++ (oA T 2 a_u x_u ++ (oA T 6 a_x x_x ++ (oA T 64 a_j x_j ++ (oA T 48 a_b x_b ++ (oA T 6 a_m x_m ++ (oA T 64 a_z x_z_41 ++ Z)))))))))) H locs → lv_has ls 20 [(1, .ref a_w), (2, .ref a_u), (3, .ref a_x), (4, .ref a_j), (5, .ref a_b), (6, .ref a_m), (7, .ref a_z), (8, .int v8_41), (9, .int v9_41), (10, .int v10_41), (11, .ref a_nw1), (12, .ref a_nw2), (13, .int v13_41)] → W p l e (rmL 1 2) s m args below meth c H locs x_N_41 (16 * x_N_41) Q (F0 m 229 ls [])) → W p l e (rmL 1 2) s m args below meth c H locs x_N_41 (16 * x_N_41) Q (F0 m 41 ls []) := by
    intro n
    induction n with
    | zero =>
      intro x_z_41 x_nw1_41 x_nw2_41 x_N_41 v8_41 v9_41 v10_41 v13_41 v14_41 hN_41 H locs ls o14_41r y_nw1_41r y_nw2_41r hW hl h k1
      rw [f_L_fragments_L41] at h
      cases h
    | succ n ih =>
      intro x_z_41 x_nw1_41 x_nw2_41 x_N_41 v8_41 v9_41 v10_41 v13_41 v14_41 hN_41 H locs ls o14_41r y_nw1_41r y_nw2_41r hW hl h k1
      rw [f_L_fragments_L41] at h
      refine lv_iload hx hb dL_fragments_41 (lv_at hl 12 rfl) ?_
      refine lv_iload hx hb dL_fragments_43 (lv_at hl 13 rfl) ?_
      refine lv_iadd hx hb dL_fragments_45 ?_
      refine lv_iload hx hb dL_fragments_46 (lv_at hl 9 rfl) ?_
      refine lv_icmp_gt (tgt := 229) hx hb dL_fragments_48 (by decide) (fun c7 => ?_) (fun c7 => ?_)
      · replace h := ite_t c7 h
        obtain ⟨rfl, rfl, rfl⟩ := ret3 h
        exact k1 H locs ls hW (lv_sub hl [0, 1, 2, 3, 4, 5, 6, 7, 8, 9, 10, 11, 12] rfl)
      · replace h := ite_f c7 h
        refine lv_iload hx hb dL_fragments_51 (lv_at hl 12 rfl) ?_
        refine lv_iload hx hb dL_fragments_53 (lv_at hl 13 rfl) ?_
        obtain ⟨r8, q9, h⟩ := bnd1_s h
        refine cs_L_52 hx hb hml hown hts hK hN hE hC hA hW (c_L_span l D T A (oA T 4 a_nw2 x_nw2_41 ++ (oJ T 4 a_nw1 x_nw1_41 ++ (oA T 12 a_c x_c ++ (oA T 24 a_w x_w ++ (oA T 2 a_u x_u ++ (oA T 6 a_x x_x ++ (oA T 64 a_j x_j ++ (oA T 48 a_b x_b ++ (oA T 6 a_m x_m ++ (oA T 64 a_z x_z_41 ++ Z)))))))))) v13_41 v14_41 r8 q9) ⟨Nat.le_of_ble_eq_true rfl, Nat.le_of_ble_eq_true rfl⟩ hl.1 rfl (Nat.le_of_ble_eq_true rfl) dL_fragments_55 (hf0 hN_41) rfl (fun H locs hW => ?_)
        refine lv_istore (lv' := [(15, .int r8), (1, .ref a_w), (2, .ref a_u), (3, .ref a_x), (4, .ref a_j), (5, .ref a_b), (6, .ref a_m), (7, .ref a_z), (8, .int v8_41), (9, .int v9_41), (10, .int v10_41), (11, .ref a_nw1), (12, .ref a_nw2), (13, .int v13_41), (14, .int v14_41)]) hx hb dL_fragments_58 hl (by decide) rfl (fun ls hl => ?_)
        refine lv_iload hx hb dL_fragments_60 (lv_at hl 14 rfl) ?_
        refine lv_iconst (v := 1) hx hb dL_fragments_62 (by decide) ?_
        refine lv_icmp_ne (tgt := 87) hx hb dL_fragments_63 (by decide) (fun c10 => ?_) (fun c10 => ?_)
        · replace h := ite_f c10 h
          obtain ⟨code40, o14_t39, y_nw1_t39, y_nw2_t39, q41, h⟩ := bnd4_s h
          refine J87 _ _ _ _ _ _ _ _ _ _ hN_41 H locs ls code40 o14_t39 y_nw1_t39 y_nw2_t39 hW (lv_sub hl [1, 2, 3, 4, 5, 6, 7, 8, 9, 10, 11, 12, 13, 14, 0] rfl) q41 (fun hc H locs ls hW hl => ?_) (fun hc H locs ls hW hl => ?_)
          · replace h := ite_t hc h
            exact ih _ _ _ _ _ _ _ _ _ hN_41 H locs ls _ _ _ hW (lv_sub hl [0, 1, 2, 3, 4, 5, 6, 7, 8, 9, 10, 11, 12, 13] rfl) h k1
          · replace h := ite_f (by rw [hc]; decide) h
            obtain ⟨rfl, rfl, rfl⟩ := ret3 h
            exact k1 H locs ls hW hl
        · replace h := ite_t c10 h
          refine lv_aload_n hx hb dL_fragments_66 rfl (lv_at hl 1 rfl) ?_
          refine lv_aload_n hx hb dL_fragments_67 rfl (lv_at hl 2 rfl) ?_
          refine lv_aload_n hx hb dL_fragments_68 rfl (lv_at hl 3 rfl) ?_
          refine lv_iconst (v := 3) hx hb dL_fragments_69 (by decide) ?_
          refine lv_iload hx hb dL_fragments_70 (lv_at hl 8 rfl) ?_
          refine lv_imul hx hb dL_fragments_72 ?_
          refine lv_iload hx hb dL_fragments_73 (lv_at hl 13 rfl) ?_
          refine lv_iadd hx hb dL_fragments_75 ?_
          obtain ⟨g42, h⟩ := grd_s h
          refine g_iald hx hb hK hW 5 rfl g42 dL_fragments_76 ?_
          replace hW := hW.perm pf4
          replace hW := hW.perm pf4
          obtain ⟨r43, q44, h⟩ := bnd1_s h
          refine cs_L_9 hx hb hml hown hts hK hN hE hC hA hW (c_L_readings l D T A a_w a_u (oA T 4 a_nw2 x_nw2_41 ++ (oJ T 4 a_nw1 x_nw1_41 ++ (oA T 12 a_c x_c ++ (oA T 6 a_x x_x ++ (oA T 64 a_j x_j ++ (oA T 48 a_b x_b ++ (oA T 6 a_m x_m ++ (oA T 64 a_z x_z_41 ++ Z)))))))) x_w x_u (x_x ((3 * v8_41) + v13_41).toNatClampNeg) r43 q44) ⟨Nat.le_of_ble_eq_true rfl, Nat.le_of_ble_eq_true rfl⟩ hl.1 rfl (Nat.le_of_ble_eq_true rfl) dL_fragments_77 (hf0 hN_41) rfl (fun H locs hW => ?_)
          replace hW := hW.perm pf9
          replace hW := hW.perm pf9
          replace hW := hW.perm pf9
          replace hW := hW.perm pf9
          replace hW := hW.perm pf9
          replace hW := hW.perm pf6
          replace hW := hW.perm pf6
          replace hW := hW.perm pf9
          replace hW := hW.perm pf9
          replace hW := hW.perm pf9
          refine lv_if_ne (tgt := 87) hx hb dL_fragments_80 (by decide) (fun c45 => ?_) (fun c45 => ?_)
          · replace h := ite_f c45 h
            obtain ⟨code47, o14_t46, y_nw1_t46, y_nw2_t46, q48, h⟩ := bnd4_s h
            refine J87 _ _ _ _ _ _ _ _ _ _ hN_41 H locs ls code47 o14_t46 y_nw1_t46 y_nw2_t46 hW (lv_sub hl [1, 2, 3, 4, 5, 6, 7, 8, 9, 10, 11, 12, 13, 14, 0] rfl) q48 (fun hc H locs ls hW hl => ?_) (fun hc H locs ls hW hl => ?_)
            · replace h := ite_t hc h
              exact ih _ _ _ _ _ _ _ _ _ hN_41 H locs ls _ _ _ hW (lv_sub hl [0, 1, 2, 3, 4, 5, 6, 7, 8, 9, 10, 11, 12, 13] rfl) h k1
            · replace h := ite_f (by rw [hc]; decide) h
              obtain ⟨rfl, rfl, rfl⟩ := ret3 h
              exact k1 H locs ls hW hl
          · replace h := ite_t c45 h
            refine lv_lconst (v := 0) hx hb dL_fragments_83 (by decide) ?_
            refine lv_goto (tgt := 90) hx hb dL_fragments_84 (by decide) ?_
            obtain ⟨code50, o14_t49, y_nw1_t49, y_nw2_t49, q51, h⟩ := bnd4_s h
            refine J90 _ _ _ _ _ _ _ _ _ _ _ hN_41 H locs ls code50 o14_t49 y_nw1_t49 y_nw2_t49 hW (lv_sub hl [1, 2, 3, 4, 5, 6, 7, 8, 9, 10, 11, 12, 13, 14, 0] rfl) q51 (fun hc H locs ls hW hl => ?_) (fun hc H locs ls hW hl => ?_)
            · replace h := ite_t hc h
              exact ih _ _ _ _ _ _ _ _ _ hN_41 H locs ls _ _ _ hW (lv_sub hl [0, 1, 2, 3, 4, 5, 6, 7, 8, 9, 10, 11, 12, 13] rfl) h k1
            · replace h := ite_f (by rw [hc]; decide) h
              obtain ⟨rfl, rfl, rfl⟩ := ret3 h
              exact k1 H locs ls hW hl
  have L25 : ∀ (n : Nat) (x_z_25 : Nat → Int32) (x_nw1_25 : Nat → Int64) (x_nw2_25 : Nat → Int32) (x_N_25 : Nat) (v8_25 : Int32) (v9_25 : Int32) (v10_25 : Int32) (v13_25 : Int32) (hN_25 : x_N_25 ≤ 2) (H : Heap) (locs : List Loc) (ls : Array Slot) (o13_25r : Int32) (y_nw1_25r : Nat → Int64) (y_nw2_25r : Nat → Int32), Wd D A s.heap (oA T 4 a_nw2 x_nw2_25 ++ (oJ T 4 a_nw1 x_nw1_25 ++ (oA T 12 a_c x_c ++ (oA T 24 a_w x_w ++ (oA T 2 a_u x_u ++ (oA T 6 a_x x_x ++ (oA T 64 a_j x_j ++ (oA T 48 a_b x_b ++ (oA T 6 a_m x_m ++ (oA T 64 a_z x_z_25 ++ Z)))))))))) H locs → lv_has ls 20 [(1, .ref a_w), (2, .ref a_u), (3, .ref a_x), (4, .ref a_j), (5, .ref a_b), (6, .ref a_m), (7, .ref a_z), (8, .int v8_25), (9, .int v9_25), (10, .int v10_25), (11, .ref a_nw1), (12, .ref a_nw2), (13, .int v13_25)] → f_L_fragments_L25 n x_c x_w x_u x_x x_j x_b x_m x_z_25 x_nw1_25 x_nw2_25 x_N_25 v8_25 v9_25 v10_25 v13_25 = some (o13_25r, y_nw1_25r, y_nw2_25r) → (∀ (H : Heap) (locs : List Loc) (ls : Array Slot), Wd D A s.heap (oA T 4 a_nw2 y_nw2_25r ++ (oJ T 4 a_nw1 y_nw1_25r ++ (oA T 12 a_c x_c ++ (oA T 24 a_w x_w ++ (oA T 2 a_u x_u ++ (oA T 6 a_x x_x ++ (oA T 64 a_j x_j ++ (oA T 48 a_b x_b ++ (oA T 6 a_m x_m ++ (oA T 64 a_z x_z_25 ++ Z)))))))))) H locs → lv_has ls 20 [(7, .ref a_z), (9, .int v9_25), (10, .int v10_25), (12, .ref a_nw2)] → W p l e (rmL 1 2) s m args below meth c H locs x_N_25 (16 * x_N_25) Q (F0 m 235 ls [])) → W p l e (rmL 1 2) s m args below meth c H locs x_N_25 (16 * x_N_25) Q (F0 m 25 ls []) := by
    intro n
    induction n with
    | zero =>
      intro x_z_25 x_nw1_25 x_nw2_25 x_N_25 v8_25 v9_25 v10_25 v13_25 hN_25 H locs ls o13_25r y_nw1_25r y_nw2_25r hW hl h k1
      rw [f_L_fragments_L25] at h
      cases h
    | succ n ih =>
      intro x_z_25 x_nw1_25 x_nw2_25 x_N_25 v8_25 v9_25 v10_25 v13_25 hN_25 H locs ls o13_25r y_nw1_25r y_nw2_25r hW hl h k1
      rw [f_L_fragments_L25] at h
      refine lv_iload hx hb dL_fragments_25 (lv_at hl 12 rfl) ?_
      refine lv_if_lt (tgt := 235) hx hb dL_fragments_27 (by decide) (fun c4 => ?_) (fun c4 => ?_)
      · replace h := ite_t c4 h
        obtain ⟨rfl, rfl, rfl⟩ := ret3 h
        exact k1 H locs ls hW (lv_sub hl [6, 8, 9, 11] rfl)
      · replace h := ite_f c4 h
        refine lv_aload hx hb dL_fragments_30 (lv_at hl 10 rfl) ?_
        refine lv_iload hx hb dL_fragments_32 (lv_at hl 12 rfl) ?_
        refine lv_ldc2 (v := (1000000000 : Int64)) hx hb hown (hts _ wm39_19) dL_fragments_34 ?_
        obtain ⟨g5, h⟩ := grd_s h
        refine l_last (ws9 := oA T 4 a_nw2 x_nw2_25 ++ (oJ T 4 a_nw1 (vp_updL x_nw1_25 v13_25.toNatClampNeg (1000000000 : Int64)) ++ (oA T 12 a_c x_c ++ (oA T 24 a_w x_w ++ (oA T 2 a_u x_u ++ (oA T 6 a_x x_x ++ (oA T 64 a_j x_j ++ (oA T 48 a_b x_b ++ (oA T 6 a_m x_m ++ (oA T 64 a_z x_z_25 ++ Z)))))))))) hx hb hK hW 1 rfl g5 rfl dL_fragments_37 (fun H locs hW => ?_)
        obtain ⟨x_nw16, ex_nw16⟩ : ∃ y : Nat → Int64, y = vp_updL x_nw1_25 v13_25.toNatClampNeg (1000000000 : Int64) := ⟨_, rfl⟩
        rw [← ex_nw16] at hW
        replace h := lb_at ex_nw16 h
        refine lv_iconst (v := 1) hx hb dL_fragments_38 (by decide) ?_
        refine lv_istore (lv' := [(14, .int 1), (1, .ref a_w), (2, .ref a_u), (3, .ref a_x), (4, .ref a_j), (5, .ref a_b), (6, .ref a_m), (7, .ref a_z), (8, .int v8_25), (9, .int v9_25), (10, .int v10_25), (11, .ref a_nw1), (12, .ref a_nw2), (13, .int v13_25)]) hx hb dL_fragments_39 hl (by decide) rfl (fun ls hl => ?_)
        obtain ⟨o14_u52, y_nw1_u52, y_nw2_u52, q53, h⟩ := bnd3_s h
        refine L41 400 _ _ _ _ _ _ _ _ _ hN_25 H locs ls o14_u52 y_nw1_u52 y_nw2_u52 hW (lv_sub hl [1, 2, 3, 4, 5, 6, 7, 8, 9, 10, 11, 12, 13, 0] rfl) q53 (fun H locs ls hW hl => ?_)
        obtain ⟨w13_54, ew13_54⟩ : ∃ y : Int32, y = v13_25 + (-1) := ⟨_, rfl⟩
        replace h := lb_at ew13_54 h
        refine lv_iinc (v := w13_54) (lv' := [(13, .int w13_54), (1, .ref a_w), (2, .ref a_u), (3, .ref a_x), (4, .ref a_j), (5, .ref a_b), (6, .ref a_m), (7, .ref a_z), (8, .int v8_25), (9, .int v9_25), (10, .int v10_25), (11, .ref a_nw1), (12, .ref a_nw2)]) hx hb dL_fragments_229 hl (k := 12) rfl (by rw [ew13_54]; rfl) (by decide) rfl (fun ls hl => ?_)
        refine lv_goto (tgt := 25) hx hb dL_fragments_232 (by decide) ?_
        exact ih _ _ _ _ _ _ _ _ hN_25 H locs ls _ _ _ hW (lv_sub hl [1, 2, 3, 4, 5, 6, 7, 8, 9, 10, 11, 12, 0] rfl) h k1
  have J272 : ∀ (x_z_272 : Nat → Int32) (x_nw1_272 : Nat → Int64) (x_nw2_272 : Nat → Int32) (x_N_272 : Nat) (v9_272 : Int32) (v10_272 : Int32) (v13_272 : Int32) (v14_272 : Int32) (s1_272 : Int32) (s2_272 : Int32) (s3_272 : Int32) (hN_272 : x_N_272 ≤ 2) (H : Heap) (locs : List Loc) (ls : Array Slot) (code : Nat) (o13j : Int32) (o14j : Int32) (y_zj : Nat → Int32), Wd D A s.heap (oA T 4 a_nw2 x_nw2_272 ++ (oJ T 4 a_nw1 x_nw1_272 ++ (oA T 12 a_c x_c ++ (oA T 24 a_w x_w ++ (oA T 2 a_u x_u ++ (oA T 6 a_x x_x ++ (oA T 64 a_j x_j ++ (oA T 48 a_b x_b ++ (oA T 6 a_m x_m ++ (oA T 64 a_z x_z_272 ++ Z)))))))))) H locs → lv_has ls 20 [(7, .ref a_z), (9, .int v9_272), (10, .int v10_272), (12, .ref a_nw2), (13, .int v13_272), (14, .int v14_272)] → f_L_fragments_J272 x_c x_w x_u x_x x_j x_b x_m x_z_272 x_nw1_272 x_nw2_272 x_N_272 v9_272 v10_272 v13_272 v14_272 s1_272 s2_272 s3_272 = some (code, o13j, o14j, y_zj) → (code = 0 → ∀ (H : Heap) (locs : List Loc) (ls : Array Slot), Wd D A s.heap (oA T 4 a_nw2 x_nw2_272 ++ (oJ T 4 a_nw1 x_nw1_272 ++ (oA T 12 a_c x_c ++ (oA T 24 a_w x_w ++ (oA T 2 a_u x_u ++ (oA T 6 a_x x_x ++ (oA T 64 a_j x_j ++ (oA T 48 a_b x_b ++ (oA T 6 a_m x_m ++ (oA T 64 a_z y_zj ++ Z)))))))))) H locs → lv_has ls 20 [(7, .ref a_z), (9, .int v9_272), (10, .int v10_272), (12, .ref a_nw2), (13, .int o13j), (14, .int o14j)] → W p l e (rmL 1 2) s m args below meth c H locs x_N_272 (16 * x_N_272) Q (F0 m 241 ls [])) → (code = 1 → ∀ (H : Heap) (locs : List Loc) (ls : Array Slot), Wd D A s.heap (oA T 4 a_nw2 x_nw2_272 ++ (oJ T 4 a_nw1 x_nw1_272 ++ (oA T 12 a_c x_c ++ (oA T 24 a_w x_w ++ (oA T 2 a_u x_u ++ (oA T 6 a_x x_x ++ (oA T 64 a_j x_j ++ (oA T 48 a_b x_b ++ (oA T 6 a_m x_m ++ (oA T 64 a_z y_zj ++ Z)))))))))) H locs → lv_has ls 20 [(13, .int o13j)] → W p l e (rmL 1 2) s m args below meth c H locs x_N_272 (16 * x_N_272) Q (F0 m 300 ls [])) → W p l e (rmL 1 2) s m args below meth c H locs x_N_272 (16 * x_N_272) Q (F0 m 272 ls [.int s3_272, .int s2_272, .int s1_272, .ref a_z]) := by
    intro x_z_272 x_nw1_272 x_nw2_272 x_N_272 v9_272 v10_272 v13_272 v14_272 s1_272 s2_272 s3_272 hN_272 H locs ls code o13j o14j y_zj hW hl h k0 k1
    rw [f_L_fragments_J272] at h
    refine lv_iadd hx hb dL_fragments_272 ?_
    obtain ⟨g60, h⟩ := grd_s h
    refine g_iast (ws9 := oA T 4 a_nw2 x_nw2_272 ++ (oJ T 4 a_nw1 x_nw1_272 ++ (oA T 12 a_c x_c ++ (oA T 24 a_w x_w ++ (oA T 2 a_u x_u ++ (oA T 6 a_x x_x ++ (oA T 64 a_j x_j ++ (oA T 48 a_b x_b ++ (oA T 6 a_m x_m ++ (oA T 64 a_z (upd x_z_272 s1_272.toNatClampNeg (s2_272 + s3_272)) ++ Z)))))))))) hx hb hK hW 9 rfl g60 rfl dL_fragments_273 (fun H locs hW => ?_)
    obtain ⟨x_z61, ex_z61⟩ : ∃ y : Nat → Int32, y = upd x_z_272 s1_272.toNatClampNeg (s2_272 + s3_272) := ⟨_, rfl⟩
    rw [← ex_z61] at hW
    replace h := lb_at ex_z61 h
    obtain ⟨w13_62, ew13_62⟩ : ∃ y : Int32, y = v13_272 + 1 := ⟨_, rfl⟩
    replace h := lb_at ew13_62 h
    refine lv_iinc (v := w13_62) (lv' := [(13, .int w13_62), (7, .ref a_z), (9, .int v9_272), (10, .int v10_272), (12, .ref a_nw2), (14, .int v14_272)]) hx hb dL_fragments_274 hl (k := 4) rfl (by rw [ew13_62]; rfl) (by decide) rfl (fun ls hl => ?_)
    refine lv_iload hx hb dL_fragments_277 (lv_at hl 5 rfl) ?_
    refine lv_iload hx hb dL_fragments_279 (lv_at hl 2 rfl) ?_
    refine lv_if_eq (tgt := 289) hx hb dL_fragments_281 (by decide) (fun c63 => ?_) (fun c63 => ?_)
    · replace h := ite_t c63 h
      refine lv_aload hx hb dL_fragments_289 (lv_at hl 4 rfl) ?_
      refine lv_iload hx hb dL_fragments_291 (lv_at hl 5 rfl) ?_
      obtain ⟨g64, h⟩ := grd_s h
      refine g_iald hx hb hK hW 0 rfl g64 dL_fragments_293 ?_
      refine lv_iadd hx hb dL_fragments_294 ?_
      refine lv_topi (fun w14_65 ew14_65 => ?_)
      replace h := lb_at ew14_65 h
      refine lv_istore (lv' := [(14, .int w14_65), (13, .int w13_62), (7, .ref a_z), (9, .int v9_272), (10, .int v10_272), (12, .ref a_nw2)]) hx hb dL_fragments_295 hl (by decide) rfl (fun ls hl => ?_)
      refine lv_goto (tgt := 241) hx hb dL_fragments_297 (by decide) ?_
      obtain ⟨rfl, rfl, rfl, rfl⟩ := ret4 h
      exact k0 rfl H locs ls hW (lv_sub hl [2, 3, 4, 5, 1, 0] rfl)
    · replace h := ite_f c63 h
      refine lv_iload hx hb dL_fragments_284 (lv_at hl 3 rfl) ?_
      refine lv_goto (tgt := 294) hx hb dL_fragments_286 (by decide) ?_
      refine lv_iadd hx hb dL_fragments_294 ?_
      refine lv_topi (fun w14_66 ew14_66 => ?_)
      replace h := lb_at ew14_66 h
      refine lv_istore (lv' := [(14, .int w14_66), (13, .int w13_62), (7, .ref a_z), (9, .int v9_272), (10, .int v10_272), (12, .ref a_nw2)]) hx hb dL_fragments_295 hl (by decide) rfl (fun ls hl => ?_)
      refine lv_goto (tgt := 241) hx hb dL_fragments_297 (by decide) ?_
      obtain ⟨rfl, rfl, rfl, rfl⟩ := ret4 h
      exact k0 rfl H locs ls hW (lv_sub hl [2, 3, 4, 5, 1, 0] rfl)
  have L241 : ∀ (n : Nat) (x_z_241 : Nat → Int32) (x_nw1_241 : Nat → Int64) (x_nw2_241 : Nat → Int32) (x_N_241 : Nat) (v9_241 : Int32) (v10_241 : Int32) (v13_241 : Int32) (v14_241 : Int32) (hN_241 : x_N_241 ≤ 2) (H : Heap) (locs : List Loc) (ls : Array Slot) (o13_241r : Int32) (o14_241r : Int32) (y_z_241r : Nat → Int32), Wd D A s.heap (oA T 4 a_nw2 x_nw2_241 ++ (oJ T 4 a_nw1 x_nw1_241 ++ (oA T 12 a_c x_c ++ (oA T 24 a_w x_w ++ (oA T 2 a_u x_u ++ (oA T 6 a_x x_x ++ (oA T 64 a_j x_j ++ (oA T 48 a_b x_b ++ (oA T 6 a_m x_m ++ (oA T 64 a_z x_z_241 ++ Z)))))))))) H locs → lv_has ls 20 [(7, .ref a_z), (9, .int v9_241), (10, .int v10_241), (12, .ref a_nw2), (13, .int v13_241), (14, .int v14_241)] → f_L_fragments_L241 n x_c x_w x_u x_x x_j x_b x_m x_z_241 x_nw1_241 x_nw2_241 x_N_241 v9_241 v10_241 v13_241 v14_241 = some (o13_241r, o14_241r, y_z_241r) → (∀ (H : Heap) (locs : List Loc) (ls : Array Slot), Wd D A s.heap (oA T 4 a_nw2 x_nw2_241 ++ (oJ T 4 a_nw1 x_nw1_241 ++ (oA T 12 a_c x_c ++ (oA T 24 a_w x_w ++ (oA T 2 a_u x_u ++ (oA T 6 a_x x_x ++ (oA T 64 a_j x_j ++ (oA T 48 a_b x_b ++ (oA T 6 a_m x_m ++ (oA T 64 a_z y_z_241r ++ Z)))))))))) H locs → lv_has ls 20 [(13, .int o13_241r)] → W p l e (rmL 1 2) s m args below meth c H locs x_N_241 (16 * x_N_241) Q (F0 m 300 ls [])) → W p l e (rmL 1 2) s m args below meth c H locs x_N_241 (16 * x_N_241) Q (F0 m 241 ls []) := by
    intro n
    induction n with
    | zero =>
      intro x_z_241 x_nw1_241 x_nw2_241 x_N_241 v9_241 v10_241 v13_241 v14_241 hN_241 H locs ls o13_241r o14_241r y_z_241r hW hl h k1
      rw [f_L_fragments_L241] at h
      cases h
    | succ n ih =>
      intro x_z_241 x_nw1_241 x_nw2_241 x_N_241 v9_241 v10_241 v13_241 v14_241 hN_241 H locs ls o13_241r o14_241r y_z_241r hW hl h k1
      rw [f_L_fragments_L241] at h
      refine lv_iload hx hb dL_fragments_241 (lv_at hl 5 rfl) ?_
      refine lv_iload hx hb dL_fragments_243 (lv_at hl 2 rfl) ?_
      refine lv_icmp_ge (tgt := 300) hx hb dL_fragments_245 (by decide) (fun c57 => ?_) (fun c57 => ?_)
      · replace h := ite_t c57 h
        obtain ⟨rfl, rfl, rfl⟩ := ret3 h
        exact k1 H locs ls hW (lv_sub hl [4] rfl)
      · replace h := ite_f c57 h
        refine lv_aload hx hb dL_fragments_248 (lv_at hl 0 rfl) ?_
        refine lv_iload hx hb dL_fragments_250 (lv_at hl 4 rfl) ?_
        refine lv_bipush (v := 10) hx hb dL_fragments_252 (by decide) ?_
        refine lv_iload hx hb dL_fragments_254 (lv_at hl 5 rfl) ?_
        refine lv_imul hx hb dL_fragments_256 ?_
        refine lv_iload hx hb dL_fragments_257 (lv_at hl 1 rfl) ?_
        refine lv_if_eq (tgt := 267) hx hb dL_fragments_259 (by decide) (fun c58 => ?_) (fun c58 => ?_)
        · replace h := ite_t c58 h
          refine lv_aload hx hb dL_fragments_267 (lv_at hl 3 rfl) ?_
          refine lv_iload hx hb dL_fragments_269 (lv_at hl 5 rfl) ?_
          obtain ⟨g59, h⟩ := grd_s h
          refine g_iald hx hb hK hW 0 rfl g59 dL_fragments_271 ?_
          obtain ⟨code68, o13_t67, o14_t67, y_z_t67, q69, h⟩ := bnd4_s h
          refine J272 _ _ _ _ _ _ _ _ _ _ _ hN_241 H locs ls code68 o13_t67 o14_t67 y_z_t67 hW (lv_sub hl [0, 1, 2, 3, 4, 5] rfl) q69 (fun hc H locs ls hW hl => ?_) (fun hc H locs ls hW hl => ?_)
          · replace h := ite_t hc h
            exact ih _ _ _ _ _ _ _ _ hN_241 H locs ls _ _ _ hW (lv_sub hl [0, 1, 2, 3, 4, 5] rfl) h k1
          · replace h := ite_f (by rw [hc]; decide) h
            obtain ⟨rfl, rfl, rfl⟩ := ret3 h
            exact k1 H locs ls hW hl
        · replace h := ite_f c58 h
          refine lv_iload hx hb dL_fragments_262 (lv_at hl 2 rfl) ?_
          refine lv_goto (tgt := 272) hx hb dL_fragments_264 (by decide) ?_
          obtain ⟨code71, o13_t70, o14_t70, y_z_t70, q72, h⟩ := bnd4_s h
          refine J272 _ _ _ _ _ _ _ _ _ _ _ hN_241 H locs ls code71 o13_t70 o14_t70 y_z_t70 hW (lv_sub hl [0, 1, 2, 3, 4, 5] rfl) q72 (fun hc H locs ls hW hl => ?_) (fun hc H locs ls hW hl => ?_)
          · replace h := ite_t hc h
            exact ih _ _ _ _ _ _ _ _ hN_241 H locs ls _ _ _ hW (lv_sub hl [0, 1, 2, 3, 4, 5] rfl) h k1
          · replace h := ite_f (by rw [hc]; decide) h
            obtain ⟨rfl, rfl, rfl⟩ := ret3 h
            exact k1 H locs ls hW hl
  refine lv_iload hx hb dL_fragments_19 (lv_at hl 2 rfl) ?_
  refine lv_iconst (v := 1) hx hb dL_fragments_21 (by decide) ?_
  refine lv_isub hx hb dL_fragments_22 ?_
  refine lv_topi (fun w13_3 ew13_3 => ?_)
  replace h := lb_at ew13_3 h
  refine lv_istore (lv' := [(13, .int w13_3), (12, .ref a_nw2), (11, .ref a_nw1), (10, .int w10_2), (0, .ref a_c), (1, .ref a_w), (2, .ref a_u), (3, .ref a_x), (4, .ref a_j), (5, .ref a_b), (6, .ref a_m), (7, .ref a_z), (8, .int p9), (9, .int p10)]) hx hb dL_fragments_23 hl (by decide) rfl (fun ls hl => ?_)
  obtain ⟨o13_u55, y_nw1_u55, y_nw2_u55, q56, h⟩ := bnd3_s h
  refine L25 400 _ _ _ _ _ _ _ _ (Nat.le_of_ble_eq_true rfl) H locs ls o13_u55 y_nw1_u55 y_nw2_u55 hW (lv_sub hl [5, 6, 7, 8, 9, 10, 11, 12, 13, 3, 2, 1, 0] rfl) q56 (fun H locs ls hW hl => ?_)
  refine lv_iconst (v := 0) hx hb dL_fragments_235 (by decide) ?_
  refine lv_istore (lv' := [(13, .int 0), (7, .ref a_z), (9, .int p10), (10, .int w10_2), (12, .ref a_nw2)]) hx hb dL_fragments_236 hl (by decide) rfl (fun ls hl => ?_)
  refine lv_iconst (v := 0) hx hb dL_fragments_238 (by decide) ?_
  refine lv_istore (lv' := [(14, .int 0), (13, .int 0), (7, .ref a_z), (9, .int p10), (10, .int w10_2), (12, .ref a_nw2)]) hx hb dL_fragments_239 hl (by decide) rfl (fun ls hl => ?_)
  obtain ⟨o13_u73, o14_u73, y_z_u73, q74, h⟩ := bnd3_s h
  refine L241 400 _ _ _ _ _ _ _ _ (Nat.le_of_ble_eq_true rfl) H locs ls o13_u73 o14_u73 y_z_u73 hW (lv_sub hl [2, 3, 4, 5, 1, 0] rfl) q74 (fun H locs ls hW hl => ?_)
  refine lv_iload hx hb dL_fragments_300 (lv_at hl 0 rfl) ?_
  obtain ⟨rfl, rfl⟩ := ret2 h
  rw [hQ]
  replace hW := hW.tl
  replace hW := hW.tl
  refine W.widen (k := 2) (n := (16 * 2)) (Nat.le_of_ble_eq_true rfl) (Nat.mul_le_mul_left 16 (Nat.le_of_ble_eq_true rfl)) ?_
  exact g_reti hx hb hr hlk hW dL_fragments_302
set_option maxHeartbeats 16000000 in
set_option maxRecDepth 100000 in
theorem c_L_stands (l : Launch) (D : va_G) (T : Nat → ClassId) (A : Nat → Prop) (a_c : Nat) (a_w : Nat) (a_u : Nat) (a_x : Nat) (a_l : Nat) (a_p : Nat) (a_k : Nat) (Z : va_W) (x_c : Nat → Int32) (x_w : Nat → Int32) (x_u : Nat → Int32) (x_x : Nat → Int32) (x_l : Nat → Int32) (x_p : Nat → Int32) (x_k : Nat → Int32) (p8 : Int32) (p9 : Int32) (p10 : Int32) (r : Int32) (h : f_L_stands x_c x_w x_u x_x x_l x_p x_k p8 p9 p10 = some r) : Met l yL_stands (Cond.code yL_stands cL_stands 13 (some .boolean) :: wsL_law) (rmL 2 0) (Pl D T A (oA T 12 a_c x_c ++ (oA T 24 a_w x_w ++ (oA T 2 a_u x_u ++ (oA T 6 a_x x_x ++ (oA T 6 a_l x_l ++ (oA T 30 a_p x_p ++ (oA T 6 a_k x_k ++ Z))))))) [.ref a_c, .ref a_w, .ref a_u, .ref a_x, .ref a_l, .ref a_p, .ref a_k, .int p8, .int p9, .int p10]) (Qgi D A (oA T 12 a_c x_c ++ (oA T 24 a_w x_w ++ (oA T 2 a_u x_u ++ (oA T 6 a_x x_x ++ (oA T 6 a_l x_l ++ (oA T 30 a_p x_p ++ (oA T 6 a_k x_k ++ Z))))))) r) 0 0 A := by
  refine Met.ofW (cc := cL_stands) (maxL := 13) (ret := (some .boolean)) (by decide +kernel) rfl ?_
  intro p e s m args below meth c s₁ B hml hv
  obtain ⟨ha, hP, hK, hD, hN, hE, hC, hA⟩ := hv
  have hx := B.exec
  have hb := B.bytes
  have hr := B.returns
  have hlk := B.notSynchronized
  have hts : ∀ w ∈ wsL_law, w.before args s = true := fun w hw => atoms_spec B.pre w (List.mem_cons_of_mem _ hw)
  have hown : s.vm.findClass RL = some m.cls := findClass_of_methodNamed B.named
  have hW : Wd D A s.heap (oA T 12 a_c x_c ++ (oA T 24 a_w x_w ++ (oA T 2 a_u x_u ++ (oA T 6 a_x x_x ++ (oA T 6 a_l x_l ++ (oA T 30 a_p x_p ++ (oA T 6 a_k x_k ++ Z))))))) s.heap [] := ⟨hP, hD, va_S.rf⟩
  have hl := lv_entry [.ref a_c, .ref a_w, .ref a_u, .ref a_x, .ref a_l, .ref a_p, .ref a_k, .int p8, .int p9, .int p10] (n := 13) (Nat.le_of_ble_eq_true rfl)
  refine W.eq (en_eq ha) ?_
  generalize (lg_sl [.ref a_c, .ref a_w, .ref a_u, .ref a_x, .ref a_l, .ref a_p, .ref a_k, .int p8, .int p9, .int p10] ++ List.replicate (13 - (lg_sl [.ref a_c, .ref a_w, .ref a_u, .ref a_x, .ref a_l, .ref a_p, .ref a_k, .int p8, .int p9, .int p10]).length) Slot.unset).toArray = ls at hl ⊢
  have hl : lv_has ls 13 [(0, .ref a_c), (1, .ref a_w), (2, .ref a_u), (3, .ref a_x), (4, .ref a_l), (5, .ref a_p), (6, .ref a_k), (7, .int p8), (8, .int p9), (9, .int p10)] := hl
  clear hP hD B ha
  obtain ⟨Q, hQ⟩ : ∃ Q, Q = MQ below (Qgi D A (oA T 12 a_c x_c ++ (oA T 24 a_w x_w ++ (oA T 2 a_u x_u ++ (oA T 6 a_x x_x ++ (oA T 6 a_l x_l ++ (oA T 30 a_p x_p ++ (oA T 6 a_k x_k ++ Z))))))) r) args s 0 0 A := ⟨_, rfl⟩
  rw [← hQ]
  change W p l e (rmL 2 0) s m args below meth c s.heap [] 0 0 Q (F0 m 0 ls [])
  rw [f_L_stands] at h
  suffices hm : ∀ (H : Heap) (locs : List Loc), Wd D A s.heap (oA T 12 a_c x_c ++ (oA T 24 a_w x_w ++ (oA T 2 a_u x_u ++ (oA T 6 a_x x_x ++ (oA T 6 a_l x_l ++ (oA T 30 a_p x_p ++ (oA T 6 a_k x_k ++ Z))))))) H locs → W p l e (rmL 2 0) s m args below meth c H locs 0 0 Q (F0 m 0 ls []) from hm _ _ hW
  clear hW
  intro H locs hW
  have L42 : ∀ (n : Nat) (v7_42 : Int32) (v8_42 : Int32) (v9_42 : Int32) (v10_42 : Int32) (v11_42 : Int32) (H : Heap) (locs : List Loc) (ls : Array Slot) (o10_42r : Int32) (o11_42r : Int32), Wd D A s.heap (oA T 12 a_c x_c ++ (oA T 24 a_w x_w ++ (oA T 2 a_u x_u ++ (oA T 6 a_x x_x ++ (oA T 6 a_l x_l ++ (oA T 30 a_p x_p ++ (oA T 6 a_k x_k ++ Z))))))) H locs → lv_has ls 13 [(0, .ref a_c), (1, .ref a_w), (2, .ref a_u), (3, .ref a_x), (4, .ref a_l), (5, .ref a_p), (7, .int v7_42), (8, .int v8_42), (9, .int v9_42), (10, .int v10_42), (11, .int v11_42)] → f_L_stands_L42 n x_c x_w x_u x_x x_l x_p x_k v7_42 v8_42 v9_42 v10_42 v11_42 = some (o10_42r, o11_42r) → (∀ (H : Heap) (locs : List Loc) (ls : Array Slot), Wd D A s.heap (oA T 12 a_c x_c ++ (oA T 24 a_w x_w ++ (oA T 2 a_u x_u ++ (oA T 6 a_x x_x ++ (oA T 6 a_l x_l ++ (oA T 30 a_p x_p ++ (oA T 6 a_k x_k ++ Z))))))) H locs → lv_has ls 13 [(10, .int o10_42r)] → W p l e (rmL 2 0) s m args below meth c H locs 0 0 Q (F0 m 121 ls [])) → W p l e (rmL 2 0) s m args below meth c H locs 0 0 Q (F0 m 42 ls []) := by
    intro n
    induction n with
    | zero =>
      intro v7_42 v8_42 v9_42 v10_42 v11_42 H locs ls o10_42r o11_42r hW hl h k1
      rw [f_L_stands_L42] at h
      cases h
    | succ n ih =>
      intro v7_42 v8_42 v9_42 v10_42 v11_42 H locs ls o10_42r o11_42r hW hl h k1
      rw [f_L_stands_L42] at h
      refine lv_iload hx hb dL_stands_42 (lv_at hl 10 rfl) ?_
      refine lv_iconst (v := 3) hx hb dL_stands_44 (by decide) ?_
      refine lv_icmp_ge (tgt := 121) hx hb dL_stands_45 (by decide) (fun c3 => ?_) (fun c3 => ?_)
      · replace h := ite_t c3 h
        obtain ⟨rfl, rfl⟩ := ret2 h
        exact k1 H locs ls hW (lv_sub hl [9] rfl)
      · replace h := ite_f c3 h
        refine lv_aload hx hb dL_stands_48 (lv_at hl 5 rfl) ?_
        refine lv_iconst (v := 5) hx hb dL_stands_50 (by decide) ?_
        refine lv_iload hx hb dL_stands_51 (lv_at hl 8 rfl) ?_
        refine lv_imul hx hb dL_stands_53 ?_
        refine lv_iload hx hb dL_stands_54 (lv_at hl 10 rfl) ?_
        refine lv_iadd hx hb dL_stands_56 ?_
        obtain ⟨g4, h⟩ := grd_s h
        refine g_iald hx hb hK hW 5 rfl g4 dL_stands_57 ?_
        refine lv_topi (fun w12_5 ew12_5 => ?_)
        replace h := lb_at ew12_5 h
        refine lv_istore (lv' := [(12, .int w12_5), (0, .ref a_c), (1, .ref a_w), (2, .ref a_u), (3, .ref a_x), (4, .ref a_l), (5, .ref a_p), (7, .int v7_42), (8, .int v8_42), (9, .int v9_42), (10, .int v10_42), (11, .int v11_42)]) hx hb dL_stands_58 hl (by decide) rfl (fun ls hl => ?_)
        refine lv_iload hx hb dL_stands_60 (lv_at hl 10 rfl) ?_
        refine lv_if_eq (tgt := 112) hx hb dL_stands_62 (by decide) (fun c6 => ?_) (fun c6 => ?_)
        · replace h := ite_t c6 h
          refine lv_iconst (v := 0) hx hb dL_stands_112 (by decide) ?_
          refine lv_istore (lv' := [(10, .int 0), (12, .int w12_5), (0, .ref a_c), (1, .ref a_w), (2, .ref a_u), (3, .ref a_x), (4, .ref a_l), (5, .ref a_p), (7, .int v7_42), (8, .int v8_42), (9, .int v9_42), (11, .int v11_42)]) hx hb dL_stands_113 hl (by decide) rfl (fun ls hl => ?_)
          obtain ⟨w11_7, ew11_7⟩ : ∃ y : Int32, y = v11_42 + 1 := ⟨_, rfl⟩
          replace h := lb_at ew11_7 h
          refine lv_iinc (v := w11_7) (lv' := [(11, .int w11_7), (10, .int 0), (12, .int w12_5), (0, .ref a_c), (1, .ref a_w), (2, .ref a_u), (3, .ref a_x), (4, .ref a_l), (5, .ref a_p), (7, .int v7_42), (8, .int v8_42), (9, .int v9_42)]) hx hb dL_stands_115 hl (k := 11) rfl (by rw [ew11_7]; rfl) (by decide) rfl (fun ls hl => ?_)
          refine lv_goto (tgt := 42) hx hb dL_stands_118 (by decide) ?_
          exact ih _ _ _ _ _ H locs ls _ _ hW (lv_sub hl [3, 4, 5, 6, 7, 8, 9, 10, 11, 1, 0] rfl) h k1
        · replace h := ite_f c6 h
          refine lv_iload hx hb dL_stands_65 (lv_at hl 0 rfl) ?_
          refine lv_if_lt (tgt := 108) hx hb dL_stands_67 (by decide) (fun c8 => ?_) (fun c8 => ?_)
          · replace h := ite_t c8 h
            refine lv_iconst (v := 1) hx hb dL_stands_108 (by decide) ?_
            refine lv_goto (tgt := 113) hx hb dL_stands_109 (by decide) ?_
            refine lv_istore (lv' := [(10, .int 1), (12, .int w12_5), (0, .ref a_c), (1, .ref a_w), (2, .ref a_u), (3, .ref a_x), (4, .ref a_l), (5, .ref a_p), (7, .int v7_42), (8, .int v8_42), (9, .int v9_42), (11, .int v11_42)]) hx hb dL_stands_113 hl (by decide) rfl (fun ls hl => ?_)
            obtain ⟨w11_9, ew11_9⟩ : ∃ y : Int32, y = v11_42 + 1 := ⟨_, rfl⟩
            replace h := lb_at ew11_9 h
            refine lv_iinc (v := w11_9) (lv' := [(11, .int w11_9), (10, .int 1), (12, .int w12_5), (0, .ref a_c), (1, .ref a_w), (2, .ref a_u), (3, .ref a_x), (4, .ref a_l), (5, .ref a_p), (7, .int v7_42), (8, .int v8_42), (9, .int v9_42)]) hx hb dL_stands_115 hl (k := 11) rfl (by rw [ew11_9]; rfl) (by decide) rfl (fun ls hl => ?_)
            refine lv_goto (tgt := 42) hx hb dL_stands_118 (by decide) ?_
            exact ih _ _ _ _ _ H locs ls _ _ hW (lv_sub hl [3, 4, 5, 6, 7, 8, 9, 10, 11, 1, 0] rfl) h k1
          · replace h := ite_f c8 h
            refine lv_iload hx hb dL_stands_70 (lv_at hl 8 rfl) ?_
            refine lv_iload hx hb dL_stands_72 (lv_at hl 11 rfl) ?_
            refine lv_iadd hx hb dL_stands_74 ?_
            refine lv_aload_n hx hb dL_stands_75 rfl (lv_at hl 1 rfl) ?_
            refine lv_bipush (v := 8) hx hb dL_stands_76 (by decide) ?_
            refine lv_iload hx hb dL_stands_78 (lv_at hl 7 rfl) ?_
            refine lv_iadd hx hb dL_stands_80 ?_
            obtain ⟨g10, h⟩ := grd_s h
            refine g_iald hx hb hK hW 0 rfl g10 dL_stands_81 ?_
            refine lv_icmp_ge (tgt := 112) hx hb dL_stands_82 (by decide) (fun c11 => ?_) (fun c11 => ?_)
            · replace h := ite_t c11 h
              refine lv_iconst (v := 0) hx hb dL_stands_112 (by decide) ?_
              refine lv_istore (lv' := [(10, .int 0), (12, .int w12_5), (0, .ref a_c), (1, .ref a_w), (2, .ref a_u), (3, .ref a_x), (4, .ref a_l), (5, .ref a_p), (7, .int v7_42), (8, .int v8_42), (9, .int v9_42), (11, .int v11_42)]) hx hb dL_stands_113 hl (by decide) rfl (fun ls hl => ?_)
              obtain ⟨w11_12, ew11_12⟩ : ∃ y : Int32, y = v11_42 + 1 := ⟨_, rfl⟩
              replace h := lb_at ew11_12 h
              refine lv_iinc (v := w11_12) (lv' := [(11, .int w11_12), (10, .int 0), (12, .int w12_5), (0, .ref a_c), (1, .ref a_w), (2, .ref a_u), (3, .ref a_x), (4, .ref a_l), (5, .ref a_p), (7, .int v7_42), (8, .int v8_42), (9, .int v9_42)]) hx hb dL_stands_115 hl (k := 11) rfl (by rw [ew11_12]; rfl) (by decide) rfl (fun ls hl => ?_)
              refine lv_goto (tgt := 42) hx hb dL_stands_118 (by decide) ?_
              exact ih _ _ _ _ _ H locs ls _ _ hW (lv_sub hl [3, 4, 5, 6, 7, 8, 9, 10, 11, 1, 0] rfl) h k1
            · replace h := ite_f c11 h
              refine lv_aload_n hx hb dL_stands_85 rfl (lv_at hl 2 rfl) ?_
              refine lv_aload_n hx hb dL_stands_86 rfl (lv_at hl 3 rfl) ?_
              refine lv_aload_n hx hb dL_stands_87 rfl (lv_at hl 4 rfl) ?_
              refine lv_aload hx hb dL_stands_88 (lv_at hl 5 rfl) ?_
              refine lv_iconst (v := 3) hx hb dL_stands_90 (by decide) ?_
              refine lv_iload hx hb dL_stands_91 (lv_at hl 7 rfl) ?_
              refine lv_imul hx hb dL_stands_93 ?_
              refine lv_iload hx hb dL_stands_94 (lv_at hl 8 rfl) ?_
              refine lv_iadd hx hb dL_stands_96 ?_
              refine lv_iload hx hb dL_stands_97 (lv_at hl 11 rfl) ?_
              refine lv_iadd hx hb dL_stands_99 ?_
              refine lv_iload hx hb dL_stands_100 (lv_at hl 0 rfl) ?_
              replace hW := hW.perm pf4
              replace hW := hW.perm pf4
              replace hW := hW.perm pf4
              replace hW := hW.perm pf4
              obtain ⟨r13, q14, h⟩ := bnd1_s h
              refine cs_L_19 hx hb hml hown hts hK hN hE hC hA hW (c_L_leftOf l D T A a_w a_u a_x a_l (oA T 12 a_c x_c ++ (oA T 30 a_p x_p ++ (oA T 6 a_k x_k ++ Z))) x_w x_u x_x x_l (((3 * v7_42) + v8_42) + v11_42) w12_5 r13 q14) ⟨Nat.le_of_ble_eq_true rfl, Nat.le_of_ble_eq_true rfl⟩ hl.1 rfl (Nat.le_of_ble_eq_true rfl) dL_stands_102 (hf0 (Nat.zero_le _)) rfl (fun H locs hW => ?_)
              replace hW := hW.perm pf6
              replace hW := hW.perm pf6
              replace hW := hW.perm pf5
              replace hW := hW.perm pf5
              replace hW := hW.perm pf5
              replace hW := hW.perm pf5
              replace hW := hW.perm pf6
              refine lv_if_le (tgt := 112) hx hb dL_stands_105 (by decide) (fun c15 => ?_) (fun c15 => ?_)
              · replace h := ite_t c15 h
                refine lv_iconst (v := 0) hx hb dL_stands_112 (by decide) ?_
                refine lv_istore (lv' := [(10, .int 0), (12, .int w12_5), (0, .ref a_c), (1, .ref a_w), (2, .ref a_u), (3, .ref a_x), (4, .ref a_l), (5, .ref a_p), (7, .int v7_42), (8, .int v8_42), (9, .int v9_42), (11, .int v11_42)]) hx hb dL_stands_113 hl (by decide) rfl (fun ls hl => ?_)
                obtain ⟨w11_16, ew11_16⟩ : ∃ y : Int32, y = v11_42 + 1 := ⟨_, rfl⟩
                replace h := lb_at ew11_16 h
                refine lv_iinc (v := w11_16) (lv' := [(11, .int w11_16), (10, .int 0), (12, .int w12_5), (0, .ref a_c), (1, .ref a_w), (2, .ref a_u), (3, .ref a_x), (4, .ref a_l), (5, .ref a_p), (7, .int v7_42), (8, .int v8_42), (9, .int v9_42)]) hx hb dL_stands_115 hl (k := 11) rfl (by rw [ew11_16]; rfl) (by decide) rfl (fun ls hl => ?_)
                refine lv_goto (tgt := 42) hx hb dL_stands_118 (by decide) ?_
                exact ih _ _ _ _ _ H locs ls _ _ hW (lv_sub hl [3, 4, 5, 6, 7, 8, 9, 10, 11, 1, 0] rfl) h k1
              · replace h := ite_f c15 h
                refine lv_iconst (v := 1) hx hb dL_stands_108 (by decide) ?_
                refine lv_goto (tgt := 113) hx hb dL_stands_109 (by decide) ?_
                refine lv_istore (lv' := [(10, .int 1), (12, .int w12_5), (0, .ref a_c), (1, .ref a_w), (2, .ref a_u), (3, .ref a_x), (4, .ref a_l), (5, .ref a_p), (7, .int v7_42), (8, .int v8_42), (9, .int v9_42), (11, .int v11_42)]) hx hb dL_stands_113 hl (by decide) rfl (fun ls hl => ?_)
                obtain ⟨w11_17, ew11_17⟩ : ∃ y : Int32, y = v11_42 + 1 := ⟨_, rfl⟩
                replace h := lb_at ew11_17 h
                refine lv_iinc (v := w11_17) (lv' := [(11, .int w11_17), (10, .int 1), (12, .int w12_5), (0, .ref a_c), (1, .ref a_w), (2, .ref a_u), (3, .ref a_x), (4, .ref a_l), (5, .ref a_p), (7, .int v7_42), (8, .int v8_42), (9, .int v9_42)]) hx hb dL_stands_115 hl (k := 11) rfl (by rw [ew11_17]; rfl) (by decide) rfl (fun ls hl => ?_)
                refine lv_goto (tgt := 42) hx hb dL_stands_118 (by decide) ?_
                exact ih _ _ _ _ _ H locs ls _ _ hW (lv_sub hl [3, 4, 5, 6, 7, 8, 9, 10, 11, 1, 0] rfl) h k1
  have J37 : ∀ (v7_37 : Int32) (v8_37 : Int32) (v9_37 : Int32) (s0_37 : Int32) (H : Heap) (locs : List Loc) (ls : Array Slot), Wd D A s.heap (oA T 12 a_c x_c ++ (oA T 24 a_w x_w ++ (oA T 2 a_u x_u ++ (oA T 6 a_x x_x ++ (oA T 6 a_l x_l ++ (oA T 30 a_p x_p ++ (oA T 6 a_k x_k ++ Z))))))) H locs → lv_has ls 13 [(0, .ref a_c), (1, .ref a_w), (2, .ref a_u), (3, .ref a_x), (4, .ref a_l), (5, .ref a_p), (7, .int v7_37), (8, .int v8_37), (9, .int v9_37)] → f_L_stands_J37 x_c x_w x_u x_x x_l x_p x_k v7_37 v8_37 v9_37 s0_37 = some r → W p l e (rmL 2 0) s m args below meth c H locs 0 0 Q (F0 m 37 ls [.int s0_37]) := by
    intro v7_37 v8_37 v9_37 s0_37 H locs ls hW hl h
    rw [f_L_stands_J37] at h
    refine lv_istore (lv' := [(10, .int s0_37), (0, .ref a_c), (1, .ref a_w), (2, .ref a_u), (3, .ref a_x), (4, .ref a_l), (5, .ref a_p), (7, .int v7_37), (8, .int v8_37), (9, .int v9_37)]) hx hb dL_stands_37 hl (by decide) rfl (fun ls hl => ?_)
    refine lv_iconst (v := 0) hx hb dL_stands_39 (by decide) ?_
    refine lv_istore (lv' := [(11, .int 0), (10, .int s0_37), (0, .ref a_c), (1, .ref a_w), (2, .ref a_u), (3, .ref a_x), (4, .ref a_l), (5, .ref a_p), (7, .int v7_37), (8, .int v8_37), (9, .int v9_37)]) hx hb dL_stands_40 hl (by decide) rfl (fun ls hl => ?_)
    obtain ⟨o10_u18, o11_u18, q19, h⟩ := bnd2_s h
    refine L42 400 _ _ _ _ _ H locs ls o10_u18 o11_u18 hW (lv_sub hl [2, 3, 4, 5, 6, 7, 8, 9, 10, 1, 0] rfl) q19 (fun H locs ls hW hl => ?_)
    refine lv_iload hx hb dL_stands_121 (lv_at hl 0 rfl) ?_
    obtain ⟨g20, h⟩ := grd_s h
    obtain rfl := ret1 h
    rw [hQ]
    exact g_retz hx hb hr hlk hW g20 dL_stands_123
  have J36 : ∀ (v7_36 : Int32) (v8_36 : Int32) (v9_36 : Int32) (H : Heap) (locs : List Loc) (ls : Array Slot), Wd D A s.heap (oA T 12 a_c x_c ++ (oA T 24 a_w x_w ++ (oA T 2 a_u x_u ++ (oA T 6 a_x x_x ++ (oA T 6 a_l x_l ++ (oA T 30 a_p x_p ++ (oA T 6 a_k x_k ++ Z))))))) H locs → lv_has ls 13 [(0, .ref a_c), (1, .ref a_w), (2, .ref a_u), (3, .ref a_x), (4, .ref a_l), (5, .ref a_p), (7, .int v7_36), (8, .int v8_36), (9, .int v9_36)] → f_L_stands_J36 x_c x_w x_u x_x x_l x_p x_k v7_36 v8_36 v9_36 = some r → W p l e (rmL 2 0) s m args below meth c H locs 0 0 Q (F0 m 36 ls []) := by
    intro v7_36 v8_36 v9_36 H locs ls hW hl h
    rw [f_L_stands_J36] at h
    refine lv_iconst (v := 0) hx hb dL_stands_36 (by decide) ?_
    exact J37 _ _ _ _ H locs ls hW (lv_sub hl [0, 1, 2, 3, 4, 5, 6, 7, 8] rfl) h
  refine lv_aload hx hb dL_stands_0 (lv_at hl 5 rfl) ?_
  refine lv_iconst (v := 5) hx hb dL_stands_2 (by decide) ?_
  refine lv_iload hx hb dL_stands_3 (lv_at hl 9 rfl) ?_
  refine lv_imul hx hb dL_stands_5 ?_
  refine lv_iconst (v := 4) hx hb dL_stands_6 (by decide) ?_
  refine lv_iadd hx hb dL_stands_7 ?_
  obtain ⟨g1, h⟩ := grd_s h
  refine g_iald hx hb hK hW 5 rfl g1 dL_stands_8 ?_
  refine lv_if_ne (tgt := 36) hx hb dL_stands_9 (by decide) (fun c2 => ?_) (fun c2 => ?_)
  · replace h := ite_f c2 h
    exact J36 _ _ _ H locs ls hW (lv_sub hl [0, 1, 2, 3, 4, 5, 7, 8, 9] rfl) h
  · replace h := ite_t c2 h
    refine lv_aload hx hb dL_stands_12 (lv_at hl 6 rfl) ?_
    refine lv_iload hx hb dL_stands_14 (lv_at hl 9 rfl) ?_
    obtain ⟨g21, h⟩ := grd_s h
    refine g_iald hx hb hK hW 6 rfl g21 dL_stands_16 ?_
    refine lv_aload_n hx hb dL_stands_17 rfl (lv_at hl 3 rfl) ?_
    refine lv_iconst (v := 3) hx hb dL_stands_18 (by decide) ?_
    refine lv_iload hx hb dL_stands_19 (lv_at hl 7 rfl) ?_
    refine lv_imul hx hb dL_stands_21 ?_
    refine lv_iload hx hb dL_stands_22 (lv_at hl 8 rfl) ?_
    refine lv_iadd hx hb dL_stands_24 ?_
    obtain ⟨g22, h⟩ := grd_s h
    refine g_iald hx hb hK hW 3 rfl g22 dL_stands_25 ?_
    refine lv_ishr hx hb dL_stands_26 ?_
    refine lv_iconst (v := 1) hx hb dL_stands_27 (by decide) ?_
    refine lv_iand hx hb dL_stands_28 ?_
    refine lv_if_ne (tgt := 36) hx hb dL_stands_29 (by decide) (fun c23 => ?_) (fun c23 => ?_)
    · replace h := ite_f c23 h
      exact J36 _ _ _ H locs ls hW (lv_sub hl [0, 1, 2, 3, 4, 5, 7, 8, 9] rfl) h
    · replace h := ite_t c23 h
      refine lv_iconst (v := 1) hx hb dL_stands_32 (by decide) ?_
      refine lv_goto (tgt := 37) hx hb dL_stands_33 (by decide) ?_
      exact J37 _ _ _ _ H locs ls hW (lv_sub hl [0, 1, 2, 3, 4, 5, 7, 8, 9] rfl) h
set_option maxHeartbeats 16000000 in
set_option maxRecDepth 100000 in
theorem c_L_style (l : Launch) (D : va_G) (T : Nat → ClassId) (A : Nat → Prop) (a_c : Nat) (a_w : Nat) (a_u : Nat) (a_x : Nat) (a_l : Nat) (a_p : Nat) (a_k : Nat) (a_z : Nat) (Z : va_W) (x_c : Nat → Int32) (x_w : Nat → Int32) (x_u : Nat → Int32) (x_x : Nat → Int32) (x_l : Nat → Int32) (x_p : Nat → Int32) (x_k : Nat → Int32) (x_z : Nat → Int32) (p9 : Int32) (r : Int32) (x_z9 : Nat → Int32) (h : f_L_style x_c x_w x_u x_x x_l x_p x_k x_z p9 = some (r, x_z9)) : Met l yL_style (Cond.code yL_style cL_style 15 (some .int) :: wsL_law) (rmL 3 0) (Pl D T A (oA T 12 a_c x_c ++ (oA T 24 a_w x_w ++ (oA T 2 a_u x_u ++ (oA T 6 a_x x_x ++ (oA T 6 a_l x_l ++ (oA T 30 a_p x_p ++ (oA T 6 a_k x_k ++ (oA T 64 a_z x_z ++ Z)))))))) [.ref a_c, .ref a_w, .ref a_u, .ref a_x, .ref a_l, .ref a_p, .ref a_k, .ref a_z, .int p9]) (Qgi D A (oA T 12 a_c x_c ++ (oA T 24 a_w x_w ++ (oA T 2 a_u x_u ++ (oA T 6 a_x x_x ++ (oA T 6 a_l x_l ++ (oA T 30 a_p x_p ++ (oA T 6 a_k x_k ++ (oA T 64 a_z x_z9 ++ Z)))))))) r) 0 0 A := by
  refine Met.ofW (cc := cL_style) (maxL := 15) (ret := (some .int)) (by decide +kernel) rfl ?_
  intro p e s m args below meth c s₁ B hml hv
  obtain ⟨ha, hP, hK, hD, hN, hE, hC, hA⟩ := hv
  have hx := B.exec
  have hb := B.bytes
  have hr := B.returns
  have hlk := B.notSynchronized
  have hts : ∀ w ∈ wsL_law, w.before args s = true := fun w hw => atoms_spec B.pre w (List.mem_cons_of_mem _ hw)
  have hown : s.vm.findClass RL = some m.cls := findClass_of_methodNamed B.named
  have hW : Wd D A s.heap (oA T 12 a_c x_c ++ (oA T 24 a_w x_w ++ (oA T 2 a_u x_u ++ (oA T 6 a_x x_x ++ (oA T 6 a_l x_l ++ (oA T 30 a_p x_p ++ (oA T 6 a_k x_k ++ (oA T 64 a_z x_z ++ Z)))))))) s.heap [] := ⟨hP, hD, va_S.rf⟩
  have hl := lv_entry [.ref a_c, .ref a_w, .ref a_u, .ref a_x, .ref a_l, .ref a_p, .ref a_k, .ref a_z, .int p9] (n := 15) (Nat.le_of_ble_eq_true rfl)
  refine W.eq (en_eq ha) ?_
  generalize (lg_sl [.ref a_c, .ref a_w, .ref a_u, .ref a_x, .ref a_l, .ref a_p, .ref a_k, .ref a_z, .int p9] ++ List.replicate (15 - (lg_sl [.ref a_c, .ref a_w, .ref a_u, .ref a_x, .ref a_l, .ref a_p, .ref a_k, .ref a_z, .int p9]).length) Slot.unset).toArray = ls at hl ⊢
  have hl : lv_has ls 15 [(0, .ref a_c), (1, .ref a_w), (2, .ref a_u), (3, .ref a_x), (4, .ref a_l), (5, .ref a_p), (6, .ref a_k), (7, .ref a_z), (8, .int p9)] := hl
  clear hP hD B ha
  obtain ⟨Q, hQ⟩ : ∃ Q, Q = MQ below (Qgi D A (oA T 12 a_c x_c ++ (oA T 24 a_w x_w ++ (oA T 2 a_u x_u ++ (oA T 6 a_x x_x ++ (oA T 6 a_l x_l ++ (oA T 30 a_p x_p ++ (oA T 6 a_k x_k ++ (oA T 64 a_z x_z9 ++ Z)))))))) r) args s 0 0 A := ⟨_, rfl⟩
  rw [← hQ]
  change W p l e (rmL 3 0) s m args below meth c s.heap [] 0 0 Q (F0 m 0 ls [])
  rw [f_L_style] at h
  suffices hm : ∀ (H : Heap) (locs : List Loc), Wd D A s.heap (oA T 12 a_c x_c ++ (oA T 24 a_w x_w ++ (oA T 2 a_u x_u ++ (oA T 6 a_x x_x ++ (oA T 6 a_l x_l ++ (oA T 30 a_p x_p ++ (oA T 6 a_k x_k ++ (oA T 64 a_z x_z ++ Z)))))))) H locs → W p l e (rmL 3 0) s m args below meth c H locs 0 0 Q (F0 m 0 ls []) from hm _ _ hW
  clear hW
  intro H locs hW
  have L60 : ∀ (n : Nat) (x_z_60 : Nat → Int32) (v8_60 : Int32) (v9_60 : Int32) (v10_60 : Int32) (v11_60 : Int32) (v12_60 : Int32) (v13_60 : Int32) (v14_60 : Int32) (H : Heap) (locs : List Loc) (ls : Array Slot) (o13_60r : Int32) (o14_60r : Int32), Wd D A s.heap (oA T 12 a_c x_c ++ (oA T 24 a_w x_w ++ (oA T 2 a_u x_u ++ (oA T 6 a_x x_x ++ (oA T 6 a_l x_l ++ (oA T 30 a_p x_p ++ (oA T 6 a_k x_k ++ (oA T 64 a_z x_z_60 ++ Z)))))))) H locs → lv_has ls 15 [(0, .ref a_c), (1, .ref a_w), (2, .ref a_u), (3, .ref a_x), (4, .ref a_l), (5, .ref a_p), (6, .ref a_k), (7, .ref a_z), (8, .int v8_60), (9, .int v9_60), (10, .int v10_60), (11, .int v11_60), (12, .int v12_60), (13, .int v13_60), (14, .int v14_60)] → f_L_style_L60 n x_c x_w x_u x_x x_l x_p x_k x_z_60 v8_60 v9_60 v10_60 v11_60 v12_60 v13_60 v14_60 = some (o13_60r, o14_60r) → (∀ (H : Heap) (locs : List Loc) (ls : Array Slot), Wd D A s.heap (oA T 12 a_c x_c ++ (oA T 24 a_w x_w ++ (oA T 2 a_u x_u ++ (oA T 6 a_x x_x ++ (oA T 6 a_l x_l ++ (oA T 30 a_p x_p ++ (oA T 6 a_k x_k ++ (oA T 64 a_z x_z_60 ++ Z)))))))) H locs → lv_has ls 15 [(0, .ref a_c), (1, .ref a_w), (2, .ref a_u), (3, .ref a_x), (4, .ref a_l), (5, .ref a_p), (6, .ref a_k), (7, .ref a_z), (8, .int v8_60), (9, .int v9_60), (10, .int v10_60), (11, .int v11_60), (12, .int v12_60), (13, .int o13_60r)] → W p l e (rmL 3 0) s m args below meth c H locs 0 0 Q (F0 m 110 ls [])) → W p l e (rmL 3 0) s m args below meth c H locs 0 0 Q (F0 m 60 ls []) := by
    intro n
    induction n with
    | zero =>
      intro x_z_60 v8_60 v9_60 v10_60 v11_60 v12_60 v13_60 v14_60 H locs ls o13_60r o14_60r hW hl h k1
      rw [f_L_style_L60] at h
      cases h
    | succ n ih =>
      intro x_z_60 v8_60 v9_60 v10_60 v11_60 v12_60 v13_60 v14_60 H locs ls o13_60r o14_60r hW hl h k1
      rw [f_L_style_L60] at h
      refine lv_iload hx hb dL_style_60 (lv_at hl 14 rfl) ?_
      refine lv_aload_n hx hb dL_style_62 rfl (lv_at hl 0 rfl) ?_
      refine lv_iconst (v := 3) hx hb dL_style_63 (by decide) ?_
      refine g_iald hx hb hK hW 0 rfl (by decide) dL_style_64 ?_
      refine lv_icmp_ge (tgt := 110) hx hb dL_style_65 (by decide) (fun c8 => ?_) (fun c8 => ?_)
      · replace h := ite_t c8 h
        obtain ⟨rfl, rfl⟩ := ret2 h
        exact k1 H locs ls hW (lv_sub hl [0, 1, 2, 3, 4, 5, 6, 7, 8, 9, 10, 11, 12, 13] rfl)
      · replace h := ite_f c8 h
        refine lv_iload hx hb dL_style_68 (lv_at hl 13 rfl) ?_
        refine lv_if_eq (tgt := 101) hx hb dL_style_70 (by decide) (fun c9 => ?_) (fun c9 => ?_)
        · replace h := ite_t c9 h
          refine lv_iconst (v := 0) hx hb dL_style_101 (by decide) ?_
          refine lv_istore (lv' := [(13, .int 0), (0, .ref a_c), (1, .ref a_w), (2, .ref a_u), (3, .ref a_x), (4, .ref a_l), (5, .ref a_p), (6, .ref a_k), (7, .ref a_z), (8, .int v8_60), (9, .int v9_60), (10, .int v10_60), (11, .int v11_60), (12, .int v12_60), (14, .int v14_60)]) hx hb dL_style_102 hl (by decide) rfl (fun ls hl => ?_)
          obtain ⟨w14_10, ew14_10⟩ : ∃ y : Int32, y = v14_60 + 1 := ⟨_, rfl⟩
          replace h := lb_at ew14_10 h
          refine lv_iinc (v := w14_10) (lv' := [(14, .int w14_10), (13, .int 0), (0, .ref a_c), (1, .ref a_w), (2, .ref a_u), (3, .ref a_x), (4, .ref a_l), (5, .ref a_p), (6, .ref a_k), (7, .ref a_z), (8, .int v8_60), (9, .int v9_60), (10, .int v10_60), (11, .int v11_60), (12, .int v12_60)]) hx hb dL_style_104 hl (k := 14) rfl (by rw [ew14_10]; rfl) (by decide) rfl (fun ls hl => ?_)
          refine lv_goto (tgt := 60) hx hb dL_style_107 (by decide) ?_
          exact ih _ _ _ _ _ _ _ _ H locs ls _ _ hW (lv_sub hl [2, 3, 4, 5, 6, 7, 8, 9, 10, 11, 12, 13, 14, 1, 0] rfl) h k1
        · replace h := ite_f c9 h
          refine lv_aload hx hb dL_style_73 (lv_at hl 5 rfl) ?_
          refine lv_iconst (v := 5) hx hb dL_style_75 (by decide) ?_
          refine lv_iload hx hb dL_style_76 (lv_at hl 14 rfl) ?_
          refine lv_imul hx hb dL_style_78 ?_
          refine lv_iconst (v := 3) hx hb dL_style_79 (by decide) ?_
          refine lv_iadd hx hb dL_style_80 ?_
          obtain ⟨g11, h⟩ := grd_s h
          refine g_iald hx hb hK hW 5 rfl g11 dL_style_81 ?_
          refine lv_iload hx hb dL_style_82 (lv_at hl 12 rfl) ?_
          refine lv_icmp_ne (tgt := 97) hx hb dL_style_84 (by decide) (fun c12 => ?_) (fun c12 => ?_)
          · replace h := ite_f c12 h
            refine lv_iconst (v := 1) hx hb dL_style_97 (by decide) ?_
            refine lv_goto (tgt := 102) hx hb dL_style_98 (by decide) ?_
            refine lv_istore (lv' := [(13, .int 1), (0, .ref a_c), (1, .ref a_w), (2, .ref a_u), (3, .ref a_x), (4, .ref a_l), (5, .ref a_p), (6, .ref a_k), (7, .ref a_z), (8, .int v8_60), (9, .int v9_60), (10, .int v10_60), (11, .int v11_60), (12, .int v12_60), (14, .int v14_60)]) hx hb dL_style_102 hl (by decide) rfl (fun ls hl => ?_)
            obtain ⟨w14_13, ew14_13⟩ : ∃ y : Int32, y = v14_60 + 1 := ⟨_, rfl⟩
            replace h := lb_at ew14_13 h
            refine lv_iinc (v := w14_13) (lv' := [(14, .int w14_13), (13, .int 1), (0, .ref a_c), (1, .ref a_w), (2, .ref a_u), (3, .ref a_x), (4, .ref a_l), (5, .ref a_p), (6, .ref a_k), (7, .ref a_z), (8, .int v8_60), (9, .int v9_60), (10, .int v10_60), (11, .int v11_60), (12, .int v12_60)]) hx hb dL_style_104 hl (k := 14) rfl (by rw [ew14_13]; rfl) (by decide) rfl (fun ls hl => ?_)
            refine lv_goto (tgt := 60) hx hb dL_style_107 (by decide) ?_
            exact ih _ _ _ _ _ _ _ _ H locs ls _ _ hW (lv_sub hl [2, 3, 4, 5, 6, 7, 8, 9, 10, 11, 12, 13, 14, 1, 0] rfl) h k1
          · replace h := ite_t c12 h
            refine lv_iload hx hb dL_style_87 (lv_at hl 11 rfl) ?_
            refine lv_iload hx hb dL_style_89 (lv_at hl 14 rfl) ?_
            refine lv_ishr hx hb dL_style_91 ?_
            refine lv_iconst (v := 1) hx hb dL_style_92 (by decide) ?_
            refine lv_iand hx hb dL_style_93 ?_
            refine lv_if_ne (tgt := 101) hx hb dL_style_94 (by decide) (fun c14 => ?_) (fun c14 => ?_)
            · replace h := ite_f c14 h
              refine lv_iconst (v := 0) hx hb dL_style_101 (by decide) ?_
              refine lv_istore (lv' := [(13, .int 0), (0, .ref a_c), (1, .ref a_w), (2, .ref a_u), (3, .ref a_x), (4, .ref a_l), (5, .ref a_p), (6, .ref a_k), (7, .ref a_z), (8, .int v8_60), (9, .int v9_60), (10, .int v10_60), (11, .int v11_60), (12, .int v12_60), (14, .int v14_60)]) hx hb dL_style_102 hl (by decide) rfl (fun ls hl => ?_)
              obtain ⟨w14_15, ew14_15⟩ : ∃ y : Int32, y = v14_60 + 1 := ⟨_, rfl⟩
              replace h := lb_at ew14_15 h
              refine lv_iinc (v := w14_15) (lv' := [(14, .int w14_15), (13, .int 0), (0, .ref a_c), (1, .ref a_w), (2, .ref a_u), (3, .ref a_x), (4, .ref a_l), (5, .ref a_p), (6, .ref a_k), (7, .ref a_z), (8, .int v8_60), (9, .int v9_60), (10, .int v10_60), (11, .int v11_60), (12, .int v12_60)]) hx hb dL_style_104 hl (k := 14) rfl (by rw [ew14_15]; rfl) (by decide) rfl (fun ls hl => ?_)
              refine lv_goto (tgt := 60) hx hb dL_style_107 (by decide) ?_
              exact ih _ _ _ _ _ _ _ _ H locs ls _ _ hW (lv_sub hl [2, 3, 4, 5, 6, 7, 8, 9, 10, 11, 12, 13, 14, 1, 0] rfl) h k1
            · replace h := ite_t c14 h
              refine lv_iconst (v := 1) hx hb dL_style_97 (by decide) ?_
              refine lv_goto (tgt := 102) hx hb dL_style_98 (by decide) ?_
              refine lv_istore (lv' := [(13, .int 1), (0, .ref a_c), (1, .ref a_w), (2, .ref a_u), (3, .ref a_x), (4, .ref a_l), (5, .ref a_p), (6, .ref a_k), (7, .ref a_z), (8, .int v8_60), (9, .int v9_60), (10, .int v10_60), (11, .int v11_60), (12, .int v12_60), (14, .int v14_60)]) hx hb dL_style_102 hl (by decide) rfl (fun ls hl => ?_)
              obtain ⟨w14_16, ew14_16⟩ : ∃ y : Int32, y = v14_60 + 1 := ⟨_, rfl⟩
              replace h := lb_at ew14_16 h
              refine lv_iinc (v := w14_16) (lv' := [(14, .int w14_16), (13, .int 1), (0, .ref a_c), (1, .ref a_w), (2, .ref a_u), (3, .ref a_x), (4, .ref a_l), (5, .ref a_p), (6, .ref a_k), (7, .ref a_z), (8, .int v8_60), (9, .int v9_60), (10, .int v10_60), (11, .int v11_60), (12, .int v12_60)]) hx hb dL_style_104 hl (k := 14) rfl (by rw [ew14_16]; rfl) (by decide) rfl (fun ls hl => ?_)
              refine lv_goto (tgt := 60) hx hb dL_style_107 (by decide) ?_
              exact ih _ _ _ _ _ _ _ _ H locs ls _ _ hW (lv_sub hl [2, 3, 4, 5, 6, 7, 8, 9, 10, 11, 12, 13, 14, 1, 0] rfl) h k1
  have L28 : ∀ (n : Nat) (x_z_28 : Nat → Int32) (v8_28 : Int32) (v9_28 : Int32) (v10_28 : Int32) (v11_28 : Int32) (v12_28 : Int32) (H : Heap) (locs : List Loc) (ls : Array Slot) (o11_28r : Int32) (o12_28r : Int32), Wd D A s.heap (oA T 12 a_c x_c ++ (oA T 24 a_w x_w ++ (oA T 2 a_u x_u ++ (oA T 6 a_x x_x ++ (oA T 6 a_l x_l ++ (oA T 30 a_p x_p ++ (oA T 6 a_k x_k ++ (oA T 64 a_z x_z_28 ++ Z)))))))) H locs → lv_has ls 15 [(0, .ref a_c), (1, .ref a_w), (2, .ref a_u), (3, .ref a_x), (4, .ref a_l), (5, .ref a_p), (6, .ref a_k), (7, .ref a_z), (8, .int v8_28), (9, .int v9_28), (10, .int v10_28), (11, .int v11_28), (12, .int v12_28)] → f_L_style_L28 n x_c x_w x_u x_x x_l x_p x_k x_z_28 v8_28 v9_28 v10_28 v11_28 v12_28 = some (o11_28r, o12_28r) → (∀ (H : Heap) (locs : List Loc) (ls : Array Slot), Wd D A s.heap (oA T 12 a_c x_c ++ (oA T 24 a_w x_w ++ (oA T 2 a_u x_u ++ (oA T 6 a_x x_x ++ (oA T 6 a_l x_l ++ (oA T 30 a_p x_p ++ (oA T 6 a_k x_k ++ (oA T 64 a_z x_z_28 ++ Z)))))))) H locs → lv_has ls 15 [(0, .ref a_c), (1, .ref a_w), (2, .ref a_u), (3, .ref a_x), (4, .ref a_l), (5, .ref a_p), (6, .ref a_k), (7, .ref a_z), (8, .int v8_28), (9, .int v9_28), (10, .int v10_28), (11, .int o11_28r)] → W p l e (rmL 3 0) s m args below meth c H locs 0 0 Q (F0 m 134 ls [])) → W p l e (rmL 3 0) s m args below meth c H locs 0 0 Q (F0 m 28 ls []) := by
    intro n
    induction n with
    | zero =>
      intro x_z_28 v8_28 v9_28 v10_28 v11_28 v12_28 H locs ls o11_28r o12_28r hW hl h k1
      rw [f_L_style_L28] at h
      cases h
    | succ n ih =>
      intro x_z_28 v8_28 v9_28 v10_28 v11_28 v12_28 H locs ls o11_28r o12_28r hW hl h k1
      rw [f_L_style_L28] at h
      refine lv_iload hx hb dL_style_28 (lv_at hl 12 rfl) ?_
      refine lv_if_lt (tgt := 134) hx hb dL_style_30 (by decide) (fun c4 => ?_) (fun c4 => ?_)
      · replace h := ite_t c4 h
        obtain ⟨rfl, rfl⟩ := ret2 h
        exact k1 H locs ls hW (lv_sub hl [0, 1, 2, 3, 4, 5, 6, 7, 8, 9, 10, 11] rfl)
      · replace h := ite_f c4 h
        refine lv_aload_n hx hb dL_style_33 rfl (lv_at hl 0 rfl) ?_
        refine lv_aload_n hx hb dL_style_34 rfl (lv_at hl 1 rfl) ?_
        refine lv_aload_n hx hb dL_style_35 rfl (lv_at hl 2 rfl) ?_
        refine lv_aload_n hx hb dL_style_36 rfl (lv_at hl 3 rfl) ?_
        refine lv_aload hx hb dL_style_37 (lv_at hl 4 rfl) ?_
        refine lv_aload hx hb dL_style_39 (lv_at hl 5 rfl) ?_
        refine lv_aload hx hb dL_style_41 (lv_at hl 6 rfl) ?_
        refine lv_iload hx hb dL_style_43 (lv_at hl 8 rfl) ?_
        refine lv_iload hx hb dL_style_45 (lv_at hl 10 rfl) ?_
        refine lv_iload hx hb dL_style_47 (lv_at hl 12 rfl) ?_
        obtain ⟨r5, q6, h⟩ := bnd1_s h
        refine cs_L_63 hx hb hml hown hts hK hN hE hC hA hW (c_L_stands l D T A a_c a_w a_u a_x a_l a_p a_k (oA T 64 a_z x_z_28 ++ Z) x_c x_w x_u x_x x_l x_p x_k v8_28 v10_28 v12_28 r5 q6) ⟨Nat.le_of_ble_eq_true rfl, Nat.le_of_ble_eq_true rfl⟩ hl.1 rfl (Nat.le_of_ble_eq_true rfl) dL_style_49 (hf0 (Nat.zero_le _)) rfl (fun H locs hW => ?_)
        refine lv_istore (lv' := [(13, .int r5), (0, .ref a_c), (1, .ref a_w), (2, .ref a_u), (3, .ref a_x), (4, .ref a_l), (5, .ref a_p), (6, .ref a_k), (7, .ref a_z), (8, .int v8_28), (9, .int v9_28), (10, .int v10_28), (11, .int v11_28), (12, .int v12_28)]) hx hb dL_style_52 hl (by decide) rfl (fun ls hl => ?_)
        refine lv_iload hx hb dL_style_54 (lv_at hl 13 rfl) ?_
        refine lv_iconst (v := 1) hx hb dL_style_56 (by decide) ?_
        refine lv_iadd hx hb dL_style_57 ?_
        refine lv_topi (fun w14_7 ew14_7 => ?_)
        replace h := lb_at ew14_7 h
        refine lv_istore (lv' := [(14, .int w14_7), (13, .int r5), (0, .ref a_c), (1, .ref a_w), (2, .ref a_u), (3, .ref a_x), (4, .ref a_l), (5, .ref a_p), (6, .ref a_k), (7, .ref a_z), (8, .int v8_28), (9, .int v9_28), (10, .int v10_28), (11, .int v11_28), (12, .int v12_28)]) hx hb dL_style_58 hl (by decide) rfl (fun ls hl => ?_)
        obtain ⟨o13_u17, o14_u17, q18, h⟩ := bnd2_s h
        refine L60 400 _ _ _ _ _ _ _ _ H locs ls o13_u17 o14_u17 hW (lv_sub hl [2, 3, 4, 5, 6, 7, 8, 9, 10, 11, 12, 13, 14, 1, 0] rfl) q18 (fun H locs ls hW hl => ?_)
        refine lv_iload hx hb dL_style_110 (lv_at hl 11 rfl) ?_
        refine lv_iload hx hb dL_style_112 (lv_at hl 13 rfl) ?_
        refine lv_if_eq (tgt := 124) hx hb dL_style_114 (by decide) (fun c19 => ?_) (fun c19 => ?_)
        · replace h := ite_t c19 h
          refine lv_iconst (v := 0) hx hb dL_style_124 (by decide) ?_
          refine lv_ior hx hb dL_style_125 ?_
          refine lv_topi (fun w11_20 ew11_20 => ?_)
          replace h := lb_at ew11_20 h
          refine lv_istore (lv' := [(11, .int w11_20), (0, .ref a_c), (1, .ref a_w), (2, .ref a_u), (3, .ref a_x), (4, .ref a_l), (5, .ref a_p), (6, .ref a_k), (7, .ref a_z), (8, .int v8_28), (9, .int v9_28), (10, .int v10_28), (12, .int v12_28), (13, .int o13_u17)]) hx hb dL_style_126 hl (by decide) rfl (fun ls hl => ?_)
          obtain ⟨w12_21, ew12_21⟩ : ∃ y : Int32, y = v12_28 + (-1) := ⟨_, rfl⟩
          replace h := lb_at ew12_21 h
          refine lv_iinc (v := w12_21) (lv' := [(12, .int w12_21), (11, .int w11_20), (0, .ref a_c), (1, .ref a_w), (2, .ref a_u), (3, .ref a_x), (4, .ref a_l), (5, .ref a_p), (6, .ref a_k), (7, .ref a_z), (8, .int v8_28), (9, .int v9_28), (10, .int v10_28), (13, .int o13_u17)]) hx hb dL_style_128 hl (k := 12) rfl (by rw [ew12_21]; rfl) (by decide) rfl (fun ls hl => ?_)
          refine lv_goto (tgt := 28) hx hb dL_style_131 (by decide) ?_
          exact ih _ _ _ _ _ _ H locs ls _ _ hW (lv_sub hl [2, 3, 4, 5, 6, 7, 8, 9, 10, 11, 12, 1, 0] rfl) h k1
        · replace h := ite_f c19 h
          refine lv_iconst (v := 1) hx hb dL_style_117 (by decide) ?_
          refine lv_iload hx hb dL_style_118 (lv_at hl 12 rfl) ?_
          refine lv_ishl hx hb dL_style_120 ?_
          refine lv_goto (tgt := 125) hx hb dL_style_121 (by decide) ?_
          refine lv_ior hx hb dL_style_125 ?_
          refine lv_topi (fun w11_22 ew11_22 => ?_)
          replace h := lb_at ew11_22 h
          refine lv_istore (lv' := [(11, .int w11_22), (0, .ref a_c), (1, .ref a_w), (2, .ref a_u), (3, .ref a_x), (4, .ref a_l), (5, .ref a_p), (6, .ref a_k), (7, .ref a_z), (8, .int v8_28), (9, .int v9_28), (10, .int v10_28), (12, .int v12_28), (13, .int o13_u17)]) hx hb dL_style_126 hl (by decide) rfl (fun ls hl => ?_)
          obtain ⟨w12_23, ew12_23⟩ : ∃ y : Int32, y = v12_28 + (-1) := ⟨_, rfl⟩
          replace h := lb_at ew12_23 h
          refine lv_iinc (v := w12_23) (lv' := [(12, .int w12_23), (11, .int w11_22), (0, .ref a_c), (1, .ref a_w), (2, .ref a_u), (3, .ref a_x), (4, .ref a_l), (5, .ref a_p), (6, .ref a_k), (7, .ref a_z), (8, .int v8_28), (9, .int v9_28), (10, .int v10_28), (13, .int o13_u17)]) hx hb dL_style_128 hl (k := 12) rfl (by rw [ew12_23]; rfl) (by decide) rfl (fun ls hl => ?_)
          refine lv_goto (tgt := 28) hx hb dL_style_131 (by decide) ?_
          exact ih _ _ _ _ _ _ H locs ls _ _ hW (lv_sub hl [2, 3, 4, 5, 6, 7, 8, 9, 10, 11, 12, 1, 0] rfl) h k1
  have L137 : ∀ (n : Nat) (x_z_137 : Nat → Int32) (v8_137 : Int32) (v9_137 : Int32) (v10_137 : Int32) (v11_137 : Int32) (v12_137 : Int32) (H : Heap) (locs : List Loc) (ls : Array Slot) (o9_137r : Int32) (o12_137r : Int32) (y_z_137r : Nat → Int32), Wd D A s.heap (oA T 12 a_c x_c ++ (oA T 24 a_w x_w ++ (oA T 2 a_u x_u ++ (oA T 6 a_x x_x ++ (oA T 6 a_l x_l ++ (oA T 30 a_p x_p ++ (oA T 6 a_k x_k ++ (oA T 64 a_z x_z_137 ++ Z)))))))) H locs → lv_has ls 15 [(0, .ref a_c), (1, .ref a_w), (2, .ref a_u), (3, .ref a_x), (4, .ref a_l), (5, .ref a_p), (6, .ref a_k), (7, .ref a_z), (8, .int v8_137), (9, .int v9_137), (10, .int v10_137), (11, .int v11_137), (12, .int v12_137)] → f_L_style_L137 n x_c x_w x_u x_x x_l x_p x_k x_z_137 v8_137 v9_137 v10_137 v11_137 v12_137 = some (o9_137r, o12_137r, y_z_137r) → (∀ (H : Heap) (locs : List Loc) (ls : Array Slot), Wd D A s.heap (oA T 12 a_c x_c ++ (oA T 24 a_w x_w ++ (oA T 2 a_u x_u ++ (oA T 6 a_x x_x ++ (oA T 6 a_l x_l ++ (oA T 30 a_p x_p ++ (oA T 6 a_k x_k ++ (oA T 64 a_z y_z_137r ++ Z)))))))) H locs → lv_has ls 15 [(0, .ref a_c), (1, .ref a_w), (2, .ref a_u), (3, .ref a_x), (4, .ref a_l), (5, .ref a_p), (6, .ref a_k), (7, .ref a_z), (8, .int v8_137), (9, .int o9_137r), (10, .int v10_137)] → W p l e (rmL 3 0) s m args below meth c H locs 0 0 Q (F0 m 190 ls [])) → W p l e (rmL 3 0) s m args below meth c H locs 0 0 Q (F0 m 137 ls []) := by
    intro n
    induction n with
    | zero =>
      intro x_z_137 v8_137 v9_137 v10_137 v11_137 v12_137 H locs ls o9_137r o12_137r y_z_137r hW hl h k1
      rw [f_L_style_L137] at h
      cases h
    | succ n ih =>
      intro x_z_137 v8_137 v9_137 v10_137 v11_137 v12_137 H locs ls o9_137r o12_137r y_z_137r hW hl h k1
      rw [f_L_style_L137] at h
      refine lv_iload hx hb dL_style_137 (lv_at hl 12 rfl) ?_
      refine lv_aload_n hx hb dL_style_139 rfl (lv_at hl 0 rfl) ?_
      refine lv_iconst (v := 3) hx hb dL_style_140 (by decide) ?_
      refine g_iald hx hb hK hW 0 rfl (by decide) dL_style_141 ?_
      refine lv_icmp_ge (tgt := 190) hx hb dL_style_142 (by decide) (fun c26 => ?_) (fun c26 => ?_)
      · replace h := ite_t c26 h
        obtain ⟨rfl, rfl, rfl⟩ := ret3 h
        exact k1 H locs ls hW (lv_sub hl [0, 1, 2, 3, 4, 5, 6, 7, 8, 9, 10] rfl)
      · replace h := ite_f c26 h
        refine lv_iload hx hb dL_style_145 (lv_at hl 11 rfl) ?_
        refine lv_iload hx hb dL_style_147 (lv_at hl 12 rfl) ?_
        refine lv_ishr hx hb dL_style_149 ?_
        refine lv_iconst (v := 1) hx hb dL_style_150 (by decide) ?_
        refine lv_iand hx hb dL_style_151 ?_
        refine lv_iconst (v := 1) hx hb dL_style_152 (by decide) ?_
        refine lv_icmp_ne (tgt := 184) hx hb dL_style_153 (by decide) (fun c27 => ?_) (fun c27 => ?_)
        · replace h := ite_f c27 h
          obtain ⟨w12_28, ew12_28⟩ : ∃ y : Int32, y = v12_137 + 1 := ⟨_, rfl⟩
          replace h := lb_at ew12_28 h
          refine lv_iinc (v := w12_28) (lv' := [(12, .int w12_28), (0, .ref a_c), (1, .ref a_w), (2, .ref a_u), (3, .ref a_x), (4, .ref a_l), (5, .ref a_p), (6, .ref a_k), (7, .ref a_z), (8, .int v8_137), (9, .int v9_137), (10, .int v10_137), (11, .int v11_137)]) hx hb dL_style_184 hl (k := 12) rfl (by rw [ew12_28]; rfl) (by decide) rfl (fun ls hl => ?_)
          refine lv_goto (tgt := 137) hx hb dL_style_187 (by decide) ?_
          exact ih _ _ _ _ _ _ H locs ls _ _ _ hW (lv_sub hl [1, 2, 3, 4, 5, 6, 7, 8, 9, 10, 11, 12, 0] rfl) h k1
        · replace h := ite_t c27 h
          refine lv_aload hx hb dL_style_156 (lv_at hl 5 rfl) ?_
          refine lv_iconst (v := 5) hx hb dL_style_158 (by decide) ?_
          refine lv_iload hx hb dL_style_159 (lv_at hl 12 rfl) ?_
          refine lv_imul hx hb dL_style_161 ?_
          refine lv_iconst (v := 3) hx hb dL_style_162 (by decide) ?_
          refine lv_iadd hx hb dL_style_163 ?_
          obtain ⟨g29, h⟩ := grd_s h
          refine g_iald hx hb hK hW 5 rfl g29 dL_style_164 ?_
          refine lv_if_ge (tgt := 184) hx hb dL_style_165 (by decide) (fun c30 => ?_) (fun c30 => ?_)
          · replace h := ite_t c30 h
            obtain ⟨w12_31, ew12_31⟩ : ∃ y : Int32, y = v12_137 + 1 := ⟨_, rfl⟩
            replace h := lb_at ew12_31 h
            refine lv_iinc (v := w12_31) (lv' := [(12, .int w12_31), (0, .ref a_c), (1, .ref a_w), (2, .ref a_u), (3, .ref a_x), (4, .ref a_l), (5, .ref a_p), (6, .ref a_k), (7, .ref a_z), (8, .int v8_137), (9, .int v9_137), (10, .int v10_137), (11, .int v11_137)]) hx hb dL_style_184 hl (k := 12) rfl (by rw [ew12_31]; rfl) (by decide) rfl (fun ls hl => ?_)
            refine lv_goto (tgt := 137) hx hb dL_style_187 (by decide) ?_
            exact ih _ _ _ _ _ _ H locs ls _ _ _ hW (lv_sub hl [1, 2, 3, 4, 5, 6, 7, 8, 9, 10, 11, 12, 0] rfl) h k1
          · replace h := ite_f c30 h
            refine lv_aload hx hb dL_style_168 (lv_at hl 7 rfl) ?_
            refine lv_iload hx hb dL_style_170 (lv_at hl 9 rfl) ?_
            refine lv_bipush (v := 10) hx hb dL_style_172 (by decide) ?_
            refine lv_iload hx hb dL_style_174 (lv_at hl 12 rfl) ?_
            refine lv_imul hx hb dL_style_176 ?_
            refine lv_iload hx hb dL_style_177 (lv_at hl 10 rfl) ?_
            refine lv_iadd hx hb dL_style_179 ?_
            obtain ⟨g32, h⟩ := grd_s h
            refine g_iast (ws9 := oA T 12 a_c x_c ++ (oA T 24 a_w x_w ++ (oA T 2 a_u x_u ++ (oA T 6 a_x x_x ++ (oA T 6 a_l x_l ++ (oA T 30 a_p x_p ++ (oA T 6 a_k x_k ++ (oA T 64 a_z (upd x_z_137 v9_137.toNatClampNeg ((10 * v12_137) + v10_137)) ++ Z)))))))) hx hb hK hW 7 rfl g32 rfl dL_style_180 (fun H locs hW => ?_)
            obtain ⟨x_z33, ex_z33⟩ : ∃ y : Nat → Int32, y = upd x_z_137 v9_137.toNatClampNeg ((10 * v12_137) + v10_137) := ⟨_, rfl⟩
            rw [← ex_z33] at hW
            replace h := lb_at ex_z33 h
            obtain ⟨w9_34, ew9_34⟩ : ∃ y : Int32, y = v9_137 + 1 := ⟨_, rfl⟩
            replace h := lb_at ew9_34 h
            refine lv_iinc (v := w9_34) (lv' := [(9, .int w9_34), (0, .ref a_c), (1, .ref a_w), (2, .ref a_u), (3, .ref a_x), (4, .ref a_l), (5, .ref a_p), (6, .ref a_k), (7, .ref a_z), (8, .int v8_137), (10, .int v10_137), (11, .int v11_137), (12, .int v12_137)]) hx hb dL_style_181 hl (k := 9) rfl (by rw [ew9_34]; rfl) (by decide) rfl (fun ls hl => ?_)
            obtain ⟨w12_35, ew12_35⟩ : ∃ y : Int32, y = v12_137 + 1 := ⟨_, rfl⟩
            replace h := lb_at ew12_35 h
            refine lv_iinc (v := w12_35) (lv' := [(12, .int w12_35), (9, .int w9_34), (0, .ref a_c), (1, .ref a_w), (2, .ref a_u), (3, .ref a_x), (4, .ref a_l), (5, .ref a_p), (6, .ref a_k), (7, .ref a_z), (8, .int v8_137), (10, .int v10_137), (11, .int v11_137)]) hx hb dL_style_184 hl (k := 12) rfl (by rw [ew12_35]; rfl) (by decide) rfl (fun ls hl => ?_)
            refine lv_goto (tgt := 137) hx hb dL_style_187 (by decide) ?_
            exact ih _ _ _ _ _ _ H locs ls _ _ _ hW (lv_sub hl [2, 3, 4, 5, 6, 7, 8, 9, 10, 1, 11, 12, 0] rfl) h k1
  have L6 : ∀ (n : Nat) (x_z_6 : Nat → Int32) (v8_6 : Int32) (v9_6 : Int32) (v10_6 : Int32) (H : Heap) (locs : List Loc) (ls : Array Slot) (o9_6r : Int32) (o10_6r : Int32) (y_z_6r : Nat → Int32), Wd D A s.heap (oA T 12 a_c x_c ++ (oA T 24 a_w x_w ++ (oA T 2 a_u x_u ++ (oA T 6 a_x x_x ++ (oA T 6 a_l x_l ++ (oA T 30 a_p x_p ++ (oA T 6 a_k x_k ++ (oA T 64 a_z x_z_6 ++ Z)))))))) H locs → lv_has ls 15 [(0, .ref a_c), (1, .ref a_w), (2, .ref a_u), (3, .ref a_x), (4, .ref a_l), (5, .ref a_p), (6, .ref a_k), (7, .ref a_z), (8, .int v8_6), (9, .int v9_6), (10, .int v10_6)] → f_L_style_L6 n x_c x_w x_u x_x x_l x_p x_k x_z_6 v8_6 v9_6 v10_6 = some (o9_6r, o10_6r, y_z_6r) → (∀ (H : Heap) (locs : List Loc) (ls : Array Slot), Wd D A s.heap (oA T 12 a_c x_c ++ (oA T 24 a_w x_w ++ (oA T 2 a_u x_u ++ (oA T 6 a_x x_x ++ (oA T 6 a_l x_l ++ (oA T 30 a_p x_p ++ (oA T 6 a_k x_k ++ (oA T 64 a_z y_z_6r ++ Z)))))))) H locs → lv_has ls 15 [(9, .int o9_6r)] → W p l e (rmL 3 0) s m args below meth c H locs 0 0 Q (F0 m 196 ls [])) → W p l e (rmL 3 0) s m args below meth c H locs 0 0 Q (F0 m 6 ls []) := by
    intro n
    induction n with
    | zero =>
      intro x_z_6 v8_6 v9_6 v10_6 H locs ls o9_6r o10_6r y_z_6r hW hl h k1
      rw [f_L_style_L6] at h
      cases h
    | succ n ih =>
      intro x_z_6 v8_6 v9_6 v10_6 H locs ls o9_6r o10_6r y_z_6r hW hl h k1
      rw [f_L_style_L6] at h
      refine lv_iload hx hb dL_style_6 (lv_at hl 10 rfl) ?_
      refine lv_aload_n hx hb dL_style_8 rfl (lv_at hl 0 rfl) ?_
      refine lv_bipush (v := 8) hx hb dL_style_9 (by decide) ?_
      refine lv_iload hx hb dL_style_11 (lv_at hl 8 rfl) ?_
      refine lv_iadd hx hb dL_style_13 ?_
      obtain ⟨g1, h⟩ := grd_s h
      refine g_iald hx hb hK hW 0 rfl g1 dL_style_14 ?_
      refine lv_icmp_ge (tgt := 196) hx hb dL_style_15 (by decide) (fun c2 => ?_) (fun c2 => ?_)
      · replace h := ite_t c2 h
        obtain ⟨rfl, rfl, rfl⟩ := ret3 h
        exact k1 H locs ls hW (lv_sub hl [9] rfl)
      · replace h := ite_f c2 h
        refine lv_iconst (v := 0) hx hb dL_style_18 (by decide) ?_
        refine lv_istore (lv' := [(11, .int 0), (0, .ref a_c), (1, .ref a_w), (2, .ref a_u), (3, .ref a_x), (4, .ref a_l), (5, .ref a_p), (6, .ref a_k), (7, .ref a_z), (8, .int v8_6), (9, .int v9_6), (10, .int v10_6)]) hx hb dL_style_19 hl (by decide) rfl (fun ls hl => ?_)
        refine lv_aload_n hx hb dL_style_21 rfl (lv_at hl 1 rfl) ?_
        refine lv_iconst (v := 3) hx hb dL_style_22 (by decide) ?_
        refine g_iald hx hb hK hW 0 rfl (by decide) dL_style_23 ?_
        refine lv_iconst (v := 1) hx hb dL_style_24 (by decide) ?_
        refine lv_isub hx hb dL_style_25 ?_
        refine lv_topi (fun w12_3 ew12_3 => ?_)
        replace h := lb_at ew12_3 h
        refine lv_istore (lv' := [(12, .int w12_3), (11, .int 0), (0, .ref a_c), (1, .ref a_w), (2, .ref a_u), (3, .ref a_x), (4, .ref a_l), (5, .ref a_p), (6, .ref a_k), (7, .ref a_z), (8, .int v8_6), (9, .int v9_6), (10, .int v10_6)]) hx hb dL_style_26 hl (by decide) rfl (fun ls hl => ?_)
        obtain ⟨o11_u24, o12_u24, q25, h⟩ := bnd2_s h
        refine L28 400 _ _ _ _ _ _ H locs ls o11_u24 o12_u24 hW (lv_sub hl [2, 3, 4, 5, 6, 7, 8, 9, 10, 11, 12, 1, 0] rfl) q25 (fun H locs ls hW hl => ?_)
        refine lv_iconst (v := 0) hx hb dL_style_134 (by decide) ?_
        refine lv_istore (lv' := [(12, .int 0), (0, .ref a_c), (1, .ref a_w), (2, .ref a_u), (3, .ref a_x), (4, .ref a_l), (5, .ref a_p), (6, .ref a_k), (7, .ref a_z), (8, .int v8_6), (9, .int v9_6), (10, .int v10_6), (11, .int o11_u24)]) hx hb dL_style_135 hl (by decide) rfl (fun ls hl => ?_)
        obtain ⟨o9_u36, o12_u36, y_z_u36, q37, h⟩ := bnd3_s h
        refine L137 400 _ _ _ _ _ _ H locs ls o9_u36 o12_u36 y_z_u36 hW (lv_sub hl [1, 2, 3, 4, 5, 6, 7, 8, 9, 10, 11, 12, 0] rfl) q37 (fun H locs ls hW hl => ?_)
        obtain ⟨w10_38, ew10_38⟩ : ∃ y : Int32, y = v10_6 + 1 := ⟨_, rfl⟩
        replace h := lb_at ew10_38 h
        refine lv_iinc (v := w10_38) (lv' := [(10, .int w10_38), (0, .ref a_c), (1, .ref a_w), (2, .ref a_u), (3, .ref a_x), (4, .ref a_l), (5, .ref a_p), (6, .ref a_k), (7, .ref a_z), (8, .int v8_6), (9, .int o9_u36)]) hx hb dL_style_190 hl (k := 10) rfl (by rw [ew10_38]; rfl) (by decide) rfl (fun ls hl => ?_)
        refine lv_goto (tgt := 6) hx hb dL_style_193 (by decide) ?_
        exact ih _ _ _ _ H locs ls _ _ _ hW (lv_sub hl [1, 2, 3, 4, 5, 6, 7, 8, 9, 10, 0] rfl) h k1
  refine lv_iconst (v := 0) hx hb dL_style_0 (by decide) ?_
  refine lv_istore (lv' := [(9, .int 0), (0, .ref a_c), (1, .ref a_w), (2, .ref a_u), (3, .ref a_x), (4, .ref a_l), (5, .ref a_p), (6, .ref a_k), (7, .ref a_z), (8, .int p9)]) hx hb dL_style_1 hl (by decide) rfl (fun ls hl => ?_)
  refine lv_iconst (v := 0) hx hb dL_style_3 (by decide) ?_
  refine lv_istore (lv' := [(10, .int 0), (9, .int 0), (0, .ref a_c), (1, .ref a_w), (2, .ref a_u), (3, .ref a_x), (4, .ref a_l), (5, .ref a_p), (6, .ref a_k), (7, .ref a_z), (8, .int p9)]) hx hb dL_style_4 hl (by decide) rfl (fun ls hl => ?_)
  obtain ⟨o9_u39, o10_u39, y_z_u39, q40, h⟩ := bnd3_s h
  refine L6 400 _ _ _ _ H locs ls o9_u39 o10_u39 y_z_u39 hW (lv_sub hl [2, 3, 4, 5, 6, 7, 8, 9, 10, 1, 0] rfl) q40 (fun H locs ls hW hl => ?_)
  refine lv_iload hx hb dL_style_196 (lv_at hl 0 rfl) ?_
  obtain ⟨rfl, rfl⟩ := ret2 h
  rw [hQ]
  exact g_reti hx hb hr hlk hW dL_style_198
