set_option maxHeartbeats 16000000 in
set_option maxRecDepth 100000 in
theorem c_L_asks (l : Launch) (hfl : l.stackTraces = false) (D : va_G) (T : Nat → ClassId) (A : Nat → Prop) (ad : Nat → Nat → Nat) (hok : okad ad) (a_c : Nat) (a_w : Nat) (a_u : Nat) (a_x : Nat) (a_l : Nat) (a_f : Nat) (a_v : Nat) (a_t : Nat) (a_g : Nat) (a_q : Nat) (a_n : Nat) (a_h : Nat) (a_p : Nat) (a_k : Nat) (Z : va_W) (x_K : Nat → Ob) (x_c : Nat → Int32) (x_w : Nat → Int32) (x_u : Nat → Int32) (x_x : Nat → Int32) (x_l : Nat → Int32) (x_f : Nat → Int32) (x_v : Nat → Int32) (x_t : Nat → Int32) (x_g : Nat → Int32) (x_q : Nat → Int32) (x_n : Nat → Int32) (x_h : Nat → Int32) (x_p : Nat → Int32) (x_k : Nat → Int32) (p2 : Int32) (r : Int32) (x_K9 : Nat → Ob) (x_c9 : Nat → Int32) (x_l9 : Nat → Int32) (x_f9 : Nat → Int32) (x_v9 : Nat → Int32) (x_h9 : Nat → Int32) (h : f_L_asks x_K x_c x_w x_u x_x x_l x_f x_v x_t x_g x_q x_n x_h x_p x_k p2 = some (r, x_K9, x_c9, x_l9, x_f9, x_v9, x_h9)) : Met l yL_asks (Cond.code yL_asks cL_asks 30 (some .boolean) :: wsL_law) (rmL 13 4750) (Pl D T A (oA T 12 a_c x_c ++ (oA T 24 a_w x_w ++ (oA T 2 a_u x_u ++ (oA T 6 a_x x_x ++ (oA T 6 a_l x_l ++ (oA T 6 a_f x_f ++ (oA T 12 a_v x_v ++ (oA T 20 a_t x_t ++ (oA T 20 a_g x_g ++ (oA T 60 a_q x_q ++ (oA T 5 a_n x_n ++ (oA T 16 a_h x_h ++ (oA T 30 a_p x_p ++ (oA T 6 a_k x_k ++ (oc_X10 T (ad 0) (bb ad) (x_K 0) ++ (wkL T ad x_K L18 ++ Z)))))))))))))))) [.ref (ad 0 0), .int p2, .ref a_c, .ref a_w, .ref a_u, .ref a_x, .ref a_l, .ref a_f, .ref a_v, .ref a_t, .ref a_g, .ref a_q, .ref a_n, .ref a_h, .ref a_p, .ref a_k]) (Qgi D A (oA T 12 a_c x_c9 ++ (oA T 24 a_w x_w ++ (oA T 2 a_u x_u ++ (oA T 6 a_x x_x ++ (oA T 6 a_l x_l9 ++ (oA T 6 a_f x_f9 ++ (oA T 12 a_v x_v9 ++ (oA T 20 a_t x_t ++ (oA T 20 a_g x_g ++ (oA T 60 a_q x_q ++ (oA T 5 a_n x_n ++ (oA T 16 a_h x_h9 ++ (oA T 30 a_p x_p ++ (oA T 6 a_k x_k ++ (oc_X10 T (ad 0) (bb ad) (x_K9 0) ++ (wkL T ad x_K9 L18 ++ Z)))))))))))))))) r) 4750 (16 * 4750) A := by
  refine Met.ofW (cc := cL_asks) (maxL := 30) (ret := (some .boolean)) (by decide +kernel) rfl ?_
  intro p e s m args below meth c s₁ B hml hv
  obtain ⟨ha, hP, hK, hD, hN, hE, hC, hA⟩ := hv
  have hx := B.exec
  have hb := B.bytes
  have hr := B.returns
  have hlk := B.notSynchronized
  have hts : ∀ w ∈ wsL_law, w.before args s = true := fun w hw => atoms_spec B.pre w (List.mem_cons_of_mem _ hw)
  have hown : s.vm.findClass RL = some m.cls := findClass_of_methodNamed B.named
  have hW : Wd D A s.heap (oA T 12 a_c x_c ++ (oA T 24 a_w x_w ++ (oA T 2 a_u x_u ++ (oA T 6 a_x x_x ++ (oA T 6 a_l x_l ++ (oA T 6 a_f x_f ++ (oA T 12 a_v x_v ++ (oA T 20 a_t x_t ++ (oA T 20 a_g x_g ++ (oA T 60 a_q x_q ++ (oA T 5 a_n x_n ++ (oA T 16 a_h x_h ++ (oA T 30 a_p x_p ++ (oA T 6 a_k x_k ++ (oc_X10 T (ad 0) (bb ad) (x_K 0) ++ (wkL T ad x_K L18 ++ Z)))))))))))))))) s.heap [] := ⟨hP, hD, va_S.rf⟩
  have hl := lv_entry [.ref (ad 0 0), .int p2, .ref a_c, .ref a_w, .ref a_u, .ref a_x, .ref a_l, .ref a_f, .ref a_v, .ref a_t, .ref a_g, .ref a_q, .ref a_n, .ref a_h, .ref a_p, .ref a_k] (n := 30) (Nat.le_of_ble_eq_true rfl)
  refine W.eq (en_eq ha) ?_
  generalize (lg_sl [.ref (ad 0 0), .int p2, .ref a_c, .ref a_w, .ref a_u, .ref a_x, .ref a_l, .ref a_f, .ref a_v, .ref a_t, .ref a_g, .ref a_q, .ref a_n, .ref a_h, .ref a_p, .ref a_k] ++ List.replicate (30 - (lg_sl [.ref (ad 0 0), .int p2, .ref a_c, .ref a_w, .ref a_u, .ref a_x, .ref a_l, .ref a_f, .ref a_v, .ref a_t, .ref a_g, .ref a_q, .ref a_n, .ref a_h, .ref a_p, .ref a_k]).length) Slot.unset).toArray = ls at hl ⊢
  have hl : lv_has ls 30 [(0, .ref (ad 0 0)), (1, .int p2), (2, .ref a_c), (3, .ref a_w), (4, .ref a_u), (5, .ref a_x), (6, .ref a_l), (7, .ref a_f), (8, .ref a_v), (9, .ref a_t), (10, .ref a_g), (11, .ref a_q), (12, .ref a_n), (13, .ref a_h), (14, .ref a_p), (15, .ref a_k)] := hl
  clear hP hD B ha
  obtain ⟨Q, hQ⟩ : ∃ Q, Q = MQ below (Qgi D A (oA T 12 a_c x_c9 ++ (oA T 24 a_w x_w ++ (oA T 2 a_u x_u ++ (oA T 6 a_x x_x ++ (oA T 6 a_l x_l9 ++ (oA T 6 a_f x_f9 ++ (oA T 12 a_v x_v9 ++ (oA T 20 a_t x_t ++ (oA T 20 a_g x_g ++ (oA T 60 a_q x_q ++ (oA T 5 a_n x_n ++ (oA T 16 a_h x_h9 ++ (oA T 30 a_p x_p ++ (oA T 6 a_k x_k ++ (oc_X10 T (ad 0) (bb ad) (x_K9 0) ++ (wkL T ad x_K9 L18 ++ Z)))))))))))))))) r) args s 4750 (16 * 4750) A := ⟨_, rfl⟩
  rw [← hQ]
  change W p l e (rmL 13 4750) s m args below meth c s.heap [] 0 (16 * 0) Q (F0 m 0 ls [])
  rw [f_L_asks] at h
  suffices hm : ∀ (H : Heap) (locs : List Loc), Wd D A s.heap (oA T 12 a_c x_c ++ (oA T 24 a_w x_w ++ (oA T 2 a_u x_u ++ (oA T 6 a_x x_x ++ (oA T 6 a_l x_l ++ (oA T 6 a_f x_f ++ (oA T 12 a_v x_v ++ (oA T 20 a_t x_t ++ (oA T 20 a_g x_g ++ (oA T 60 a_q x_q ++ (oA T 5 a_n x_n ++ (oA T 16 a_h x_h ++ (oA T 30 a_p x_p ++ (oA T 6 a_k x_k ++ (oc_X10 T (ad 0) (bb ad) (x_K 0) ++ (wkL T ad x_K L18 ++ Z)))))))))))))))) H locs → W p l e (rmL 13 4750) s m args below meth c H locs 0 (16 * 0) Q (F0 m 0 ls []) from hm _ _ hW
  clear hW
  intro H locs hW
  refine lv_bipush (v := 64) hx hb dL_asks_0 (by decide) ?_
  refine l_newa (b := 4) hx hb hts hK hA hW 64 (by decide) (by decide) (by decide) (by decide) (by decide) (hfB (Nat.le_of_ble_eq_true rfl)) dL_asks_2 (fun a_nw1 H hW => ?_)
  refine lv_astore (lv' := [(16, .ref a_nw1), (0, .ref (ad 0 0)), (1, .int p2), (2, .ref a_c), (3, .ref a_w), (4, .ref a_u), (5, .ref a_x), (6, .ref a_l), (7, .ref a_f), (8, .ref a_v), (9, .ref a_t), (10, .ref a_g), (11, .ref a_q), (12, .ref a_n), (13, .ref a_h), (14, .ref a_p), (15, .ref a_k)]) hx hb dL_asks_4 hl (by decide) rfl (fun ls hl => ?_)
  refine lv_bipush (v := 64) hx hb dL_asks_6 (by decide) ?_
  refine l_newa (b := 4) hx hb hts hK hA hW 64 (by decide) (by decide) (by decide) (by decide) (by decide) (hfB (Nat.le_of_ble_eq_true rfl)) dL_asks_8 (fun a_nw2 H hW => ?_)
  refine lv_astore (lv' := [(17, .ref a_nw2), (16, .ref a_nw1), (0, .ref (ad 0 0)), (1, .int p2), (2, .ref a_c), (3, .ref a_w), (4, .ref a_u), (5, .ref a_x), (6, .ref a_l), (7, .ref a_f), (8, .ref a_v), (9, .ref a_t), (10, .ref a_g), (11, .ref a_q), (12, .ref a_n), (13, .ref a_h), (14, .ref a_p), (15, .ref a_k)]) hx hb dL_asks_10 hl (by decide) rfl (fun ls hl => ?_)
  refine lv_bipush (v := 64) hx hb dL_asks_12 (by decide) ?_
  refine l_newa (b := 4) hx hb hts hK hA hW 64 (by decide) (by decide) (by decide) (by decide) (by decide) (hfB (Nat.le_of_ble_eq_true rfl)) dL_asks_14 (fun a_nw3 H hW => ?_)
  refine lv_astore (lv' := [(18, .ref a_nw3), (17, .ref a_nw2), (16, .ref a_nw1), (0, .ref (ad 0 0)), (1, .int p2), (2, .ref a_c), (3, .ref a_w), (4, .ref a_u), (5, .ref a_x), (6, .ref a_l), (7, .ref a_f), (8, .ref a_v), (9, .ref a_t), (10, .ref a_g), (11, .ref a_q), (12, .ref a_n), (13, .ref a_h), (14, .ref a_p), (15, .ref a_k)]) hx hb dL_asks_16 hl (by decide) rfl (fun ls hl => ?_)
  refine lv_bipush (v := 48) hx hb dL_asks_18 (by decide) ?_
  refine l_newa (b := 3) hx hb hts hK hA hW 48 (by decide) (by decide) (by decide) (by decide) (by decide) (hfB (Nat.le_of_ble_eq_true rfl)) dL_asks_20 (fun a_nw4 H hW => ?_)
  refine lv_astore (lv' := [(19, .ref a_nw4), (18, .ref a_nw3), (17, .ref a_nw2), (16, .ref a_nw1), (0, .ref (ad 0 0)), (1, .int p2), (2, .ref a_c), (3, .ref a_w), (4, .ref a_u), (5, .ref a_x), (6, .ref a_l), (7, .ref a_f), (8, .ref a_v), (9, .ref a_t), (10, .ref a_g), (11, .ref a_q), (12, .ref a_n), (13, .ref a_h), (14, .ref a_p), (15, .ref a_k)]) hx hb dL_asks_22 hl (by decide) rfl (fun ls hl => ?_)
  refine lv_bipush (v := 6) hx hb dL_asks_24 (by decide) ?_
  refine l_newa (b := 1) hx hb hts hK hA hW 6 (by decide) (by decide) (by decide) (by decide) (by decide) (hfB (Nat.le_of_ble_eq_true rfl)) dL_asks_26 (fun a_nw5 H hW => ?_)
  refine lv_astore (lv' := [(20, .ref a_nw5), (19, .ref a_nw4), (18, .ref a_nw3), (17, .ref a_nw2), (16, .ref a_nw1), (0, .ref (ad 0 0)), (1, .int p2), (2, .ref a_c), (3, .ref a_w), (4, .ref a_u), (5, .ref a_x), (6, .ref a_l), (7, .ref a_f), (8, .ref a_v), (9, .ref a_t), (10, .ref a_g), (11, .ref a_q), (12, .ref a_n), (13, .ref a_h), (14, .ref a_p), (15, .ref a_k)]) hx hb dL_asks_28 hl (by decide) rfl (fun ls hl => ?_)
  refine lv_bipush (v := 64) hx hb dL_asks_30 (by decide) ?_
  refine l_newa (b := 4) hx hb hts hK hA hW 64 (by decide) (by decide) (by decide) (by decide) (by decide) (hfB (Nat.le_of_ble_eq_true rfl)) dL_asks_32 (fun a_nw6 H hW => ?_)
  refine lv_astore (lv' := [(21, .ref a_nw6), (20, .ref a_nw5), (19, .ref a_nw4), (18, .ref a_nw3), (17, .ref a_nw2), (16, .ref a_nw1), (0, .ref (ad 0 0)), (1, .int p2), (2, .ref a_c), (3, .ref a_w), (4, .ref a_u), (5, .ref a_x), (6, .ref a_l), (7, .ref a_f), (8, .ref a_v), (9, .ref a_t), (10, .ref a_g), (11, .ref a_q), (12, .ref a_n), (13, .ref a_h), (14, .ref a_p), (15, .ref a_k)]) hx hb dL_asks_34 hl (by decide) rfl (fun ls hl => ?_)
  obtain ⟨x_nw10, ex_nw10⟩ : ∃ y : Nat → Int32, y = (fun _ => 0) := ⟨_, rfl⟩
  replace h := lb_at ex_nw10 h
  obtain ⟨x_nw20, ex_nw20⟩ : ∃ y : Nat → Int32, y = (fun _ => 0) := ⟨_, rfl⟩
  replace h := lb_at ex_nw20 h
  obtain ⟨x_nw30, ex_nw30⟩ : ∃ y : Nat → Int32, y = (fun _ => 0) := ⟨_, rfl⟩
  replace h := lb_at ex_nw30 h
  obtain ⟨x_nw40, ex_nw40⟩ : ∃ y : Nat → Int32, y = (fun _ => 0) := ⟨_, rfl⟩
  replace h := lb_at ex_nw40 h
  obtain ⟨x_nw50, ex_nw50⟩ : ∃ y : Nat → Int32, y = (fun _ => 0) := ⟨_, rfl⟩
  replace h := lb_at ex_nw50 h
  obtain ⟨x_nw60, ex_nw60⟩ : ∃ y : Nat → Int32, y = (fun _ => 0) := ⟨_, rfl⟩
  replace h := lb_at ex_nw60 h
  have hW : Wd D A s.heap (oA T 64 a_nw6 x_nw60 ++ (oA T 6 a_nw5 x_nw50 ++ (oA T 48 a_nw4 x_nw40 ++ (oA T 64 a_nw3 x_nw30 ++ (oA T 64 a_nw2 x_nw20 ++ (oA T 64 a_nw1 x_nw10 ++ (oA T 12 a_c x_c ++ (oA T 24 a_w x_w ++ (oA T 2 a_u x_u ++ (oA T 6 a_x x_x ++ (oA T 6 a_l x_l ++ (oA T 6 a_f x_f ++ (oA T 12 a_v x_v ++ (oA T 20 a_t x_t ++ (oA T 20 a_g x_g ++ (oA T 60 a_q x_q ++ (oA T 5 a_n x_n ++ (oA T 16 a_h x_h ++ (oA T 30 a_p x_p ++ (oA T 6 a_k x_k ++ (oc_X10 T (ad 0) (bb ad) (x_K 0) ++ (wkL T ad x_K L18 ++ Z)))))))))))))))))))))) H locs := by rw [ex_nw10, ex_nw20, ex_nw30, ex_nw40, ex_nw50, ex_nw60]; exact hW
  have J157 : ∀ (x_K_157 : Nat → Ob) (x_c_157 : Nat → Int32) (x_l_157 : Nat → Int32) (x_f_157 : Nat → Int32) (x_v_157 : Nat → Int32) (x_h_157 : Nat → Int32) (x_nw1_157 : Nat → Int32) (x_nw2_157 : Nat → Int32) (x_nw3_157 : Nat → Int32) (x_nw4_157 : Nat → Int32) (x_nw5_157 : Nat → Int32) (x_nw6_157 : Nat → Int32) (x_N_157 : Nat) (v22_157 : Int32) (v23_157 : Int32) (v24_157 : Int32) (s0_157 : Int32) (s1_157 : Int32) (hN_157 : x_N_157 ≤ 4750) (H : Heap) (locs : List Loc) (ls : Array Slot) (code : Nat) (o23j : Int32) (y_Kj : Nat → Ob) (y_Nj : Nat), Wd D A s.heap (oA T 64 a_nw6 x_nw6_157 ++ (oA T 6 a_nw5 x_nw5_157 ++ (oA T 48 a_nw4 x_nw4_157 ++ (oA T 64 a_nw3 x_nw3_157 ++ (oA T 64 a_nw2 x_nw2_157 ++ (oA T 64 a_nw1 x_nw1_157 ++ (oA T 12 a_c x_c_157 ++ (oA T 24 a_w x_w ++ (oA T 2 a_u x_u ++ (oA T 6 a_x x_x ++ (oA T 6 a_l x_l_157 ++ (oA T 6 a_f x_f_157 ++ (oA T 12 a_v x_v_157 ++ (oA T 20 a_t x_t ++ (oA T 20 a_g x_g ++ (oA T 60 a_q x_q ++ (oA T 5 a_n x_n ++ (oA T 16 a_h x_h_157 ++ (oA T 30 a_p x_p ++ (oA T 6 a_k x_k ++ (oc_X10 T (ad 0) (bb ad) (x_K_157 0) ++ (wkL T ad x_K_157 L18 ++ Z)))))))))))))))))))))) H locs → lv_has ls 30 [(0, .ref (ad 0 0)), (2, .ref a_c), (3, .ref a_w), (4, .ref a_u), (5, .ref a_x), (6, .ref a_l), (7, .ref a_f), (8, .ref a_v), (10, .ref a_g), (11, .ref a_q), (12, .ref a_n), (13, .ref a_h), (14, .ref a_p), (15, .ref a_k), (16, .ref a_nw1), (17, .ref a_nw2), (18, .ref a_nw3), (19, .ref a_nw4), (20, .ref a_nw5), (21, .ref a_nw6), (22, .int v22_157), (23, .int v23_157), (24, .int v24_157)] → f_L_asks_J157 x_K_157 x_c_157 x_w x_u x_x x_l_157 x_f_157 x_v_157 x_t x_g x_q x_n x_h_157 x_p x_k x_nw1_157 x_nw2_157 x_nw3_157 x_nw4_157 x_nw5_157 x_nw6_157 x_N_157 v22_157 v23_157 v24_157 s0_157 s1_157 = some (code, o23j, y_Kj, y_Nj) → (code = 0 → ∀ (H : Heap) (locs : List Loc) (ls : Array Slot), Wd D A s.heap (oA T 64 a_nw6 x_nw6_157 ++ (oA T 6 a_nw5 x_nw5_157 ++ (oA T 48 a_nw4 x_nw4_157 ++ (oA T 64 a_nw3 x_nw3_157 ++ (oA T 64 a_nw2 x_nw2_157 ++ (oA T 64 a_nw1 x_nw1_157 ++ (oA T 12 a_c x_c_157 ++ (oA T 24 a_w x_w ++ (oA T 2 a_u x_u ++ (oA T 6 a_x x_x ++ (oA T 6 a_l x_l_157 ++ (oA T 6 a_f x_f_157 ++ (oA T 12 a_v x_v_157 ++ (oA T 20 a_t x_t ++ (oA T 20 a_g x_g ++ (oA T 60 a_q x_q ++ (oA T 5 a_n x_n ++ (oA T 16 a_h x_h_157 ++ (oA T 30 a_p x_p ++ (oA T 6 a_k x_k ++ (oc_X10 T (ad 0) (bb ad) (y_Kj 0) ++ (wkL T ad y_Kj L18 ++ Z)))))))))))))))))))))) H locs → lv_has ls 30 [(0, .ref (ad 0 0)), (2, .ref a_c), (3, .ref a_w), (4, .ref a_u), (5, .ref a_x), (6, .ref a_l), (7, .ref a_f), (8, .ref a_v), (10, .ref a_g), (11, .ref a_q), (12, .ref a_n), (13, .ref a_h), (14, .ref a_p), (15, .ref a_k), (16, .ref a_nw1), (17, .ref a_nw2), (18, .ref a_nw3), (19, .ref a_nw4), (20, .ref a_nw5), (21, .ref a_nw6), (22, .int v22_157), (23, .int o23j)] → W p l e (rmL 13 4750) s m args below meth c H locs y_Nj (16 * y_Nj) Q (F0 m 63 ls [])) → (code = 1 → ∀ (H : Heap) (locs : List Loc) (ls : Array Slot), Wd D A s.heap (oA T 64 a_nw6 x_nw6_157 ++ (oA T 6 a_nw5 x_nw5_157 ++ (oA T 48 a_nw4 x_nw4_157 ++ (oA T 64 a_nw3 x_nw3_157 ++ (oA T 64 a_nw2 x_nw2_157 ++ (oA T 64 a_nw1 x_nw1_157 ++ (oA T 12 a_c x_c_157 ++ (oA T 24 a_w x_w ++ (oA T 2 a_u x_u ++ (oA T 6 a_x x_x ++ (oA T 6 a_l x_l_157 ++ (oA T 6 a_f x_f_157 ++ (oA T 12 a_v x_v_157 ++ (oA T 20 a_t x_t ++ (oA T 20 a_g x_g ++ (oA T 60 a_q x_q ++ (oA T 5 a_n x_n ++ (oA T 16 a_h x_h_157 ++ (oA T 30 a_p x_p ++ (oA T 6 a_k x_k ++ (oc_X10 T (ad 0) (bb ad) (y_Kj 0) ++ (wkL T ad y_Kj L18 ++ Z)))))))))))))))))))))) H locs → lv_has ls 30 [(0, .ref (ad 0 0)), (2, .ref a_c), (3, .ref a_w), (4, .ref a_u), (5, .ref a_x), (6, .ref a_l), (8, .ref a_v), (10, .ref a_g), (11, .ref a_q), (12, .ref a_n), (13, .ref a_h), (14, .ref a_p), (15, .ref a_k), (16, .ref a_nw1), (17, .ref a_nw2), (18, .ref a_nw3), (19, .ref a_nw4), (20, .ref a_nw5), (21, .ref a_nw6), (22, .int v22_157)] → W p l e (rmL 13 4750) s m args below meth c H locs y_Nj (16 * y_Nj) Q (F0 m 201 ls [])) → (code = 2 → ∀ (H : Heap) (locs : List Loc) (ls : Array Slot), Wd D A s.heap (oA T 64 a_nw6 x_nw6_157 ++ (oA T 6 a_nw5 x_nw5_157 ++ (oA T 48 a_nw4 x_nw4_157 ++ (oA T 64 a_nw3 x_nw3_157 ++ (oA T 64 a_nw2 x_nw2_157 ++ (oA T 64 a_nw1 x_nw1_157 ++ (oA T 12 a_c x_c_157 ++ (oA T 24 a_w x_w ++ (oA T 2 a_u x_u ++ (oA T 6 a_x x_x ++ (oA T 6 a_l x_l_157 ++ (oA T 6 a_f x_f_157 ++ (oA T 12 a_v x_v_157 ++ (oA T 20 a_t x_t ++ (oA T 20 a_g x_g ++ (oA T 60 a_q x_q ++ (oA T 5 a_n x_n ++ (oA T 16 a_h x_h_157 ++ (oA T 30 a_p x_p ++ (oA T 6 a_k x_k ++ (oc_X10 T (ad 0) (bb ad) (y_Kj 0) ++ (wkL T ad y_Kj L18 ++ Z)))))))))))))))))))))) H locs → lv_has ls 30 [] → W p l e (rmL 13 4750) s m args below meth c H locs y_Nj (16 * y_Nj) Q (F0 m 193 ls [])) → W p l e (rmL 13 4750) s m args below meth c H locs x_N_157 (16 * x_N_157) Q (F0 m 157 ls [.int s1_157, .int s0_157]) := by
    intro x_K_157 x_c_157 x_l_157 x_f_157 x_v_157 x_h_157 x_nw1_157 x_nw2_157 x_nw3_157 x_nw4_157 x_nw5_157 x_nw6_157 x_N_157 v22_157 v23_157 v24_157 s0_157 s1_157 hN_157 H locs ls code o23j y_Kj y_Nj hW hl h k0 k1 k2
    rw [f_L_asks_J157] at h
    refine lv_icmp_ne (tgt := 193) hx hb dL_asks_157 (by decide) (fun c22 => ?_) (fun c22 => ?_)
    · replace h := ite_f c22 h
      obtain ⟨rfl, rfl, rfl, rfl⟩ := ret4 h
      exact k2 rfl H locs ls hW (lv_sub hl [] rfl)
    · replace h := ite_t c22 h
      refine lv_aload_n hx hb dL_asks_160 rfl (lv_at hl 0 rfl) ?_
      refine lv_iconst (v := 4) hx hb dL_asks_161 (by decide) ?_
      refine lv_iload hx hb dL_asks_162 (lv_at hl 20 rfl) ?_
      refine lv_iload hx hb dL_asks_164 (lv_at hl 21 rfl) ?_
      replace hW := hW.perm pf21
      replace hW := hW.perm pf21
      obtain ⟨r23, x_K24, q25, h⟩ := bnd2_s h
      obtain ⟨gN26, h⟩ := grd_s h
      have gN26 := of_decide_eq_true gN26
      refine cs_L_192 hx hb hml hown hts hK hN hE hC hA hW (c_L_two l hfl D T A ad hok (oA T 64 a_nw6 x_nw6_157 ++ (oA T 6 a_nw5 x_nw5_157 ++ (oA T 48 a_nw4 x_nw4_157 ++ (oA T 64 a_nw3 x_nw3_157 ++ (oA T 64 a_nw2 x_nw2_157 ++ (oA T 64 a_nw1 x_nw1_157 ++ (oA T 12 a_c x_c_157 ++ (oA T 24 a_w x_w ++ (oA T 2 a_u x_u ++ (oA T 6 a_x x_x ++ (oA T 6 a_l x_l_157 ++ (oA T 6 a_f x_f_157 ++ (oA T 12 a_v x_v_157 ++ (oA T 20 a_t x_t ++ (oA T 20 a_g x_g ++ (oA T 60 a_q x_q ++ (oA T 5 a_n x_n ++ (oA T 16 a_h x_h_157 ++ (oA T 30 a_p x_p ++ (oA T 6 a_k x_k ++ Z)))))))))))))))))))) x_K_157 4 v22_157 v23_157 r23 x_K24 q25) ⟨Nat.le_of_ble_eq_true rfl, Nat.le_of_ble_eq_true rfl⟩ hl.1 rfl (Nat.le_of_ble_eq_true rfl) dL_asks_166 (hfB gN26) rfl (fun H locs hW => ?_)
      replace hW := hW.perm pf1
      replace hW := hW.perm pf1
      replace hW := hW.perm pf21
      replace hW := hW.perm pf21
      replace hW := hW.perm pf21
      replace hW := hW.perm pf21
      replace hW := hW.perm pf21
      replace hW := hW.perm pf21
      replace hW := hW.perm pf21
      replace hW := hW.perm pf21
      replace hW := hW.perm pf21
      replace hW := hW.perm pf21
      replace hW := hW.perm pf21
      replace hW := hW.perm pf21
      replace hW := hW.perm pf21
      replace hW := hW.perm pf21
      replace hW := hW.perm pf21
      replace hW := hW.perm pf21
      replace hW := hW.perm pf21
      replace hW := hW.perm pf21
      replace hW := hW.perm pf21
      replace hW := hW.perm pf21
      refine lv_iload hx hb dL_asks_169 (lv_at hl 22 rfl) ?_
      refine lv_if_eq (tgt := 187) hx hb dL_asks_171 (by decide) (fun c27 => ?_) (fun c27 => ?_)
      · replace h := ite_t c27 h
        refine lv_sipush (v := (-1001)) hx hb dL_asks_187 (by decide) ?_
        refine lv_icmp_eq (tgt := 195) hx hb dL_asks_190 (by decide) (fun c28 => ?_) (fun c28 => ?_)
        · replace h := ite_t c28 h
          obtain ⟨w23_29, ew23_29⟩ : ∃ y : Int32, y = v23_157 + 1 := ⟨_, rfl⟩
          replace h := lb_at ew23_29 h
          refine lv_iinc (v := w23_29) (lv' := [(23, .int w23_29), (0, .ref (ad 0 0)), (2, .ref a_c), (3, .ref a_w), (4, .ref a_u), (5, .ref a_x), (6, .ref a_l), (7, .ref a_f), (8, .ref a_v), (10, .ref a_g), (11, .ref a_q), (12, .ref a_n), (13, .ref a_h), (14, .ref a_p), (15, .ref a_k), (16, .ref a_nw1), (17, .ref a_nw2), (18, .ref a_nw3), (19, .ref a_nw4), (20, .ref a_nw5), (21, .ref a_nw6), (22, .int v22_157), (24, .int v24_157)]) hx hb dL_asks_195 hl (k := 21) rfl (by rw [ew23_29]; rfl) (by decide) rfl (fun ls hl => ?_)
          refine lv_goto (tgt := 63) hx hb dL_asks_198 (by decide) ?_
          obtain ⟨rfl, rfl, rfl, rfl⟩ := ret4 h
          exact k0 rfl H locs ls hW (lv_sub hl [1, 2, 3, 4, 5, 6, 7, 8, 9, 10, 11, 12, 13, 14, 15, 16, 17, 18, 19, 20, 21, 0] rfl)
        · replace h := ite_f c28 h
          obtain ⟨rfl, rfl, rfl, rfl⟩ := ret4 h
          exact k2 rfl H locs ls hW (lv_sub hl [] rfl)
      · replace h := ite_f c27 h
        refine lv_aload hx hb dL_asks_174 (lv_at hl 6 rfl) ?_
        refine lv_iconst (v := 3) hx hb dL_asks_176 (by decide) ?_
        refine lv_iload hx hb dL_asks_177 (lv_at hl 20 rfl) ?_
        refine lv_imul hx hb dL_asks_179 ?_
        refine lv_iload hx hb dL_asks_180 (lv_at hl 21 rfl) ?_
        refine lv_iadd hx hb dL_asks_182 ?_
        obtain ⟨g30, h⟩ := grd_s h
        refine g_iald hx hb hK hW 11 rfl g30 dL_asks_183 ?_
        refine lv_goto (tgt := 190) hx hb dL_asks_184 (by decide) ?_
        refine lv_icmp_eq (tgt := 195) hx hb dL_asks_190 (by decide) (fun c31 => ?_) (fun c31 => ?_)
        · replace h := ite_t c31 h
          obtain ⟨w23_32, ew23_32⟩ : ∃ y : Int32, y = v23_157 + 1 := ⟨_, rfl⟩
          replace h := lb_at ew23_32 h
          refine lv_iinc (v := w23_32) (lv' := [(23, .int w23_32), (0, .ref (ad 0 0)), (2, .ref a_c), (3, .ref a_w), (4, .ref a_u), (5, .ref a_x), (6, .ref a_l), (7, .ref a_f), (8, .ref a_v), (10, .ref a_g), (11, .ref a_q), (12, .ref a_n), (13, .ref a_h), (14, .ref a_p), (15, .ref a_k), (16, .ref a_nw1), (17, .ref a_nw2), (18, .ref a_nw3), (19, .ref a_nw4), (20, .ref a_nw5), (21, .ref a_nw6), (22, .int v22_157), (24, .int v24_157)]) hx hb dL_asks_195 hl (k := 21) rfl (by rw [ew23_32]; rfl) (by decide) rfl (fun ls hl => ?_)
          refine lv_goto (tgt := 63) hx hb dL_asks_198 (by decide) ?_
          obtain ⟨rfl, rfl, rfl, rfl⟩ := ret4 h
          exact k0 rfl H locs ls hW (lv_sub hl [1, 2, 3, 4, 5, 6, 7, 8, 9, 10, 11, 12, 13, 14, 15, 16, 17, 18, 19, 20, 21, 0] rfl)
        · replace h := ite_f c31 h
          obtain ⟨rfl, rfl, rfl, rfl⟩ := ret4 h
          exact k2 rfl H locs ls hW (lv_sub hl [] rfl)
  have J124 : ∀ (x_K_124 : Nat → Ob) (x_c_124 : Nat → Int32) (x_l_124 : Nat → Int32) (x_f_124 : Nat → Int32) (x_v_124 : Nat → Int32) (x_h_124 : Nat → Int32) (x_nw1_124 : Nat → Int32) (x_nw2_124 : Nat → Int32) (x_nw3_124 : Nat → Int32) (x_nw4_124 : Nat → Int32) (x_nw5_124 : Nat → Int32) (x_nw6_124 : Nat → Int32) (x_N_124 : Nat) (v22_124 : Int32) (v23_124 : Int32) (v24_124 : Int32) (s0_124 : Int32) (s1_124 : Int32) (hN_124 : x_N_124 ≤ 4750) (H : Heap) (locs : List Loc) (ls : Array Slot) (code : Nat) (o23j : Int32) (y_Kj : Nat → Ob) (y_Nj : Nat), Wd D A s.heap (oA T 64 a_nw6 x_nw6_124 ++ (oA T 6 a_nw5 x_nw5_124 ++ (oA T 48 a_nw4 x_nw4_124 ++ (oA T 64 a_nw3 x_nw3_124 ++ (oA T 64 a_nw2 x_nw2_124 ++ (oA T 64 a_nw1 x_nw1_124 ++ (oA T 12 a_c x_c_124 ++ (oA T 24 a_w x_w ++ (oA T 2 a_u x_u ++ (oA T 6 a_x x_x ++ (oA T 6 a_l x_l_124 ++ (oA T 6 a_f x_f_124 ++ (oA T 12 a_v x_v_124 ++ (oA T 20 a_t x_t ++ (oA T 20 a_g x_g ++ (oA T 60 a_q x_q ++ (oA T 5 a_n x_n ++ (oA T 16 a_h x_h_124 ++ (oA T 30 a_p x_p ++ (oA T 6 a_k x_k ++ (oc_X10 T (ad 0) (bb ad) (x_K_124 0) ++ (wkL T ad x_K_124 L18 ++ Z)))))))))))))))))))))) H locs → lv_has ls 30 [(0, .ref (ad 0 0)), (2, .ref a_c), (3, .ref a_w), (4, .ref a_u), (5, .ref a_x), (6, .ref a_l), (7, .ref a_f), (8, .ref a_v), (10, .ref a_g), (11, .ref a_q), (12, .ref a_n), (13, .ref a_h), (14, .ref a_p), (15, .ref a_k), (16, .ref a_nw1), (17, .ref a_nw2), (18, .ref a_nw3), (19, .ref a_nw4), (20, .ref a_nw5), (21, .ref a_nw6), (22, .int v22_124), (23, .int v23_124), (24, .int v24_124)] → f_L_asks_J124 x_K_124 x_c_124 x_w x_u x_x x_l_124 x_f_124 x_v_124 x_t x_g x_q x_n x_h_124 x_p x_k x_nw1_124 x_nw2_124 x_nw3_124 x_nw4_124 x_nw5_124 x_nw6_124 x_N_124 v22_124 v23_124 v24_124 s0_124 s1_124 = some (code, o23j, y_Kj, y_Nj) → (code = 0 → ∀ (H : Heap) (locs : List Loc) (ls : Array Slot), Wd D A s.heap (oA T 64 a_nw6 x_nw6_124 ++ (oA T 6 a_nw5 x_nw5_124 ++ (oA T 48 a_nw4 x_nw4_124 ++ (oA T 64 a_nw3 x_nw3_124 ++ (oA T 64 a_nw2 x_nw2_124 ++ (oA T 64 a_nw1 x_nw1_124 ++ (oA T 12 a_c x_c_124 ++ (oA T 24 a_w x_w ++ (oA T 2 a_u x_u ++ (oA T 6 a_x x_x ++ (oA T 6 a_l x_l_124 ++ (oA T 6 a_f x_f_124 ++ (oA T 12 a_v x_v_124 ++ (oA T 20 a_t x_t ++ (oA T 20 a_g x_g ++ (oA T 60 a_q x_q ++ (oA T 5 a_n x_n ++ (oA T 16 a_h x_h_124 ++ (oA T 30 a_p x_p ++ (oA T 6 a_k x_k ++ (oc_X10 T (ad 0) (bb ad) (y_Kj 0) ++ (wkL T ad y_Kj L18 ++ Z)))))))))))))))))))))) H locs → lv_has ls 30 [(0, .ref (ad 0 0)), (2, .ref a_c), (3, .ref a_w), (4, .ref a_u), (5, .ref a_x), (6, .ref a_l), (7, .ref a_f), (8, .ref a_v), (10, .ref a_g), (11, .ref a_q), (12, .ref a_n), (13, .ref a_h), (14, .ref a_p), (15, .ref a_k), (16, .ref a_nw1), (17, .ref a_nw2), (18, .ref a_nw3), (19, .ref a_nw4), (20, .ref a_nw5), (21, .ref a_nw6), (22, .int v22_124), (23, .int o23j)] → W p l e (rmL 13 4750) s m args below meth c H locs y_Nj (16 * y_Nj) Q (F0 m 63 ls [])) → (code = 1 → ∀ (H : Heap) (locs : List Loc) (ls : Array Slot), Wd D A s.heap (oA T 64 a_nw6 x_nw6_124 ++ (oA T 6 a_nw5 x_nw5_124 ++ (oA T 48 a_nw4 x_nw4_124 ++ (oA T 64 a_nw3 x_nw3_124 ++ (oA T 64 a_nw2 x_nw2_124 ++ (oA T 64 a_nw1 x_nw1_124 ++ (oA T 12 a_c x_c_124 ++ (oA T 24 a_w x_w ++ (oA T 2 a_u x_u ++ (oA T 6 a_x x_x ++ (oA T 6 a_l x_l_124 ++ (oA T 6 a_f x_f_124 ++ (oA T 12 a_v x_v_124 ++ (oA T 20 a_t x_t ++ (oA T 20 a_g x_g ++ (oA T 60 a_q x_q ++ (oA T 5 a_n x_n ++ (oA T 16 a_h x_h_124 ++ (oA T 30 a_p x_p ++ (oA T 6 a_k x_k ++ (oc_X10 T (ad 0) (bb ad) (y_Kj 0) ++ (wkL T ad y_Kj L18 ++ Z)))))))))))))))))))))) H locs → lv_has ls 30 [(0, .ref (ad 0 0)), (2, .ref a_c), (3, .ref a_w), (4, .ref a_u), (5, .ref a_x), (6, .ref a_l), (8, .ref a_v), (10, .ref a_g), (11, .ref a_q), (12, .ref a_n), (13, .ref a_h), (14, .ref a_p), (15, .ref a_k), (16, .ref a_nw1), (17, .ref a_nw2), (18, .ref a_nw3), (19, .ref a_nw4), (20, .ref a_nw5), (21, .ref a_nw6), (22, .int v22_124)] → W p l e (rmL 13 4750) s m args below meth c H locs y_Nj (16 * y_Nj) Q (F0 m 201 ls [])) → (code = 2 → ∀ (H : Heap) (locs : List Loc) (ls : Array Slot), Wd D A s.heap (oA T 64 a_nw6 x_nw6_124 ++ (oA T 6 a_nw5 x_nw5_124 ++ (oA T 48 a_nw4 x_nw4_124 ++ (oA T 64 a_nw3 x_nw3_124 ++ (oA T 64 a_nw2 x_nw2_124 ++ (oA T 64 a_nw1 x_nw1_124 ++ (oA T 12 a_c x_c_124 ++ (oA T 24 a_w x_w ++ (oA T 2 a_u x_u ++ (oA T 6 a_x x_x ++ (oA T 6 a_l x_l_124 ++ (oA T 6 a_f x_f_124 ++ (oA T 12 a_v x_v_124 ++ (oA T 20 a_t x_t ++ (oA T 20 a_g x_g ++ (oA T 60 a_q x_q ++ (oA T 5 a_n x_n ++ (oA T 16 a_h x_h_124 ++ (oA T 30 a_p x_p ++ (oA T 6 a_k x_k ++ (oc_X10 T (ad 0) (bb ad) (y_Kj 0) ++ (wkL T ad y_Kj L18 ++ Z)))))))))))))))))))))) H locs → lv_has ls 30 [] → W p l e (rmL 13 4750) s m args below meth c H locs y_Nj (16 * y_Nj) Q (F0 m 193 ls [])) → W p l e (rmL 13 4750) s m args below meth c H locs x_N_124 (16 * x_N_124) Q (F0 m 124 ls [.int s1_124, .int s0_124]) := by
    intro x_K_124 x_c_124 x_l_124 x_f_124 x_v_124 x_h_124 x_nw1_124 x_nw2_124 x_nw3_124 x_nw4_124 x_nw5_124 x_nw6_124 x_N_124 v22_124 v23_124 v24_124 s0_124 s1_124 hN_124 H locs ls code o23j y_Kj y_Nj hW hl h k0 k1 k2
    rw [f_L_asks_J124] at h
    refine lv_icmp_ne (tgt := 193) hx hb dL_asks_124 (by decide) (fun c16 => ?_) (fun c16 => ?_)
    · replace h := ite_f c16 h
      obtain ⟨rfl, rfl, rfl, rfl⟩ := ret4 h
      exact k2 rfl H locs ls hW (lv_sub hl [] rfl)
    · replace h := ite_t c16 h
      refine lv_aload_n hx hb dL_asks_127 rfl (lv_at hl 0 rfl) ?_
      refine lv_iconst (v := 3) hx hb dL_asks_128 (by decide) ?_
      refine lv_iload hx hb dL_asks_129 (lv_at hl 20 rfl) ?_
      refine lv_iload hx hb dL_asks_131 (lv_at hl 21 rfl) ?_
      replace hW := hW.perm pf21
      replace hW := hW.perm pf21
      obtain ⟨r17, x_K18, q19, h⟩ := bnd2_s h
      obtain ⟨gN20, h⟩ := grd_s h
      have gN20 := of_decide_eq_true gN20
      refine cs_L_192 hx hb hml hown hts hK hN hE hC hA hW (c_L_two l hfl D T A ad hok (oA T 64 a_nw6 x_nw6_124 ++ (oA T 6 a_nw5 x_nw5_124 ++ (oA T 48 a_nw4 x_nw4_124 ++ (oA T 64 a_nw3 x_nw3_124 ++ (oA T 64 a_nw2 x_nw2_124 ++ (oA T 64 a_nw1 x_nw1_124 ++ (oA T 12 a_c x_c_124 ++ (oA T 24 a_w x_w ++ (oA T 2 a_u x_u ++ (oA T 6 a_x x_x ++ (oA T 6 a_l x_l_124 ++ (oA T 6 a_f x_f_124 ++ (oA T 12 a_v x_v_124 ++ (oA T 20 a_t x_t ++ (oA T 20 a_g x_g ++ (oA T 60 a_q x_q ++ (oA T 5 a_n x_n ++ (oA T 16 a_h x_h_124 ++ (oA T 30 a_p x_p ++ (oA T 6 a_k x_k ++ Z)))))))))))))))))))) x_K_124 3 v22_124 v23_124 r17 x_K18 q19) ⟨Nat.le_of_ble_eq_true rfl, Nat.le_of_ble_eq_true rfl⟩ hl.1 rfl (Nat.le_of_ble_eq_true rfl) dL_asks_133 (hfB gN20) rfl (fun H locs hW => ?_)
      replace hW := hW.perm pf1
      replace hW := hW.perm pf1
      replace hW := hW.perm pf21
      replace hW := hW.perm pf21
      replace hW := hW.perm pf21
      replace hW := hW.perm pf21
      replace hW := hW.perm pf21
      replace hW := hW.perm pf21
      replace hW := hW.perm pf21
      replace hW := hW.perm pf21
      replace hW := hW.perm pf21
      replace hW := hW.perm pf21
      replace hW := hW.perm pf21
      replace hW := hW.perm pf21
      replace hW := hW.perm pf21
      replace hW := hW.perm pf21
      replace hW := hW.perm pf21
      replace hW := hW.perm pf21
      replace hW := hW.perm pf21
      replace hW := hW.perm pf21
      replace hW := hW.perm pf21
      replace hW := hW.perm pf21
      refine lv_iload hx hb dL_asks_136 (lv_at hl 22 rfl) ?_
      refine lv_if_eq (tgt := 154) hx hb dL_asks_138 (by decide) (fun c21 => ?_) (fun c21 => ?_)
      · replace h := ite_t c21 h
        refine lv_sipush (v := (-1001)) hx hb dL_asks_154 (by decide) ?_
        exact J157 _ _ _ _ _ _ _ _ _ _ _ _ _ _ _ _ _ _ gN20 H locs ls _ _ _ _ hW (lv_sub hl [0, 1, 2, 3, 4, 5, 6, 7, 8, 9, 10, 11, 12, 13, 14, 15, 16, 17, 18, 19, 20, 21, 22] rfl) h k0 k1 k2
      · replace h := ite_f c21 h
        refine lv_aload hx hb dL_asks_141 (lv_at hl 5 rfl) ?_
        refine lv_iconst (v := 3) hx hb dL_asks_143 (by decide) ?_
        refine lv_iload hx hb dL_asks_144 (lv_at hl 20 rfl) ?_
        refine lv_imul hx hb dL_asks_146 ?_
        refine lv_iload hx hb dL_asks_147 (lv_at hl 21 rfl) ?_
        refine lv_iadd hx hb dL_asks_149 ?_
        obtain ⟨g33, h⟩ := grd_s h
        refine g_iald hx hb hK hW 10 rfl g33 dL_asks_150 ?_
        refine lv_goto (tgt := 157) hx hb dL_asks_151 (by decide) ?_
        exact J157 _ _ _ _ _ _ _ _ _ _ _ _ _ _ _ _ _ _ gN20 H locs ls _ _ _ _ hW (lv_sub hl [0, 1, 2, 3, 4, 5, 6, 7, 8, 9, 10, 11, 12, 13, 14, 15, 16, 17, 18, 19, 20, 21, 22] rfl) h k0 k1 k2
  have J92 : ∀ (x_K_92 : Nat → Ob) (x_c_92 : Nat → Int32) (x_l_92 : Nat → Int32) (x_f_92 : Nat → Int32) (x_v_92 : Nat → Int32) (x_h_92 : Nat → Int32) (x_nw1_92 : Nat → Int32) (x_nw2_92 : Nat → Int32) (x_nw3_92 : Nat → Int32) (x_nw4_92 : Nat → Int32) (x_nw5_92 : Nat → Int32) (x_nw6_92 : Nat → Int32) (x_N_92 : Nat) (v22_92 : Int32) (v23_92 : Int32) (s0_92 : Int32) (hN_92 : x_N_92 ≤ 4750) (H : Heap) (locs : List Loc) (ls : Array Slot) (code : Nat) (o23j : Int32) (y_Kj : Nat → Ob) (y_Nj : Nat), Wd D A s.heap (oA T 64 a_nw6 x_nw6_92 ++ (oA T 6 a_nw5 x_nw5_92 ++ (oA T 48 a_nw4 x_nw4_92 ++ (oA T 64 a_nw3 x_nw3_92 ++ (oA T 64 a_nw2 x_nw2_92 ++ (oA T 64 a_nw1 x_nw1_92 ++ (oA T 12 a_c x_c_92 ++ (oA T 24 a_w x_w ++ (oA T 2 a_u x_u ++ (oA T 6 a_x x_x ++ (oA T 6 a_l x_l_92 ++ (oA T 6 a_f x_f_92 ++ (oA T 12 a_v x_v_92 ++ (oA T 20 a_t x_t ++ (oA T 20 a_g x_g ++ (oA T 60 a_q x_q ++ (oA T 5 a_n x_n ++ (oA T 16 a_h x_h_92 ++ (oA T 30 a_p x_p ++ (oA T 6 a_k x_k ++ (oc_X10 T (ad 0) (bb ad) (x_K_92 0) ++ (wkL T ad x_K_92 L18 ++ Z)))))))))))))))))))))) H locs → lv_has ls 30 [(0, .ref (ad 0 0)), (2, .ref a_c), (3, .ref a_w), (4, .ref a_u), (5, .ref a_x), (6, .ref a_l), (7, .ref a_f), (8, .ref a_v), (10, .ref a_g), (11, .ref a_q), (12, .ref a_n), (13, .ref a_h), (14, .ref a_p), (15, .ref a_k), (16, .ref a_nw1), (17, .ref a_nw2), (18, .ref a_nw3), (19, .ref a_nw4), (20, .ref a_nw5), (21, .ref a_nw6), (22, .int v22_92), (23, .int v23_92)] → f_L_asks_J92 x_K_92 x_c_92 x_w x_u x_x x_l_92 x_f_92 x_v_92 x_t x_g x_q x_n x_h_92 x_p x_k x_nw1_92 x_nw2_92 x_nw3_92 x_nw4_92 x_nw5_92 x_nw6_92 x_N_92 v22_92 v23_92 s0_92 = some (code, o23j, y_Kj, y_Nj) → (code = 0 → ∀ (H : Heap) (locs : List Loc) (ls : Array Slot), Wd D A s.heap (oA T 64 a_nw6 x_nw6_92 ++ (oA T 6 a_nw5 x_nw5_92 ++ (oA T 48 a_nw4 x_nw4_92 ++ (oA T 64 a_nw3 x_nw3_92 ++ (oA T 64 a_nw2 x_nw2_92 ++ (oA T 64 a_nw1 x_nw1_92 ++ (oA T 12 a_c x_c_92 ++ (oA T 24 a_w x_w ++ (oA T 2 a_u x_u ++ (oA T 6 a_x x_x ++ (oA T 6 a_l x_l_92 ++ (oA T 6 a_f x_f_92 ++ (oA T 12 a_v x_v_92 ++ (oA T 20 a_t x_t ++ (oA T 20 a_g x_g ++ (oA T 60 a_q x_q ++ (oA T 5 a_n x_n ++ (oA T 16 a_h x_h_92 ++ (oA T 30 a_p x_p ++ (oA T 6 a_k x_k ++ (oc_X10 T (ad 0) (bb ad) (y_Kj 0) ++ (wkL T ad y_Kj L18 ++ Z)))))))))))))))))))))) H locs → lv_has ls 30 [(0, .ref (ad 0 0)), (2, .ref a_c), (3, .ref a_w), (4, .ref a_u), (5, .ref a_x), (6, .ref a_l), (7, .ref a_f), (8, .ref a_v), (10, .ref a_g), (11, .ref a_q), (12, .ref a_n), (13, .ref a_h), (14, .ref a_p), (15, .ref a_k), (16, .ref a_nw1), (17, .ref a_nw2), (18, .ref a_nw3), (19, .ref a_nw4), (20, .ref a_nw5), (21, .ref a_nw6), (22, .int v22_92), (23, .int o23j)] → W p l e (rmL 13 4750) s m args below meth c H locs y_Nj (16 * y_Nj) Q (F0 m 63 ls [])) → (code = 1 → ∀ (H : Heap) (locs : List Loc) (ls : Array Slot), Wd D A s.heap (oA T 64 a_nw6 x_nw6_92 ++ (oA T 6 a_nw5 x_nw5_92 ++ (oA T 48 a_nw4 x_nw4_92 ++ (oA T 64 a_nw3 x_nw3_92 ++ (oA T 64 a_nw2 x_nw2_92 ++ (oA T 64 a_nw1 x_nw1_92 ++ (oA T 12 a_c x_c_92 ++ (oA T 24 a_w x_w ++ (oA T 2 a_u x_u ++ (oA T 6 a_x x_x ++ (oA T 6 a_l x_l_92 ++ (oA T 6 a_f x_f_92 ++ (oA T 12 a_v x_v_92 ++ (oA T 20 a_t x_t ++ (oA T 20 a_g x_g ++ (oA T 60 a_q x_q ++ (oA T 5 a_n x_n ++ (oA T 16 a_h x_h_92 ++ (oA T 30 a_p x_p ++ (oA T 6 a_k x_k ++ (oc_X10 T (ad 0) (bb ad) (y_Kj 0) ++ (wkL T ad y_Kj L18 ++ Z)))))))))))))))))))))) H locs → lv_has ls 30 [(0, .ref (ad 0 0)), (2, .ref a_c), (3, .ref a_w), (4, .ref a_u), (5, .ref a_x), (6, .ref a_l), (8, .ref a_v), (10, .ref a_g), (11, .ref a_q), (12, .ref a_n), (13, .ref a_h), (14, .ref a_p), (15, .ref a_k), (16, .ref a_nw1), (17, .ref a_nw2), (18, .ref a_nw3), (19, .ref a_nw4), (20, .ref a_nw5), (21, .ref a_nw6), (22, .int v22_92)] → W p l e (rmL 13 4750) s m args below meth c H locs y_Nj (16 * y_Nj) Q (F0 m 201 ls [])) → (code = 2 → ∀ (H : Heap) (locs : List Loc) (ls : Array Slot), Wd D A s.heap (oA T 64 a_nw6 x_nw6_92 ++ (oA T 6 a_nw5 x_nw5_92 ++ (oA T 48 a_nw4 x_nw4_92 ++ (oA T 64 a_nw3 x_nw3_92 ++ (oA T 64 a_nw2 x_nw2_92 ++ (oA T 64 a_nw1 x_nw1_92 ++ (oA T 12 a_c x_c_92 ++ (oA T 24 a_w x_w ++ (oA T 2 a_u x_u ++ (oA T 6 a_x x_x ++ (oA T 6 a_l x_l_92 ++ (oA T 6 a_f x_f_92 ++ (oA T 12 a_v x_v_92 ++ (oA T 20 a_t x_t ++ (oA T 20 a_g x_g ++ (oA T 60 a_q x_q ++ (oA T 5 a_n x_n ++ (oA T 16 a_h x_h_92 ++ (oA T 30 a_p x_p ++ (oA T 6 a_k x_k ++ (oc_X10 T (ad 0) (bb ad) (y_Kj 0) ++ (wkL T ad y_Kj L18 ++ Z)))))))))))))))))))))) H locs → lv_has ls 30 [] → W p l e (rmL 13 4750) s m args below meth c H locs y_Nj (16 * y_Nj) Q (F0 m 193 ls [])) → W p l e (rmL 13 4750) s m args below meth c H locs x_N_92 (16 * x_N_92) Q (F0 m 92 ls [.int s0_92]) := by
    intro x_K_92 x_c_92 x_l_92 x_f_92 x_v_92 x_h_92 x_nw1_92 x_nw2_92 x_nw3_92 x_nw4_92 x_nw5_92 x_nw6_92 x_N_92 v22_92 v23_92 s0_92 hN_92 H locs ls code o23j y_Kj y_Nj hW hl h k0 k1 k2
    rw [f_L_asks_J92] at h
    refine lv_istore (lv' := [(24, .int s0_92), (0, .ref (ad 0 0)), (2, .ref a_c), (3, .ref a_w), (4, .ref a_u), (5, .ref a_x), (6, .ref a_l), (7, .ref a_f), (8, .ref a_v), (10, .ref a_g), (11, .ref a_q), (12, .ref a_n), (13, .ref a_h), (14, .ref a_p), (15, .ref a_k), (16, .ref a_nw1), (17, .ref a_nw2), (18, .ref a_nw3), (19, .ref a_nw4), (20, .ref a_nw5), (21, .ref a_nw6), (22, .int v22_92), (23, .int v23_92)]) hx hb dL_asks_92 hl (by decide) rfl (fun ls hl => ?_)
    refine lv_aload_n hx hb dL_asks_94 rfl (lv_at hl 1 rfl) ?_
    refine lv_iconst (v := 2) hx hb dL_asks_95 (by decide) ?_
    refine lv_iload hx hb dL_asks_96 (lv_at hl 21 rfl) ?_
    refine lv_iload hx hb dL_asks_98 (lv_at hl 22 rfl) ?_
    replace hW := hW.perm pf21
    replace hW := hW.perm pf21
    obtain ⟨r11, x_K12, q13, h⟩ := bnd2_s h
    obtain ⟨gN14, h⟩ := grd_s h
    have gN14 := of_decide_eq_true gN14
    refine cs_L_192 hx hb hml hown hts hK hN hE hC hA hW (c_L_two l hfl D T A ad hok (oA T 64 a_nw6 x_nw6_92 ++ (oA T 6 a_nw5 x_nw5_92 ++ (oA T 48 a_nw4 x_nw4_92 ++ (oA T 64 a_nw3 x_nw3_92 ++ (oA T 64 a_nw2 x_nw2_92 ++ (oA T 64 a_nw1 x_nw1_92 ++ (oA T 12 a_c x_c_92 ++ (oA T 24 a_w x_w ++ (oA T 2 a_u x_u ++ (oA T 6 a_x x_x ++ (oA T 6 a_l x_l_92 ++ (oA T 6 a_f x_f_92 ++ (oA T 12 a_v x_v_92 ++ (oA T 20 a_t x_t ++ (oA T 20 a_g x_g ++ (oA T 60 a_q x_q ++ (oA T 5 a_n x_n ++ (oA T 16 a_h x_h_92 ++ (oA T 30 a_p x_p ++ (oA T 6 a_k x_k ++ Z)))))))))))))))))))) x_K_92 2 v22_92 v23_92 r11 x_K12 q13) ⟨Nat.le_of_ble_eq_true rfl, Nat.le_of_ble_eq_true rfl⟩ hl.1 rfl (Nat.le_of_ble_eq_true rfl) dL_asks_100 (hfB gN14) rfl (fun H locs hW => ?_)
    replace hW := hW.perm pf1
    replace hW := hW.perm pf1
    replace hW := hW.perm pf21
    replace hW := hW.perm pf21
    replace hW := hW.perm pf21
    replace hW := hW.perm pf21
    replace hW := hW.perm pf21
    replace hW := hW.perm pf21
    replace hW := hW.perm pf21
    replace hW := hW.perm pf21
    replace hW := hW.perm pf21
    replace hW := hW.perm pf21
    replace hW := hW.perm pf21
    replace hW := hW.perm pf21
    replace hW := hW.perm pf21
    replace hW := hW.perm pf21
    replace hW := hW.perm pf21
    replace hW := hW.perm pf21
    replace hW := hW.perm pf21
    replace hW := hW.perm pf21
    replace hW := hW.perm pf21
    replace hW := hW.perm pf21
    refine lv_iload hx hb dL_asks_103 (lv_at hl 0 rfl) ?_
    refine lv_if_eq (tgt := 121) hx hb dL_asks_105 (by decide) (fun c15 => ?_) (fun c15 => ?_)
    · replace h := ite_t c15 h
      refine lv_sipush (v := (-1001)) hx hb dL_asks_121 (by decide) ?_
      exact J124 _ _ _ _ _ _ _ _ _ _ _ _ _ _ _ _ _ _ gN14 H locs ls _ _ _ _ hW (lv_sub hl [1, 2, 3, 4, 5, 6, 7, 8, 9, 10, 11, 12, 13, 14, 15, 16, 17, 18, 19, 20, 21, 22, 0] rfl) h k0 k1 k2
    · replace h := ite_f c15 h
      refine lv_aload hx hb dL_asks_108 (lv_at hl 5 rfl) ?_
      refine lv_iconst (v := 3) hx hb dL_asks_110 (by decide) ?_
      refine lv_iload hx hb dL_asks_111 (lv_at hl 21 rfl) ?_
      refine lv_imul hx hb dL_asks_113 ?_
      refine lv_iload hx hb dL_asks_114 (lv_at hl 22 rfl) ?_
      refine lv_iadd hx hb dL_asks_116 ?_
      obtain ⟨g34, h⟩ := grd_s h
      refine g_iald hx hb hK hW 9 rfl g34 dL_asks_117 ?_
      refine lv_goto (tgt := 124) hx hb dL_asks_118 (by decide) ?_
      exact J124 _ _ _ _ _ _ _ _ _ _ _ _ _ _ _ _ _ _ gN14 H locs ls _ _ _ _ hW (lv_sub hl [1, 2, 3, 4, 5, 6, 7, 8, 9, 10, 11, 12, 13, 14, 15, 16, 17, 18, 19, 20, 21, 22, 0] rfl) h k0 k1 k2
  have L63 : ∀ (n : Nat) (x_K_63 : Nat → Ob) (x_c_63 : Nat → Int32) (x_l_63 : Nat → Int32) (x_f_63 : Nat → Int32) (x_v_63 : Nat → Int32) (x_h_63 : Nat → Int32) (x_nw1_63 : Nat → Int32) (x_nw2_63 : Nat → Int32) (x_nw3_63 : Nat → Int32) (x_nw4_63 : Nat → Int32) (x_nw5_63 : Nat → Int32) (x_nw6_63 : Nat → Int32) (x_N_63 : Nat) (v22_63 : Int32) (v23_63 : Int32) (hN_63 : x_N_63 ≤ 4750) (H : Heap) (locs : List Loc) (ls : Array Slot) (code : Nat) (o23_63r : Int32) (y_K_63r : Nat → Ob) (y_N_63r : Nat), Wd D A s.heap (oA T 64 a_nw6 x_nw6_63 ++ (oA T 6 a_nw5 x_nw5_63 ++ (oA T 48 a_nw4 x_nw4_63 ++ (oA T 64 a_nw3 x_nw3_63 ++ (oA T 64 a_nw2 x_nw2_63 ++ (oA T 64 a_nw1 x_nw1_63 ++ (oA T 12 a_c x_c_63 ++ (oA T 24 a_w x_w ++ (oA T 2 a_u x_u ++ (oA T 6 a_x x_x ++ (oA T 6 a_l x_l_63 ++ (oA T 6 a_f x_f_63 ++ (oA T 12 a_v x_v_63 ++ (oA T 20 a_t x_t ++ (oA T 20 a_g x_g ++ (oA T 60 a_q x_q ++ (oA T 5 a_n x_n ++ (oA T 16 a_h x_h_63 ++ (oA T 30 a_p x_p ++ (oA T 6 a_k x_k ++ (oc_X10 T (ad 0) (bb ad) (x_K_63 0) ++ (wkL T ad x_K_63 L18 ++ Z)))))))))))))))))))))) H locs → lv_has ls 30 [(0, .ref (ad 0 0)), (2, .ref a_c), (3, .ref a_w), (4, .ref a_u), (5, .ref a_x), (6, .ref a_l), (7, .ref a_f), (8, .ref a_v), (10, .ref a_g), (11, .ref a_q), (12, .ref a_n), (13, .ref a_h), (14, .ref a_p), (15, .ref a_k), (16, .ref a_nw1), (17, .ref a_nw2), (18, .ref a_nw3), (19, .ref a_nw4), (20, .ref a_nw5), (21, .ref a_nw6), (22, .int v22_63), (23, .int v23_63)] → f_L_asks_L63 n x_K_63 x_c_63 x_w x_u x_x x_l_63 x_f_63 x_v_63 x_t x_g x_q x_n x_h_63 x_p x_k x_nw1_63 x_nw2_63 x_nw3_63 x_nw4_63 x_nw5_63 x_nw6_63 x_N_63 v22_63 v23_63 = some (code, o23_63r, y_K_63r, y_N_63r) → (code = 1 → ∀ (H : Heap) (locs : List Loc) (ls : Array Slot), Wd D A s.heap (oA T 64 a_nw6 x_nw6_63 ++ (oA T 6 a_nw5 x_nw5_63 ++ (oA T 48 a_nw4 x_nw4_63 ++ (oA T 64 a_nw3 x_nw3_63 ++ (oA T 64 a_nw2 x_nw2_63 ++ (oA T 64 a_nw1 x_nw1_63 ++ (oA T 12 a_c x_c_63 ++ (oA T 24 a_w x_w ++ (oA T 2 a_u x_u ++ (oA T 6 a_x x_x ++ (oA T 6 a_l x_l_63 ++ (oA T 6 a_f x_f_63 ++ (oA T 12 a_v x_v_63 ++ (oA T 20 a_t x_t ++ (oA T 20 a_g x_g ++ (oA T 60 a_q x_q ++ (oA T 5 a_n x_n ++ (oA T 16 a_h x_h_63 ++ (oA T 30 a_p x_p ++ (oA T 6 a_k x_k ++ (oc_X10 T (ad 0) (bb ad) (y_K_63r 0) ++ (wkL T ad y_K_63r L18 ++ Z)))))))))))))))))))))) H locs → lv_has ls 30 [(0, .ref (ad 0 0)), (2, .ref a_c), (3, .ref a_w), (4, .ref a_u), (5, .ref a_x), (6, .ref a_l), (8, .ref a_v), (10, .ref a_g), (11, .ref a_q), (12, .ref a_n), (13, .ref a_h), (14, .ref a_p), (15, .ref a_k), (16, .ref a_nw1), (17, .ref a_nw2), (18, .ref a_nw3), (19, .ref a_nw4), (20, .ref a_nw5), (21, .ref a_nw6), (22, .int v22_63)] → W p l e (rmL 13 4750) s m args below meth c H locs y_N_63r (16 * y_N_63r) Q (F0 m 201 ls [])) → (code = 2 → ∀ (H : Heap) (locs : List Loc) (ls : Array Slot), Wd D A s.heap (oA T 64 a_nw6 x_nw6_63 ++ (oA T 6 a_nw5 x_nw5_63 ++ (oA T 48 a_nw4 x_nw4_63 ++ (oA T 64 a_nw3 x_nw3_63 ++ (oA T 64 a_nw2 x_nw2_63 ++ (oA T 64 a_nw1 x_nw1_63 ++ (oA T 12 a_c x_c_63 ++ (oA T 24 a_w x_w ++ (oA T 2 a_u x_u ++ (oA T 6 a_x x_x ++ (oA T 6 a_l x_l_63 ++ (oA T 6 a_f x_f_63 ++ (oA T 12 a_v x_v_63 ++ (oA T 20 a_t x_t ++ (oA T 20 a_g x_g ++ (oA T 60 a_q x_q ++ (oA T 5 a_n x_n ++ (oA T 16 a_h x_h_63 ++ (oA T 30 a_p x_p ++ (oA T 6 a_k x_k ++ (oc_X10 T (ad 0) (bb ad) (y_K_63r 0) ++ (wkL T ad y_K_63r L18 ++ Z)))))))))))))))))))))) H locs → lv_has ls 30 [] → W p l e (rmL 13 4750) s m args below meth c H locs y_N_63r (16 * y_N_63r) Q (F0 m 193 ls [])) → W p l e (rmL 13 4750) s m args below meth c H locs x_N_63 (16 * x_N_63) Q (F0 m 63 ls []) := by
    intro n
    induction n with
    | zero =>
      intro x_K_63 x_c_63 x_l_63 x_f_63 x_v_63 x_h_63 x_nw1_63 x_nw2_63 x_nw3_63 x_nw4_63 x_nw5_63 x_nw6_63 x_N_63 v22_63 v23_63 hN_63 H locs ls code o23_63r y_K_63r y_N_63r hW hl h k1 k2
      rw [f_L_asks_L63] at h
      cases h
    | succ n ih =>
      intro x_K_63 x_c_63 x_l_63 x_f_63 x_v_63 x_h_63 x_nw1_63 x_nw2_63 x_nw3_63 x_nw4_63 x_nw5_63 x_nw6_63 x_N_63 v22_63 v23_63 hN_63 H locs ls code o23_63r y_K_63r y_N_63r hW hl h k1 k2
      rw [f_L_asks_L63] at h
      refine lv_iload hx hb dL_asks_63 (lv_at hl 21 rfl) ?_
      refine lv_aload_n hx hb dL_asks_65 rfl (lv_at hl 1 rfl) ?_
      refine lv_bipush (v := 8) hx hb dL_asks_66 (by decide) ?_
      refine lv_iload hx hb dL_asks_68 (lv_at hl 20 rfl) ?_
      refine lv_iadd hx hb dL_asks_70 ?_
      obtain ⟨g7, h⟩ := grd_s h
      refine g_iald hx hb hK hW 6 rfl g7 dL_asks_71 ?_
      refine lv_icmp_gt (tgt := 201) hx hb dL_asks_72 (by decide) (fun c8 => ?_) (fun c8 => ?_)
      · replace h := ite_t c8 h
        obtain ⟨rfl, rfl, rfl, rfl⟩ := ret4 h
        exact k1 rfl H locs ls hW (lv_sub hl [0, 1, 2, 3, 4, 5, 7, 8, 9, 10, 11, 12, 13, 14, 15, 16, 17, 18, 19, 20] rfl)
      · replace h := ite_f c8 h
        refine lv_iload hx hb dL_asks_75 (lv_at hl 21 rfl) ?_
        refine lv_aload_n hx hb dL_asks_77 rfl (lv_at hl 1 rfl) ?_
        refine lv_bipush (v := 8) hx hb dL_asks_78 (by decide) ?_
        refine lv_iload hx hb dL_asks_80 (lv_at hl 20 rfl) ?_
        refine lv_iadd hx hb dL_asks_82 ?_
        obtain ⟨g9, h⟩ := grd_s h
        refine g_iald hx hb hK hW 6 rfl g9 dL_asks_83 ?_
        refine lv_icmp_ge (tgt := 91) hx hb dL_asks_84 (by decide) (fun c10 => ?_) (fun c10 => ?_)
        · replace h := ite_t c10 h
          refine lv_iconst (v := 0) hx hb dL_asks_91 (by decide) ?_
          obtain ⟨code36, o23_t35, y_K_t35, y_N_t35, q37, h⟩ := bnd4_s h
          obtain ⟨gN38, h⟩ := grd_s h
          have gN38 := of_decide_eq_true gN38
          refine J92 _ _ _ _ _ _ _ _ _ _ _ _ _ _ _ _ hN_63 H locs ls code36 o23_t35 y_K_t35 y_N_t35 hW (lv_sub hl [0, 1, 2, 3, 4, 5, 6, 7, 8, 9, 10, 11, 12, 13, 14, 15, 16, 17, 18, 19, 20, 21] rfl) q37 (fun hc H locs ls hW hl => ?_) (fun hc H locs ls hW hl => ?_) (fun hc H locs ls hW hl => ?_)
          · replace h := ite_t hc h
            exact ih _ _ _ _ _ _ _ _ _ _ _ _ _ _ _ gN38 H locs ls _ _ _ _ hW (lv_sub hl [0, 1, 2, 3, 4, 5, 6, 7, 8, 9, 10, 11, 12, 13, 14, 15, 16, 17, 18, 19, 20, 21] rfl) h k1 k2
          · replace h := ite_f (by rw [hc]; decide) h
            obtain ⟨rfl, rfl, rfl, rfl⟩ := ret4 h
            exact k1 hc H locs ls hW hl
          · replace h := ite_f (by rw [hc]; decide) h
            obtain ⟨rfl, rfl, rfl, rfl⟩ := ret4 h
            exact k2 hc H locs ls hW hl
        · replace h := ite_f c10 h
          refine lv_iconst (v := 1) hx hb dL_asks_87 (by decide) ?_
          refine lv_goto (tgt := 92) hx hb dL_asks_88 (by decide) ?_
          obtain ⟨code40, o23_t39, y_K_t39, y_N_t39, q41, h⟩ := bnd4_s h
          obtain ⟨gN42, h⟩ := grd_s h
          have gN42 := of_decide_eq_true gN42
          refine J92 _ _ _ _ _ _ _ _ _ _ _ _ _ _ _ _ hN_63 H locs ls code40 o23_t39 y_K_t39 y_N_t39 hW (lv_sub hl [0, 1, 2, 3, 4, 5, 6, 7, 8, 9, 10, 11, 12, 13, 14, 15, 16, 17, 18, 19, 20, 21] rfl) q41 (fun hc H locs ls hW hl => ?_) (fun hc H locs ls hW hl => ?_) (fun hc H locs ls hW hl => ?_)
          · replace h := ite_t hc h
            exact ih _ _ _ _ _ _ _ _ _ _ _ _ _ _ _ gN42 H locs ls _ _ _ _ hW (lv_sub hl [0, 1, 2, 3, 4, 5, 6, 7, 8, 9, 10, 11, 12, 13, 14, 15, 16, 17, 18, 19, 20, 21] rfl) h k1 k2
          · replace h := ite_f (by rw [hc]; decide) h
            obtain ⟨rfl, rfl, rfl, rfl⟩ := ret4 h
            exact k1 hc H locs ls hW hl
          · replace h := ite_f (by rw [hc]; decide) h
            obtain ⟨rfl, rfl, rfl, rfl⟩ := ret4 h
            exact k2 hc H locs ls hW hl
  have L453 : ∀ (n : Nat) (x_K_453 : Nat → Ob) (x_c_453 : Nat → Int32) (x_l_453 : Nat → Int32) (x_f_453 : Nat → Int32) (x_v_453 : Nat → Int32) (x_h_453 : Nat → Int32) (x_nw1_453 : Nat → Int32) (x_nw2_453 : Nat → Int32) (x_nw3_453 : Nat → Int32) (x_nw4_453 : Nat → Int32) (x_nw5_453 : Nat → Int32) (x_nw6_453 : Nat → Int32) (x_N_453 : Nat) (v22_453 : Int32) (v24_453 : Int32) (v26_453 : Int32) (v27_453 : Int32) (hN_453 : x_N_453 ≤ 4750) (H : Heap) (locs : List Loc) (ls : Array Slot) (code : Nat) (o27_453r : Int32) (y_K_453r : Nat → Ob) (y_N_453r : Nat), Wd D A s.heap (oA T 64 a_nw6 x_nw6_453 ++ (oA T 6 a_nw5 x_nw5_453 ++ (oA T 48 a_nw4 x_nw4_453 ++ (oA T 64 a_nw3 x_nw3_453 ++ (oA T 64 a_nw2 x_nw2_453 ++ (oA T 64 a_nw1 x_nw1_453 ++ (oA T 12 a_c x_c_453 ++ (oA T 24 a_w x_w ++ (oA T 2 a_u x_u ++ (oA T 6 a_x x_x ++ (oA T 6 a_l x_l_453 ++ (oA T 6 a_f x_f_453 ++ (oA T 12 a_v x_v_453 ++ (oA T 20 a_t x_t ++ (oA T 20 a_g x_g ++ (oA T 60 a_q x_q ++ (oA T 5 a_n x_n ++ (oA T 16 a_h x_h_453 ++ (oA T 30 a_p x_p ++ (oA T 6 a_k x_k ++ (oc_X10 T (ad 0) (bb ad) (x_K_453 0) ++ (wkL T ad x_K_453 L18 ++ Z)))))))))))))))))))))) H locs → lv_has ls 30 [(0, .ref (ad 0 0)), (2, .ref a_c), (3, .ref a_w), (4, .ref a_u), (5, .ref a_x), (10, .ref a_g), (11, .ref a_q), (12, .ref a_n), (16, .ref a_nw1), (17, .ref a_nw2), (18, .ref a_nw3), (19, .ref a_nw4), (20, .ref a_nw5), (21, .ref a_nw6), (22, .int v22_453), (24, .int v24_453), (26, .int v26_453), (27, .int v27_453)] → f_L_asks_L453 n x_K_453 x_c_453 x_w x_u x_x x_l_453 x_f_453 x_v_453 x_t x_g x_q x_n x_h_453 x_p x_k x_nw1_453 x_nw2_453 x_nw3_453 x_nw4_453 x_nw5_453 x_nw6_453 x_N_453 v22_453 v24_453 v26_453 v27_453 = some (code, o27_453r, y_K_453r, y_N_453r) → (code = 1 → ∀ (H : Heap) (locs : List Loc) (ls : Array Slot), Wd D A s.heap (oA T 64 a_nw6 x_nw6_453 ++ (oA T 6 a_nw5 x_nw5_453 ++ (oA T 48 a_nw4 x_nw4_453 ++ (oA T 64 a_nw3 x_nw3_453 ++ (oA T 64 a_nw2 x_nw2_453 ++ (oA T 64 a_nw1 x_nw1_453 ++ (oA T 12 a_c x_c_453 ++ (oA T 24 a_w x_w ++ (oA T 2 a_u x_u ++ (oA T 6 a_x x_x ++ (oA T 6 a_l x_l_453 ++ (oA T 6 a_f x_f_453 ++ (oA T 12 a_v x_v_453 ++ (oA T 20 a_t x_t ++ (oA T 20 a_g x_g ++ (oA T 60 a_q x_q ++ (oA T 5 a_n x_n ++ (oA T 16 a_h x_h_453 ++ (oA T 30 a_p x_p ++ (oA T 6 a_k x_k ++ (oc_X10 T (ad 0) (bb ad) (y_K_453r 0) ++ (wkL T ad y_K_453r L18 ++ Z)))))))))))))))))))))) H locs → lv_has ls 30 [(0, .ref (ad 0 0)), (2, .ref a_c), (3, .ref a_w), (4, .ref a_u), (5, .ref a_x), (10, .ref a_g), (11, .ref a_q), (12, .ref a_n), (16, .ref a_nw1), (17, .ref a_nw2), (18, .ref a_nw3), (19, .ref a_nw4), (20, .ref a_nw5), (21, .ref a_nw6), (22, .int v22_453), (24, .int v24_453), (26, .int v26_453)] → W p l e (rmL 13 4750) s m args below meth c H locs y_N_453r (16 * y_N_453r) Q (F0 m 627 ls [])) → (code = 2 → ∀ (H : Heap) (locs : List Loc) (ls : Array Slot), Wd D A s.heap (oA T 64 a_nw6 x_nw6_453 ++ (oA T 6 a_nw5 x_nw5_453 ++ (oA T 48 a_nw4 x_nw4_453 ++ (oA T 64 a_nw3 x_nw3_453 ++ (oA T 64 a_nw2 x_nw2_453 ++ (oA T 64 a_nw1 x_nw1_453 ++ (oA T 12 a_c x_c_453 ++ (oA T 24 a_w x_w ++ (oA T 2 a_u x_u ++ (oA T 6 a_x x_x ++ (oA T 6 a_l x_l_453 ++ (oA T 6 a_f x_f_453 ++ (oA T 12 a_v x_v_453 ++ (oA T 20 a_t x_t ++ (oA T 20 a_g x_g ++ (oA T 60 a_q x_q ++ (oA T 5 a_n x_n ++ (oA T 16 a_h x_h_453 ++ (oA T 30 a_p x_p ++ (oA T 6 a_k x_k ++ (oc_X10 T (ad 0) (bb ad) (y_K_453r 0) ++ (wkL T ad y_K_453r L18 ++ Z)))))))))))))))))))))) H locs → lv_has ls 30 [] → W p l e (rmL 13 4750) s m args below meth c H locs y_N_453r (16 * y_N_453r) Q (F0 m 619 ls [])) → W p l e (rmL 13 4750) s m args below meth c H locs x_N_453 (16 * x_N_453) Q (F0 m 453 ls []) := by
    intro n
    induction n with
    | zero =>
      intro x_K_453 x_c_453 x_l_453 x_f_453 x_v_453 x_h_453 x_nw1_453 x_nw2_453 x_nw3_453 x_nw4_453 x_nw5_453 x_nw6_453 x_N_453 v22_453 v24_453 v26_453 v27_453 hN_453 H locs ls code o27_453r y_K_453r y_N_453r hW hl h k1 k2
      rw [f_L_asks_L453] at h
      cases h
    | succ n ih =>
      intro x_K_453 x_c_453 x_l_453 x_f_453 x_v_453 x_h_453 x_nw1_453 x_nw2_453 x_nw3_453 x_nw4_453 x_nw5_453 x_nw6_453 x_N_453 v22_453 v24_453 v26_453 v27_453 hN_453 H locs ls code o27_453r y_K_453r y_N_453r hW hl h k1 k2
      rw [f_L_asks_L453] at h
      refine lv_iload hx hb dL_asks_453 (lv_at hl 17 rfl) ?_
      refine lv_iload hx hb dL_asks_455 (lv_at hl 16 rfl) ?_
      refine lv_iadd hx hb dL_asks_457 ?_
      refine lv_aload_n hx hb dL_asks_458 rfl (lv_at hl 1 rfl) ?_
      refine lv_bipush (v := 8) hx hb dL_asks_459 (by decide) ?_
      refine lv_iload hx hb dL_asks_461 (lv_at hl 14 rfl) ?_
      refine lv_iadd hx hb dL_asks_463 ?_
      obtain ⟨g94, h⟩ := grd_s h
      refine g_iald hx hb hK hW 6 rfl g94 dL_asks_464 ?_
      refine lv_icmp_gt (tgt := 627) hx hb dL_asks_465 (by decide) (fun c95 => ?_) (fun c95 => ?_)
      · replace h := ite_t c95 h
        obtain ⟨rfl, rfl, rfl, rfl⟩ := ret4 h
        exact k1 rfl H locs ls hW (lv_sub hl [0, 1, 2, 3, 4, 5, 6, 7, 8, 9, 10, 11, 12, 13, 14, 15, 16] rfl)
      · replace h := ite_f c95 h
        refine lv_iload hx hb dL_asks_468 (lv_at hl 17 rfl) ?_
        refine lv_iload hx hb dL_asks_470 (lv_at hl 16 rfl) ?_
        obtain ⟨r96, q97, h⟩ := bnd1_s h
        refine cs_L_52 hx hb hml hown hts hK hN hE hC hA hW (c_L_span l D T A (oA T 64 a_nw6 x_nw6_453 ++ (oA T 6 a_nw5 x_nw5_453 ++ (oA T 48 a_nw4 x_nw4_453 ++ (oA T 64 a_nw3 x_nw3_453 ++ (oA T 64 a_nw2 x_nw2_453 ++ (oA T 64 a_nw1 x_nw1_453 ++ (oA T 12 a_c x_c_453 ++ (oA T 24 a_w x_w ++ (oA T 2 a_u x_u ++ (oA T 6 a_x x_x ++ (oA T 6 a_l x_l_453 ++ (oA T 6 a_f x_f_453 ++ (oA T 12 a_v x_v_453 ++ (oA T 20 a_t x_t ++ (oA T 20 a_g x_g ++ (oA T 60 a_q x_q ++ (oA T 5 a_n x_n ++ (oA T 16 a_h x_h_453 ++ (oA T 30 a_p x_p ++ (oA T 6 a_k x_k ++ (oc_X10 T (ad 0) (bb ad) (x_K_453 0) ++ (wkL T ad x_K_453 L18 ++ Z)))))))))))))))))))))) v27_453 v26_453 r96 q97) ⟨Nat.le_of_ble_eq_true rfl, Nat.le_of_ble_eq_true rfl⟩ hl.1 rfl (Nat.le_of_ble_eq_true rfl) dL_asks_472 (hf0 hN_453) rfl (fun H locs hW => ?_)
        refine lv_istore (lv' := [(28, .int r96), (0, .ref (ad 0 0)), (2, .ref a_c), (3, .ref a_w), (4, .ref a_u), (5, .ref a_x), (10, .ref a_g), (11, .ref a_q), (12, .ref a_n), (16, .ref a_nw1), (17, .ref a_nw2), (18, .ref a_nw3), (19, .ref a_nw4), (20, .ref a_nw5), (21, .ref a_nw6), (22, .int v22_453), (24, .int v24_453), (26, .int v26_453), (27, .int v27_453)]) hx hb dL_asks_475 hl (by decide) rfl (fun ls hl => ?_)
        refine lv_aload hx hb dL_asks_477 (lv_at hl 13 rfl) ?_
        refine lv_iload hx hb dL_asks_479 (lv_at hl 0 rfl) ?_
        obtain ⟨g98, h⟩ := grd_s h
        refine g_iald hx hb hK hW 1 rfl g98 dL_asks_481 ?_
        refine lv_iconst (v := 1) hx hb dL_asks_482 (by decide) ?_
        refine lv_isub hx hb dL_asks_483 ?_
        refine lv_topi (fun w29_99 ew29_99 => ?_)
        replace h := lb_at ew29_99 h
        refine lv_istore (lv' := [(29, .int w29_99), (28, .int r96), (0, .ref (ad 0 0)), (2, .ref a_c), (3, .ref a_w), (4, .ref a_u), (5, .ref a_x), (10, .ref a_g), (11, .ref a_q), (12, .ref a_n), (16, .ref a_nw1), (17, .ref a_nw2), (18, .ref a_nw3), (19, .ref a_nw4), (20, .ref a_nw5), (21, .ref a_nw6), (22, .int v22_453), (24, .int v24_453), (26, .int v26_453), (27, .int v27_453)]) hx hb dL_asks_484 hl (by decide) rfl (fun ls hl => ?_)
        refine lv_aload_n hx hb dL_asks_486 rfl (lv_at hl 2 rfl) ?_
        refine lv_iconst (v := 1) hx hb dL_asks_487 (by decide) ?_
        refine lv_iload hx hb dL_asks_488 (lv_at hl 16 rfl) ?_
        refine lv_iload hx hb dL_asks_490 (lv_at hl 19 rfl) ?_
        refine lv_iload hx hb dL_asks_492 (lv_at hl 18 rfl) ?_
        refine lv_iconst (v := 0) hx hb dL_asks_494 (by decide) ?_
        replace hW := hW.perm pf21
        replace hW := hW.perm pf21
        obtain ⟨r100, x_K101, q102, h⟩ := bnd2_s h
        obtain ⟨gN103, h⟩ := grd_s h
        have gN103 := of_decide_eq_true gN103
        refine cs_L_196 hx hb hml hown hts hK hN hE hC hA hW (c_L_more l hfl D T A ad hok (oA T 64 a_nw6 x_nw6_453 ++ (oA T 6 a_nw5 x_nw5_453 ++ (oA T 48 a_nw4 x_nw4_453 ++ (oA T 64 a_nw3 x_nw3_453 ++ (oA T 64 a_nw2 x_nw2_453 ++ (oA T 64 a_nw1 x_nw1_453 ++ (oA T 12 a_c x_c_453 ++ (oA T 24 a_w x_w ++ (oA T 2 a_u x_u ++ (oA T 6 a_x x_x ++ (oA T 6 a_l x_l_453 ++ (oA T 6 a_f x_f_453 ++ (oA T 12 a_v x_v_453 ++ (oA T 20 a_t x_t ++ (oA T 20 a_g x_g ++ (oA T 60 a_q x_q ++ (oA T 5 a_n x_n ++ (oA T 16 a_h x_h_453 ++ (oA T 30 a_p x_p ++ (oA T 6 a_k x_k ++ Z)))))))))))))))))))) x_K_453 1 v22_453 v27_453 v26_453 0 r100 x_K101 q102) ⟨Nat.le_of_ble_eq_true rfl, Nat.le_of_ble_eq_true rfl⟩ hl.1 rfl (Nat.le_of_ble_eq_true rfl) dL_asks_495 (hfB gN103) rfl (fun H locs hW => ?_)
        replace hW := hW.perm pf1
        replace hW := hW.perm pf1
        replace hW := hW.perm pf21
        replace hW := hW.perm pf21
        replace hW := hW.perm pf21
        replace hW := hW.perm pf21
        replace hW := hW.perm pf21
        replace hW := hW.perm pf21
        replace hW := hW.perm pf21
        replace hW := hW.perm pf21
        replace hW := hW.perm pf21
        replace hW := hW.perm pf21
        replace hW := hW.perm pf21
        replace hW := hW.perm pf21
        replace hW := hW.perm pf21
        replace hW := hW.perm pf21
        replace hW := hW.perm pf21
        replace hW := hW.perm pf21
        replace hW := hW.perm pf21
        replace hW := hW.perm pf21
        replace hW := hW.perm pf21
        replace hW := hW.perm pf21
        refine lv_aload hx hb dL_asks_498 (lv_at hl 14 rfl) ?_
        refine lv_iload hx hb dL_asks_500 (lv_at hl 1 rfl) ?_
        obtain ⟨g104, h⟩ := grd_s h
        refine g_iald hx hb hK hW 1 rfl g104 dL_asks_502 ?_
        refine lv_icmp_ne (tgt := 619) hx hb dL_asks_503 (by decide) (fun c105 => ?_) (fun c105 => ?_)
        · replace h := ite_f c105 h
          obtain ⟨rfl, rfl, rfl, rfl⟩ := ret4 h
          exact k2 rfl H locs ls hW (lv_sub hl [] rfl)
        · replace h := ite_t c105 h
          refine lv_aload_n hx hb dL_asks_506 rfl (lv_at hl 2 rfl) ?_
          refine lv_iconst (v := 2) hx hb dL_asks_507 (by decide) ?_
          refine lv_iload hx hb dL_asks_508 (lv_at hl 16 rfl) ?_
          refine lv_iload hx hb dL_asks_510 (lv_at hl 19 rfl) ?_
          refine lv_iload hx hb dL_asks_512 (lv_at hl 18 rfl) ?_
          refine lv_aload hx hb dL_asks_514 (lv_at hl 14 rfl) ?_
          refine lv_iload hx hb dL_asks_516 (lv_at hl 1 rfl) ?_
          obtain ⟨g106, h⟩ := grd_s h
          refine g_iald hx hb hK hW 1 rfl g106 dL_asks_518 ?_
          replace hW := hW.perm pf21
          replace hW := hW.perm pf21
          obtain ⟨r107, x_K108, q109, h⟩ := bnd2_s h
          obtain ⟨gN110, h⟩ := grd_s h
          have gN110 := of_decide_eq_true gN110
          refine cs_L_196 hx hb hml hown hts hK hN hE hC hA hW (c_L_more l hfl D T A ad hok (oA T 64 a_nw6 x_nw6_453 ++ (oA T 6 a_nw5 x_nw5_453 ++ (oA T 48 a_nw4 x_nw4_453 ++ (oA T 64 a_nw3 x_nw3_453 ++ (oA T 64 a_nw2 x_nw2_453 ++ (oA T 64 a_nw1 x_nw1_453 ++ (oA T 12 a_c x_c_453 ++ (oA T 24 a_w x_w ++ (oA T 2 a_u x_u ++ (oA T 6 a_x x_x ++ (oA T 6 a_l x_l_453 ++ (oA T 6 a_f x_f_453 ++ (oA T 12 a_v x_v_453 ++ (oA T 20 a_t x_t ++ (oA T 20 a_g x_g ++ (oA T 60 a_q x_q ++ (oA T 5 a_n x_n ++ (oA T 16 a_h x_h_453 ++ (oA T 30 a_p x_p ++ (oA T 6 a_k x_k ++ Z)))))))))))))))))))) x_K101 2 v22_453 v27_453 v26_453 (x_nw5_453 r96.toNatClampNeg) r107 x_K108 q109) ⟨Nat.le_of_ble_eq_true rfl, Nat.le_of_ble_eq_true rfl⟩ hl.1 rfl (Nat.le_of_ble_eq_true rfl) dL_asks_519 (hfB gN110) rfl (fun H locs hW => ?_)
          replace hW := hW.perm pf1
          replace hW := hW.perm pf1
          replace hW := hW.perm pf21
          replace hW := hW.perm pf21
          replace hW := hW.perm pf21
          replace hW := hW.perm pf21
          replace hW := hW.perm pf21
          replace hW := hW.perm pf21
          replace hW := hW.perm pf21
          replace hW := hW.perm pf21
          replace hW := hW.perm pf21
          replace hW := hW.perm pf21
          replace hW := hW.perm pf21
          replace hW := hW.perm pf21
          replace hW := hW.perm pf21
          replace hW := hW.perm pf21
          replace hW := hW.perm pf21
          replace hW := hW.perm pf21
          replace hW := hW.perm pf21
          replace hW := hW.perm pf21
          replace hW := hW.perm pf21
          replace hW := hW.perm pf21
          refine lv_sipush (v := (-1001)) hx hb dL_asks_522 (by decide) ?_
          refine lv_icmp_ne (tgt := 619) hx hb dL_asks_525 (by decide) (fun c111 => ?_) (fun c111 => ?_)
          · replace h := ite_f c111 h
            obtain ⟨rfl, rfl, rfl, rfl⟩ := ret4 h
            exact k2 rfl H locs ls hW (lv_sub hl [] rfl)
          · replace h := ite_t c111 h
            refine lv_iload hx hb dL_asks_528 (lv_at hl 0 rfl) ?_
            refine lv_if_lt (tgt := 621) hx hb dL_asks_530 (by decide) (fun c112 => ?_) (fun c112 => ?_)
            · replace h := ite_t c112 h
              obtain ⟨w27_113, ew27_113⟩ : ∃ y : Int32, y = v27_453 + 1 := ⟨_, rfl⟩
              replace h := lb_at ew27_113 h
              refine lv_iinc (v := w27_113) (lv' := [(27, .int w27_113), (29, .int w29_99), (28, .int r96), (0, .ref (ad 0 0)), (2, .ref a_c), (3, .ref a_w), (4, .ref a_u), (5, .ref a_x), (10, .ref a_g), (11, .ref a_q), (12, .ref a_n), (16, .ref a_nw1), (17, .ref a_nw2), (18, .ref a_nw3), (19, .ref a_nw4), (20, .ref a_nw5), (21, .ref a_nw6), (22, .int v22_453), (24, .int v24_453), (26, .int v26_453)]) hx hb dL_asks_621 hl (k := 19) rfl (by rw [ew27_113]; rfl) (by decide) rfl (fun ls hl => ?_)
              refine lv_goto (tgt := 453) hx hb dL_asks_624 (by decide) ?_
              exact ih _ _ _ _ _ _ _ _ _ _ _ _ _ _ _ _ _ gN110 H locs ls _ _ _ _ hW (lv_sub hl [3, 4, 5, 6, 7, 8, 9, 10, 11, 12, 13, 14, 15, 16, 17, 18, 19, 0] rfl) h k1 k2
            · replace h := ite_f c112 h
              refine lv_aload_n hx hb dL_asks_533 rfl (lv_at hl 2 rfl) ?_
              refine lv_iconst (v := 2) hx hb dL_asks_534 (by decide) ?_
              refine lv_iload hx hb dL_asks_535 (lv_at hl 16 rfl) ?_
              refine lv_iload hx hb dL_asks_537 (lv_at hl 19 rfl) ?_
              refine lv_iload hx hb dL_asks_539 (lv_at hl 18 rfl) ?_
              refine lv_iload hx hb dL_asks_541 (lv_at hl 0 rfl) ?_
              replace hW := hW.perm pf21
              replace hW := hW.perm pf21
              obtain ⟨r114, x_K115, q116, h⟩ := bnd2_s h
              obtain ⟨gN117, h⟩ := grd_s h
              have gN117 := of_decide_eq_true gN117
              refine cs_L_196 hx hb hml hown hts hK hN hE hC hA hW (c_L_more l hfl D T A ad hok (oA T 64 a_nw6 x_nw6_453 ++ (oA T 6 a_nw5 x_nw5_453 ++ (oA T 48 a_nw4 x_nw4_453 ++ (oA T 64 a_nw3 x_nw3_453 ++ (oA T 64 a_nw2 x_nw2_453 ++ (oA T 64 a_nw1 x_nw1_453 ++ (oA T 12 a_c x_c_453 ++ (oA T 24 a_w x_w ++ (oA T 2 a_u x_u ++ (oA T 6 a_x x_x ++ (oA T 6 a_l x_l_453 ++ (oA T 6 a_f x_f_453 ++ (oA T 12 a_v x_v_453 ++ (oA T 20 a_t x_t ++ (oA T 20 a_g x_g ++ (oA T 60 a_q x_q ++ (oA T 5 a_n x_n ++ (oA T 16 a_h x_h_453 ++ (oA T 30 a_p x_p ++ (oA T 6 a_k x_k ++ Z)))))))))))))))))))) x_K108 2 v22_453 v27_453 v26_453 w29_99 r114 x_K115 q116) ⟨Nat.le_of_ble_eq_true rfl, Nat.le_of_ble_eq_true rfl⟩ hl.1 rfl (Nat.le_of_ble_eq_true rfl) dL_asks_543 (hfB gN117) rfl (fun H locs hW => ?_)
              replace hW := hW.perm pf1
              replace hW := hW.perm pf1
              replace hW := hW.perm pf21
              replace hW := hW.perm pf21
              replace hW := hW.perm pf21
              replace hW := hW.perm pf21
              replace hW := hW.perm pf21
              replace hW := hW.perm pf21
              replace hW := hW.perm pf21
              replace hW := hW.perm pf21
              replace hW := hW.perm pf21
              replace hW := hW.perm pf21
              replace hW := hW.perm pf21
              replace hW := hW.perm pf21
              replace hW := hW.perm pf21
              replace hW := hW.perm pf21
              replace hW := hW.perm pf21
              replace hW := hW.perm pf21
              replace hW := hW.perm pf21
              replace hW := hW.perm pf21
              replace hW := hW.perm pf21
              replace hW := hW.perm pf21
              refine lv_aload hx hb dL_asks_546 (lv_at hl 10 rfl) ?_
              refine lv_aload hx hb dL_asks_548 (lv_at hl 13 rfl) ?_
              refine lv_bipush (v := 8) hx hb dL_asks_550 (by decide) ?_
              refine lv_iload hx hb dL_asks_552 (lv_at hl 1 rfl) ?_
              refine lv_imul hx hb dL_asks_554 ?_
              refine lv_iload hx hb dL_asks_555 (lv_at hl 0 rfl) ?_
              refine lv_iadd hx hb dL_asks_557 ?_
              obtain ⟨g118, h⟩ := grd_s h
              refine g_iald hx hb hK hW 2 rfl g118 dL_asks_558 ?_
              obtain ⟨g119, h⟩ := grd_s h
              refine g_iald hx hb hK hW 5 rfl g119 dL_asks_559 ?_
              refine lv_icmp_ne (tgt := 619) hx hb dL_asks_560 (by decide) (fun c120 => ?_) (fun c120 => ?_)
              · replace h := ite_f c120 h
                obtain ⟨rfl, rfl, rfl, rfl⟩ := ret4 h
                exact k2 rfl H locs ls hW (lv_sub hl [] rfl)
              · replace h := ite_t c120 h
                refine lv_aload_n hx hb dL_asks_563 rfl (lv_at hl 2 rfl) ?_
                refine lv_iconst (v := 3) hx hb dL_asks_564 (by decide) ?_
                refine lv_iload hx hb dL_asks_565 (lv_at hl 16 rfl) ?_
                refine lv_iload hx hb dL_asks_567 (lv_at hl 19 rfl) ?_
                refine lv_iload hx hb dL_asks_569 (lv_at hl 18 rfl) ?_
                refine lv_iload hx hb dL_asks_571 (lv_at hl 0 rfl) ?_
                replace hW := hW.perm pf21
                replace hW := hW.perm pf21
                obtain ⟨r121, x_K122, q123, h⟩ := bnd2_s h
                obtain ⟨gN124, h⟩ := grd_s h
                have gN124 := of_decide_eq_true gN124
                refine cs_L_196 hx hb hml hown hts hK hN hE hC hA hW (c_L_more l hfl D T A ad hok (oA T 64 a_nw6 x_nw6_453 ++ (oA T 6 a_nw5 x_nw5_453 ++ (oA T 48 a_nw4 x_nw4_453 ++ (oA T 64 a_nw3 x_nw3_453 ++ (oA T 64 a_nw2 x_nw2_453 ++ (oA T 64 a_nw1 x_nw1_453 ++ (oA T 12 a_c x_c_453 ++ (oA T 24 a_w x_w ++ (oA T 2 a_u x_u ++ (oA T 6 a_x x_x ++ (oA T 6 a_l x_l_453 ++ (oA T 6 a_f x_f_453 ++ (oA T 12 a_v x_v_453 ++ (oA T 20 a_t x_t ++ (oA T 20 a_g x_g ++ (oA T 60 a_q x_q ++ (oA T 5 a_n x_n ++ (oA T 16 a_h x_h_453 ++ (oA T 30 a_p x_p ++ (oA T 6 a_k x_k ++ Z)))))))))))))))))))) x_K115 3 v22_453 v27_453 v26_453 w29_99 r121 x_K122 q123) ⟨Nat.le_of_ble_eq_true rfl, Nat.le_of_ble_eq_true rfl⟩ hl.1 rfl (Nat.le_of_ble_eq_true rfl) dL_asks_573 (hfB gN124) rfl (fun H locs hW => ?_)
                replace hW := hW.perm pf1
                replace hW := hW.perm pf1
                replace hW := hW.perm pf21
                replace hW := hW.perm pf21
                replace hW := hW.perm pf21
                replace hW := hW.perm pf21
                replace hW := hW.perm pf21
                replace hW := hW.perm pf21
                replace hW := hW.perm pf21
                replace hW := hW.perm pf21
                replace hW := hW.perm pf21
                replace hW := hW.perm pf21
                replace hW := hW.perm pf21
                replace hW := hW.perm pf21
                replace hW := hW.perm pf21
                replace hW := hW.perm pf21
                replace hW := hW.perm pf21
                replace hW := hW.perm pf21
                replace hW := hW.perm pf21
                replace hW := hW.perm pf21
                replace hW := hW.perm pf21
                replace hW := hW.perm pf21
                refine lv_aload hx hb dL_asks_576 (lv_at hl 11 rfl) ?_
                refine lv_aload hx hb dL_asks_578 (lv_at hl 13 rfl) ?_
                refine lv_bipush (v := 8) hx hb dL_asks_580 (by decide) ?_
                refine lv_iload hx hb dL_asks_582 (lv_at hl 1 rfl) ?_
                refine lv_imul hx hb dL_asks_584 ?_
                refine lv_iload hx hb dL_asks_585 (lv_at hl 0 rfl) ?_
                refine lv_iadd hx hb dL_asks_587 ?_
                obtain ⟨g125, h⟩ := grd_s h
                refine g_iald hx hb hK hW 2 rfl g125 dL_asks_588 ?_
                obtain ⟨g126, h⟩ := grd_s h
                refine g_iald hx hb hK hW 4 rfl g126 dL_asks_589 ?_
                refine lv_icmp_ne (tgt := 619) hx hb dL_asks_590 (by decide) (fun c127 => ?_) (fun c127 => ?_)
                · replace h := ite_f c127 h
                  obtain ⟨rfl, rfl, rfl, rfl⟩ := ret4 h
                  exact k2 rfl H locs ls hW (lv_sub hl [] rfl)
                · replace h := ite_t c127 h
                  refine lv_aload_n hx hb dL_asks_593 rfl (lv_at hl 2 rfl) ?_
                  refine lv_iconst (v := 2) hx hb dL_asks_594 (by decide) ?_
                  refine lv_iload hx hb dL_asks_595 (lv_at hl 16 rfl) ?_
                  refine lv_iload hx hb dL_asks_597 (lv_at hl 19 rfl) ?_
                  refine lv_iload hx hb dL_asks_599 (lv_at hl 18 rfl) ?_
                  refine lv_iconst (v := 0) hx hb dL_asks_601 (by decide) ?_
                  replace hW := hW.perm pf21
                  replace hW := hW.perm pf21
                  obtain ⟨r128, x_K129, q130, h⟩ := bnd2_s h
                  obtain ⟨gN131, h⟩ := grd_s h
                  have gN131 := of_decide_eq_true gN131
                  refine cs_L_196 hx hb hml hown hts hK hN hE hC hA hW (c_L_more l hfl D T A ad hok (oA T 64 a_nw6 x_nw6_453 ++ (oA T 6 a_nw5 x_nw5_453 ++ (oA T 48 a_nw4 x_nw4_453 ++ (oA T 64 a_nw3 x_nw3_453 ++ (oA T 64 a_nw2 x_nw2_453 ++ (oA T 64 a_nw1 x_nw1_453 ++ (oA T 12 a_c x_c_453 ++ (oA T 24 a_w x_w ++ (oA T 2 a_u x_u ++ (oA T 6 a_x x_x ++ (oA T 6 a_l x_l_453 ++ (oA T 6 a_f x_f_453 ++ (oA T 12 a_v x_v_453 ++ (oA T 20 a_t x_t ++ (oA T 20 a_g x_g ++ (oA T 60 a_q x_q ++ (oA T 5 a_n x_n ++ (oA T 16 a_h x_h_453 ++ (oA T 30 a_p x_p ++ (oA T 6 a_k x_k ++ Z)))))))))))))))))))) x_K122 2 v22_453 v27_453 v26_453 0 r128 x_K129 q130) ⟨Nat.le_of_ble_eq_true rfl, Nat.le_of_ble_eq_true rfl⟩ hl.1 rfl (Nat.le_of_ble_eq_true rfl) dL_asks_602 (hfB gN131) rfl (fun H locs hW => ?_)
                  replace hW := hW.perm pf1
                  replace hW := hW.perm pf1
                  replace hW := hW.perm pf21
                  replace hW := hW.perm pf21
                  replace hW := hW.perm pf21
                  replace hW := hW.perm pf21
                  replace hW := hW.perm pf21
                  replace hW := hW.perm pf21
                  replace hW := hW.perm pf21
                  replace hW := hW.perm pf21
                  replace hW := hW.perm pf21
                  replace hW := hW.perm pf21
                  replace hW := hW.perm pf21
                  replace hW := hW.perm pf21
                  replace hW := hW.perm pf21
                  replace hW := hW.perm pf21
                  replace hW := hW.perm pf21
                  replace hW := hW.perm pf21
                  replace hW := hW.perm pf21
                  replace hW := hW.perm pf21
                  replace hW := hW.perm pf21
                  replace hW := hW.perm pf21
                  refine lv_aload hx hb dL_asks_605 (lv_at hl 10 rfl) ?_
                  refine lv_aload hx hb dL_asks_607 (lv_at hl 13 rfl) ?_
                  refine lv_bipush (v := 8) hx hb dL_asks_609 (by decide) ?_
                  refine lv_iload hx hb dL_asks_611 (lv_at hl 1 rfl) ?_
                  refine lv_imul hx hb dL_asks_613 ?_
                  obtain ⟨g132, h⟩ := grd_s h
                  refine g_iald hx hb hK hW 2 rfl g132 dL_asks_614 ?_
                  obtain ⟨g133, h⟩ := grd_s h
                  refine g_iald hx hb hK hW 5 rfl g133 dL_asks_615 ?_
                  refine lv_icmp_eq (tgt := 621) hx hb dL_asks_616 (by decide) (fun c134 => ?_) (fun c134 => ?_)
                  · replace h := ite_t c134 h
                    obtain ⟨w27_135, ew27_135⟩ : ∃ y : Int32, y = v27_453 + 1 := ⟨_, rfl⟩
                    replace h := lb_at ew27_135 h
                    refine lv_iinc (v := w27_135) (lv' := [(27, .int w27_135), (29, .int w29_99), (28, .int r96), (0, .ref (ad 0 0)), (2, .ref a_c), (3, .ref a_w), (4, .ref a_u), (5, .ref a_x), (10, .ref a_g), (11, .ref a_q), (12, .ref a_n), (16, .ref a_nw1), (17, .ref a_nw2), (18, .ref a_nw3), (19, .ref a_nw4), (20, .ref a_nw5), (21, .ref a_nw6), (22, .int v22_453), (24, .int v24_453), (26, .int v26_453)]) hx hb dL_asks_621 hl (k := 19) rfl (by rw [ew27_135]; rfl) (by decide) rfl (fun ls hl => ?_)
                    refine lv_goto (tgt := 453) hx hb dL_asks_624 (by decide) ?_
                    exact ih _ _ _ _ _ _ _ _ _ _ _ _ _ _ _ _ _ gN131 H locs ls _ _ _ _ hW (lv_sub hl [3, 4, 5, 6, 7, 8, 9, 10, 11, 12, 13, 14, 15, 16, 17, 18, 19, 0] rfl) h k1 k2
                  · replace h := ite_f c134 h
                    obtain ⟨rfl, rfl, rfl, rfl⟩ := ret4 h
                    exact k2 rfl H locs ls hW (lv_sub hl [] rfl)
  have L438 : ∀ (n : Nat) (x_K_438 : Nat → Ob) (x_c_438 : Nat → Int32) (x_l_438 : Nat → Int32) (x_f_438 : Nat → Int32) (x_v_438 : Nat → Int32) (x_h_438 : Nat → Int32) (x_nw1_438 : Nat → Int32) (x_nw2_438 : Nat → Int32) (x_nw3_438 : Nat → Int32) (x_nw4_438 : Nat → Int32) (x_nw5_438 : Nat → Int32) (x_nw6_438 : Nat → Int32) (x_N_438 : Nat) (v22_438 : Int32) (v24_438 : Int32) (v26_438 : Int32) (hN_438 : x_N_438 ≤ 4750) (H : Heap) (locs : List Loc) (ls : Array Slot) (code : Nat) (o26_438r : Int32) (y_K_438r : Nat → Ob) (y_N_438r : Nat), Wd D A s.heap (oA T 64 a_nw6 x_nw6_438 ++ (oA T 6 a_nw5 x_nw5_438 ++ (oA T 48 a_nw4 x_nw4_438 ++ (oA T 64 a_nw3 x_nw3_438 ++ (oA T 64 a_nw2 x_nw2_438 ++ (oA T 64 a_nw1 x_nw1_438 ++ (oA T 12 a_c x_c_438 ++ (oA T 24 a_w x_w ++ (oA T 2 a_u x_u ++ (oA T 6 a_x x_x ++ (oA T 6 a_l x_l_438 ++ (oA T 6 a_f x_f_438 ++ (oA T 12 a_v x_v_438 ++ (oA T 20 a_t x_t ++ (oA T 20 a_g x_g ++ (oA T 60 a_q x_q ++ (oA T 5 a_n x_n ++ (oA T 16 a_h x_h_438 ++ (oA T 30 a_p x_p ++ (oA T 6 a_k x_k ++ (oc_X10 T (ad 0) (bb ad) (x_K_438 0) ++ (wkL T ad x_K_438 L18 ++ Z)))))))))))))))))))))) H locs → lv_has ls 30 [(0, .ref (ad 0 0)), (2, .ref a_c), (3, .ref a_w), (4, .ref a_u), (5, .ref a_x), (10, .ref a_g), (11, .ref a_q), (12, .ref a_n), (16, .ref a_nw1), (17, .ref a_nw2), (18, .ref a_nw3), (19, .ref a_nw4), (20, .ref a_nw5), (21, .ref a_nw6), (22, .int v22_438), (24, .int v24_438), (26, .int v26_438)] → f_L_asks_L438 n x_K_438 x_c_438 x_w x_u x_x x_l_438 x_f_438 x_v_438 x_t x_g x_q x_n x_h_438 x_p x_k x_nw1_438 x_nw2_438 x_nw3_438 x_nw4_438 x_nw5_438 x_nw6_438 x_N_438 v22_438 v24_438 v26_438 = some (code, o26_438r, y_K_438r, y_N_438r) → (code = 1 → ∀ (H : Heap) (locs : List Loc) (ls : Array Slot), Wd D A s.heap (oA T 64 a_nw6 x_nw6_438 ++ (oA T 6 a_nw5 x_nw5_438 ++ (oA T 48 a_nw4 x_nw4_438 ++ (oA T 64 a_nw3 x_nw3_438 ++ (oA T 64 a_nw2 x_nw2_438 ++ (oA T 64 a_nw1 x_nw1_438 ++ (oA T 12 a_c x_c_438 ++ (oA T 24 a_w x_w ++ (oA T 2 a_u x_u ++ (oA T 6 a_x x_x ++ (oA T 6 a_l x_l_438 ++ (oA T 6 a_f x_f_438 ++ (oA T 12 a_v x_v_438 ++ (oA T 20 a_t x_t ++ (oA T 20 a_g x_g ++ (oA T 60 a_q x_q ++ (oA T 5 a_n x_n ++ (oA T 16 a_h x_h_438 ++ (oA T 30 a_p x_p ++ (oA T 6 a_k x_k ++ (oc_X10 T (ad 0) (bb ad) (y_K_438r 0) ++ (wkL T ad y_K_438r L18 ++ Z)))))))))))))))))))))) H locs → lv_has ls 30 [(0, .ref (ad 0 0)), (2, .ref a_c), (3, .ref a_w), (4, .ref a_u), (5, .ref a_x), (10, .ref a_g), (11, .ref a_q), (12, .ref a_n), (16, .ref a_nw1), (17, .ref a_nw2), (18, .ref a_nw3), (19, .ref a_nw4), (20, .ref a_nw5), (21, .ref a_nw6), (22, .int v22_438), (24, .int v24_438)] → W p l e (rmL 13 4750) s m args below meth c H locs y_N_438r (16 * y_N_438r) Q (F0 m 633 ls [])) → (code = 2 → ∀ (H : Heap) (locs : List Loc) (ls : Array Slot), Wd D A s.heap (oA T 64 a_nw6 x_nw6_438 ++ (oA T 6 a_nw5 x_nw5_438 ++ (oA T 48 a_nw4 x_nw4_438 ++ (oA T 64 a_nw3 x_nw3_438 ++ (oA T 64 a_nw2 x_nw2_438 ++ (oA T 64 a_nw1 x_nw1_438 ++ (oA T 12 a_c x_c_438 ++ (oA T 24 a_w x_w ++ (oA T 2 a_u x_u ++ (oA T 6 a_x x_x ++ (oA T 6 a_l x_l_438 ++ (oA T 6 a_f x_f_438 ++ (oA T 12 a_v x_v_438 ++ (oA T 20 a_t x_t ++ (oA T 20 a_g x_g ++ (oA T 60 a_q x_q ++ (oA T 5 a_n x_n ++ (oA T 16 a_h x_h_438 ++ (oA T 30 a_p x_p ++ (oA T 6 a_k x_k ++ (oc_X10 T (ad 0) (bb ad) (y_K_438r 0) ++ (wkL T ad y_K_438r L18 ++ Z)))))))))))))))))))))) H locs → lv_has ls 30 [] → W p l e (rmL 13 4750) s m args below meth c H locs y_N_438r (16 * y_N_438r) Q (F0 m 619 ls [])) → W p l e (rmL 13 4750) s m args below meth c H locs x_N_438 (16 * x_N_438) Q (F0 m 438 ls []) := by
    intro n
    induction n with
    | zero =>
      intro x_K_438 x_c_438 x_l_438 x_f_438 x_v_438 x_h_438 x_nw1_438 x_nw2_438 x_nw3_438 x_nw4_438 x_nw5_438 x_nw6_438 x_N_438 v22_438 v24_438 v26_438 hN_438 H locs ls code o26_438r y_K_438r y_N_438r hW hl h k1 k2
      rw [f_L_asks_L438] at h
      cases h
    | succ n ih =>
      intro x_K_438 x_c_438 x_l_438 x_f_438 x_v_438 x_h_438 x_nw1_438 x_nw2_438 x_nw3_438 x_nw4_438 x_nw5_438 x_nw6_438 x_N_438 v22_438 v24_438 v26_438 hN_438 H locs ls code o26_438r y_K_438r y_N_438r hW hl h k1 k2
      rw [f_L_asks_L438] at h
      refine lv_iload hx hb dL_asks_438 (lv_at hl 16 rfl) ?_
      refine lv_aload_n hx hb dL_asks_440 rfl (lv_at hl 1 rfl) ?_
      refine lv_bipush (v := 8) hx hb dL_asks_441 (by decide) ?_
      refine lv_iload hx hb dL_asks_443 (lv_at hl 14 rfl) ?_
      refine lv_iadd hx hb dL_asks_445 ?_
      obtain ⟨g92, h⟩ := grd_s h
      refine g_iald hx hb hK hW 6 rfl g92 dL_asks_446 ?_
      refine lv_icmp_gt (tgt := 633) hx hb dL_asks_447 (by decide) (fun c93 => ?_) (fun c93 => ?_)
      · replace h := ite_t c93 h
        obtain ⟨rfl, rfl, rfl, rfl⟩ := ret4 h
        exact k1 rfl H locs ls hW (lv_sub hl [0, 1, 2, 3, 4, 5, 6, 7, 8, 9, 10, 11, 12, 13, 14, 15] rfl)
      · replace h := ite_f c93 h
        refine lv_iconst (v := 0) hx hb dL_asks_450 (by decide) ?_
        refine lv_istore (lv' := [(27, .int 0), (0, .ref (ad 0 0)), (2, .ref a_c), (3, .ref a_w), (4, .ref a_u), (5, .ref a_x), (10, .ref a_g), (11, .ref a_q), (12, .ref a_n), (16, .ref a_nw1), (17, .ref a_nw2), (18, .ref a_nw3), (19, .ref a_nw4), (20, .ref a_nw5), (21, .ref a_nw6), (22, .int v22_438), (24, .int v24_438), (26, .int v26_438)]) hx hb dL_asks_451 hl (by decide) rfl (fun ls hl => ?_)
        obtain ⟨code137, o27_u136, y_K_u136, y_N_u136, q138, h⟩ := bnd4_s h
        obtain ⟨gN139, h⟩ := grd_s h
        have gN139 := of_decide_eq_true gN139
        refine L453 400 _ _ _ _ _ _ _ _ _ _ _ _ _ _ _ _ _ hN_438 H locs ls code137 o27_u136 y_K_u136 y_N_u136 hW (lv_sub hl [1, 2, 3, 4, 5, 6, 7, 8, 9, 10, 11, 12, 13, 14, 15, 16, 17, 0] rfl) q138 (fun hc H locs ls hW hl => ?_) (fun hc H locs ls hW hl => ?_)
        · replace h := ite_t hc h
          obtain ⟨w26_140, ew26_140⟩ : ∃ y : Int32, y = v26_438 + 1 := ⟨_, rfl⟩
          replace h := lb_at ew26_140 h
          refine lv_iinc (v := w26_140) (lv' := [(26, .int w26_140), (0, .ref (ad 0 0)), (2, .ref a_c), (3, .ref a_w), (4, .ref a_u), (5, .ref a_x), (10, .ref a_g), (11, .ref a_q), (12, .ref a_n), (16, .ref a_nw1), (17, .ref a_nw2), (18, .ref a_nw3), (19, .ref a_nw4), (20, .ref a_nw5), (21, .ref a_nw6), (22, .int v22_438), (24, .int v24_438)]) hx hb dL_asks_627 hl (k := 16) rfl (by rw [ew26_140]; rfl) (by decide) rfl (fun ls hl => ?_)
          refine lv_goto (tgt := 438) hx hb dL_asks_630 (by decide) ?_
          exact ih _ _ _ _ _ _ _ _ _ _ _ _ _ _ _ _ gN139 H locs ls _ _ _ _ hW (lv_sub hl [1, 2, 3, 4, 5, 6, 7, 8, 9, 10, 11, 12, 13, 14, 15, 16, 0] rfl) h k1 k2
        · replace h := ite_f (by rw [hc]; decide) h
          obtain ⟨rfl, rfl, rfl, rfl⟩ := ret4 h
          exact k2 rfl H locs ls hW (lv_sub hl [] rfl)
  have L693 : ∀ (n : Nat) (x_K_693 : Nat → Ob) (x_c_693 : Nat → Int32) (x_l_693 : Nat → Int32) (x_f_693 : Nat → Int32) (x_v_693 : Nat → Int32) (x_h_693 : Nat → Int32) (x_nw1_693 : Nat → Int32) (x_nw2_693 : Nat → Int32) (x_nw3_693 : Nat → Int32) (x_nw4_693 : Nat → Int32) (x_nw5_693 : Nat → Int32) (x_nw6_693 : Nat → Int32) (x_N_693 : Nat) (v22_693 : Int32) (v23_693 : Int32) (v24_693 : Int32) (v26_693 : Int32) (hN_693 : x_N_693 ≤ 4750) (H : Heap) (locs : List Loc) (ls : Array Slot) (code : Nat) (o26_693r : Int32) (y_K_693r : Nat → Ob) (y_N_693r : Nat), Wd D A s.heap (oA T 64 a_nw6 x_nw6_693 ++ (oA T 6 a_nw5 x_nw5_693 ++ (oA T 48 a_nw4 x_nw4_693 ++ (oA T 64 a_nw3 x_nw3_693 ++ (oA T 64 a_nw2 x_nw2_693 ++ (oA T 64 a_nw1 x_nw1_693 ++ (oA T 12 a_c x_c_693 ++ (oA T 24 a_w x_w ++ (oA T 2 a_u x_u ++ (oA T 6 a_x x_x ++ (oA T 6 a_l x_l_693 ++ (oA T 6 a_f x_f_693 ++ (oA T 12 a_v x_v_693 ++ (oA T 20 a_t x_t ++ (oA T 20 a_g x_g ++ (oA T 60 a_q x_q ++ (oA T 5 a_n x_n ++ (oA T 16 a_h x_h_693 ++ (oA T 30 a_p x_p ++ (oA T 6 a_k x_k ++ (oc_X10 T (ad 0) (bb ad) (x_K_693 0) ++ (wkL T ad x_K_693 L18 ++ Z)))))))))))))))))))))) H locs → lv_has ls 30 [(0, .ref (ad 0 0)), (2, .ref a_c), (3, .ref a_w), (4, .ref a_u), (5, .ref a_x), (17, .ref a_nw2), (19, .ref a_nw4), (20, .ref a_nw5), (21, .ref a_nw6), (22, .int v22_693), (23, .int v23_693), (24, .int v24_693), (26, .int v26_693)] → f_L_asks_L693 n x_K_693 x_c_693 x_w x_u x_x x_l_693 x_f_693 x_v_693 x_t x_g x_q x_n x_h_693 x_p x_k x_nw1_693 x_nw2_693 x_nw3_693 x_nw4_693 x_nw5_693 x_nw6_693 x_N_693 v22_693 v23_693 v24_693 v26_693 = some (code, o26_693r, y_K_693r, y_N_693r) → (code = 1 → ∀ (H : Heap) (locs : List Loc) (ls : Array Slot), Wd D A s.heap (oA T 64 a_nw6 x_nw6_693 ++ (oA T 6 a_nw5 x_nw5_693 ++ (oA T 48 a_nw4 x_nw4_693 ++ (oA T 64 a_nw3 x_nw3_693 ++ (oA T 64 a_nw2 x_nw2_693 ++ (oA T 64 a_nw1 x_nw1_693 ++ (oA T 12 a_c x_c_693 ++ (oA T 24 a_w x_w ++ (oA T 2 a_u x_u ++ (oA T 6 a_x x_x ++ (oA T 6 a_l x_l_693 ++ (oA T 6 a_f x_f_693 ++ (oA T 12 a_v x_v_693 ++ (oA T 20 a_t x_t ++ (oA T 20 a_g x_g ++ (oA T 60 a_q x_q ++ (oA T 5 a_n x_n ++ (oA T 16 a_h x_h_693 ++ (oA T 30 a_p x_p ++ (oA T 6 a_k x_k ++ (oc_X10 T (ad 0) (bb ad) (y_K_693r 0) ++ (wkL T ad y_K_693r L18 ++ Z)))))))))))))))))))))) H locs → lv_has ls 30 [(0, .ref (ad 0 0)), (2, .ref a_c), (3, .ref a_w), (4, .ref a_u), (5, .ref a_x), (17, .ref a_nw2), (19, .ref a_nw4), (20, .ref a_nw5), (21, .ref a_nw6), (22, .int v22_693), (24, .int v24_693)] → W p l e (rmL 13 4750) s m args below meth c H locs y_N_693r (16 * y_N_693r) Q (F0 m 735 ls [])) → (code = 2 → ∀ (H : Heap) (locs : List Loc) (ls : Array Slot), Wd D A s.heap (oA T 64 a_nw6 x_nw6_693 ++ (oA T 6 a_nw5 x_nw5_693 ++ (oA T 48 a_nw4 x_nw4_693 ++ (oA T 64 a_nw3 x_nw3_693 ++ (oA T 64 a_nw2 x_nw2_693 ++ (oA T 64 a_nw1 x_nw1_693 ++ (oA T 12 a_c x_c_693 ++ (oA T 24 a_w x_w ++ (oA T 2 a_u x_u ++ (oA T 6 a_x x_x ++ (oA T 6 a_l x_l_693 ++ (oA T 6 a_f x_f_693 ++ (oA T 12 a_v x_v_693 ++ (oA T 20 a_t x_t ++ (oA T 20 a_g x_g ++ (oA T 60 a_q x_q ++ (oA T 5 a_n x_n ++ (oA T 16 a_h x_h_693 ++ (oA T 30 a_p x_p ++ (oA T 6 a_k x_k ++ (oc_X10 T (ad 0) (bb ad) (y_K_693r 0) ++ (wkL T ad y_K_693r L18 ++ Z)))))))))))))))))))))) H locs → lv_has ls 30 [] → W p l e (rmL 13 4750) s m args below meth c H locs y_N_693r (16 * y_N_693r) Q (F0 m 727 ls [])) → W p l e (rmL 13 4750) s m args below meth c H locs x_N_693 (16 * x_N_693) Q (F0 m 693 ls []) := by
    intro n
    induction n with
    | zero =>
      intro x_K_693 x_c_693 x_l_693 x_f_693 x_v_693 x_h_693 x_nw1_693 x_nw2_693 x_nw3_693 x_nw4_693 x_nw5_693 x_nw6_693 x_N_693 v22_693 v23_693 v24_693 v26_693 hN_693 H locs ls code o26_693r y_K_693r y_N_693r hW hl h k1 k2
      rw [f_L_asks_L693] at h
      cases h
    | succ n ih =>
      intro x_K_693 x_c_693 x_l_693 x_f_693 x_v_693 x_h_693 x_nw1_693 x_nw2_693 x_nw3_693 x_nw4_693 x_nw5_693 x_nw6_693 x_N_693 v22_693 v23_693 v24_693 v26_693 hN_693 H locs ls code o26_693r y_K_693r y_N_693r hW hl h k1 k2
      rw [f_L_asks_L693] at h
      refine lv_iload hx hb dL_asks_693 (lv_at hl 12 rfl) ?_
      refine lv_iload hx hb dL_asks_695 (lv_at hl 10 rfl) ?_
      refine lv_icmp_ge (tgt := 735) hx hb dL_asks_697 (by decide) (fun c150 => ?_) (fun c150 => ?_)
      · replace h := ite_t c150 h
        obtain ⟨rfl, rfl, rfl, rfl⟩ := ret4 h
        exact k1 rfl H locs ls hW (lv_sub hl [0, 1, 2, 3, 4, 5, 6, 7, 8, 9, 11] rfl)
      · replace h := ite_f c150 h
        refine lv_iload hx hb dL_asks_700 (lv_at hl 10 rfl) ?_
        refine lv_bipush (v := 64) hx hb dL_asks_702 (by decide) ?_
        refine lv_icmp_ge (tgt := 735) hx hb dL_asks_704 (by decide) (fun c151 => ?_) (fun c151 => ?_)
        · replace h := ite_t c151 h
          obtain ⟨rfl, rfl, rfl, rfl⟩ := ret4 h
          exact k1 rfl H locs ls hW (lv_sub hl [0, 1, 2, 3, 4, 5, 6, 7, 8, 9, 11] rfl)
        · replace h := ite_f c151 h
          refine lv_aload_n hx hb dL_asks_707 rfl (lv_at hl 0 rfl) ?_
          refine lv_iconst (v := 5) hx hb dL_asks_708 (by decide) ?_
          refine lv_iload hx hb dL_asks_709 (lv_at hl 9 rfl) ?_
          refine lv_iload hx hb dL_asks_711 (lv_at hl 12 rfl) ?_
          replace hW := hW.perm pf21
          replace hW := hW.perm pf21
          obtain ⟨r152, x_K153, q154, h⟩ := bnd2_s h
          obtain ⟨gN155, h⟩ := grd_s h
          have gN155 := of_decide_eq_true gN155
          refine cs_L_192 hx hb hml hown hts hK hN hE hC hA hW (c_L_two l hfl D T A ad hok (oA T 64 a_nw6 x_nw6_693 ++ (oA T 6 a_nw5 x_nw5_693 ++ (oA T 48 a_nw4 x_nw4_693 ++ (oA T 64 a_nw3 x_nw3_693 ++ (oA T 64 a_nw2 x_nw2_693 ++ (oA T 64 a_nw1 x_nw1_693 ++ (oA T 12 a_c x_c_693 ++ (oA T 24 a_w x_w ++ (oA T 2 a_u x_u ++ (oA T 6 a_x x_x ++ (oA T 6 a_l x_l_693 ++ (oA T 6 a_f x_f_693 ++ (oA T 12 a_v x_v_693 ++ (oA T 20 a_t x_t ++ (oA T 20 a_g x_g ++ (oA T 60 a_q x_q ++ (oA T 5 a_n x_n ++ (oA T 16 a_h x_h_693 ++ (oA T 30 a_p x_p ++ (oA T 6 a_k x_k ++ Z)))))))))))))))))))) x_K_693 5 v22_693 v26_693 r152 x_K153 q154) ⟨Nat.le_of_ble_eq_true rfl, Nat.le_of_ble_eq_true rfl⟩ hl.1 rfl (Nat.le_of_ble_eq_true rfl) dL_asks_713 (hfB gN155) rfl (fun H locs hW => ?_)
          replace hW := hW.perm pf1
          replace hW := hW.perm pf1
          replace hW := hW.perm pf21
          replace hW := hW.perm pf21
          replace hW := hW.perm pf21
          replace hW := hW.perm pf21
          replace hW := hW.perm pf21
          replace hW := hW.perm pf21
          replace hW := hW.perm pf21
          replace hW := hW.perm pf21
          replace hW := hW.perm pf21
          replace hW := hW.perm pf21
          replace hW := hW.perm pf21
          replace hW := hW.perm pf21
          replace hW := hW.perm pf21
          replace hW := hW.perm pf21
          replace hW := hW.perm pf21
          replace hW := hW.perm pf21
          replace hW := hW.perm pf21
          replace hW := hW.perm pf21
          replace hW := hW.perm pf21
          replace hW := hW.perm pf21
          refine lv_bipush (v := 100) hx hb dL_asks_716 (by decide) ?_
          refine lv_idiv hx hb dL_asks_718 (by decide) ?_
          refine lv_aload hx hb dL_asks_719 (lv_at hl 8 rfl) ?_
          refine lv_iload hx hb dL_asks_721 (lv_at hl 12 rfl) ?_
          obtain ⟨g156, h⟩ := grd_s h
          refine g_iald hx hb hK hW 0 rfl g156 dL_asks_723 ?_
          refine lv_icmp_eq (tgt := 729) hx hb dL_asks_724 (by decide) (fun c157 => ?_) (fun c157 => ?_)
          · replace h := ite_t c157 h
            obtain ⟨w26_158, ew26_158⟩ : ∃ y : Int32, y = v26_693 + 1 := ⟨_, rfl⟩
            replace h := lb_at ew26_158 h
            refine lv_iinc (v := w26_158) (lv' := [(26, .int w26_158), (0, .ref (ad 0 0)), (2, .ref a_c), (3, .ref a_w), (4, .ref a_u), (5, .ref a_x), (17, .ref a_nw2), (19, .ref a_nw4), (20, .ref a_nw5), (21, .ref a_nw6), (22, .int v22_693), (23, .int v23_693), (24, .int v24_693)]) hx hb dL_asks_729 hl (k := 12) rfl (by rw [ew26_158]; rfl) (by decide) rfl (fun ls hl => ?_)
            refine lv_goto (tgt := 693) hx hb dL_asks_732 (by decide) ?_
            exact ih _ _ _ _ _ _ _ _ _ _ _ _ _ _ _ _ _ gN155 H locs ls _ _ _ _ hW (lv_sub hl [1, 2, 3, 4, 5, 6, 7, 8, 9, 10, 11, 12, 0] rfl) h k1 k2
          · replace h := ite_f c157 h
            obtain ⟨rfl, rfl, rfl, rfl⟩ := ret4 h
            exact k2 rfl H locs ls hW (lv_sub hl [] rfl)
  have L769 : ∀ (n : Nat) (x_K_769 : Nat → Ob) (x_c_769 : Nat → Int32) (x_l_769 : Nat → Int32) (x_f_769 : Nat → Int32) (x_v_769 : Nat → Int32) (x_h_769 : Nat → Int32) (x_nw1_769 : Nat → Int32) (x_nw2_769 : Nat → Int32) (x_nw3_769 : Nat → Int32) (x_nw4_769 : Nat → Int32) (x_nw5_769 : Nat → Int32) (x_nw6_769 : Nat → Int32) (x_N_769 : Nat) (v22_769 : Int32) (v23_769 : Int32) (v26_769 : Int32) (hN_769 : x_N_769 ≤ 4750) (H : Heap) (locs : List Loc) (ls : Array Slot) (code : Nat) (o26_769r : Int32) (y_K_769r : Nat → Ob) (y_N_769r : Nat), Wd D A s.heap (oA T 64 a_nw6 x_nw6_769 ++ (oA T 6 a_nw5 x_nw5_769 ++ (oA T 48 a_nw4 x_nw4_769 ++ (oA T 64 a_nw3 x_nw3_769 ++ (oA T 64 a_nw2 x_nw2_769 ++ (oA T 64 a_nw1 x_nw1_769 ++ (oA T 12 a_c x_c_769 ++ (oA T 24 a_w x_w ++ (oA T 2 a_u x_u ++ (oA T 6 a_x x_x ++ (oA T 6 a_l x_l_769 ++ (oA T 6 a_f x_f_769 ++ (oA T 12 a_v x_v_769 ++ (oA T 20 a_t x_t ++ (oA T 20 a_g x_g ++ (oA T 60 a_q x_q ++ (oA T 5 a_n x_n ++ (oA T 16 a_h x_h_769 ++ (oA T 30 a_p x_p ++ (oA T 6 a_k x_k ++ (oc_X10 T (ad 0) (bb ad) (x_K_769 0) ++ (wkL T ad x_K_769 L18 ++ Z)))))))))))))))))))))) H locs → lv_has ls 30 [(0, .ref (ad 0 0)), (2, .ref a_c), (21, .ref a_nw6), (22, .int v22_769), (23, .int v23_769), (26, .int v26_769)] → f_L_asks_L769 n x_K_769 x_c_769 x_w x_u x_x x_l_769 x_f_769 x_v_769 x_t x_g x_q x_n x_h_769 x_p x_k x_nw1_769 x_nw2_769 x_nw3_769 x_nw4_769 x_nw5_769 x_nw6_769 x_N_769 v22_769 v23_769 v26_769 = some (code, o26_769r, y_K_769r, y_N_769r) → (code = 1 → ∀ (H : Heap) (locs : List Loc) (ls : Array Slot), Wd D A s.heap (oA T 64 a_nw6 x_nw6_769 ++ (oA T 6 a_nw5 x_nw5_769 ++ (oA T 48 a_nw4 x_nw4_769 ++ (oA T 64 a_nw3 x_nw3_769 ++ (oA T 64 a_nw2 x_nw2_769 ++ (oA T 64 a_nw1 x_nw1_769 ++ (oA T 12 a_c x_c_769 ++ (oA T 24 a_w x_w ++ (oA T 2 a_u x_u ++ (oA T 6 a_x x_x ++ (oA T 6 a_l x_l_769 ++ (oA T 6 a_f x_f_769 ++ (oA T 12 a_v x_v_769 ++ (oA T 20 a_t x_t ++ (oA T 20 a_g x_g ++ (oA T 60 a_q x_q ++ (oA T 5 a_n x_n ++ (oA T 16 a_h x_h_769 ++ (oA T 30 a_p x_p ++ (oA T 6 a_k x_k ++ (oc_X10 T (ad 0) (bb ad) (y_K_769r 0) ++ (wkL T ad y_K_769r L18 ++ Z)))))))))))))))))))))) H locs → lv_has ls 30 [(0, .ref (ad 0 0)), (2, .ref a_c), (22, .int v22_769), (23, .int v23_769)] → W p l e (rmL 13 4750) s m args below meth c H locs y_N_769r (16 * y_N_769r) Q (F0 m 802 ls [])) → (code = 2 → ∀ (H : Heap) (locs : List Loc) (ls : Array Slot), Wd D A s.heap (oA T 64 a_nw6 x_nw6_769 ++ (oA T 6 a_nw5 x_nw5_769 ++ (oA T 48 a_nw4 x_nw4_769 ++ (oA T 64 a_nw3 x_nw3_769 ++ (oA T 64 a_nw2 x_nw2_769 ++ (oA T 64 a_nw1 x_nw1_769 ++ (oA T 12 a_c x_c_769 ++ (oA T 24 a_w x_w ++ (oA T 2 a_u x_u ++ (oA T 6 a_x x_x ++ (oA T 6 a_l x_l_769 ++ (oA T 6 a_f x_f_769 ++ (oA T 12 a_v x_v_769 ++ (oA T 20 a_t x_t ++ (oA T 20 a_g x_g ++ (oA T 60 a_q x_q ++ (oA T 5 a_n x_n ++ (oA T 16 a_h x_h_769 ++ (oA T 30 a_p x_p ++ (oA T 6 a_k x_k ++ (oc_X10 T (ad 0) (bb ad) (y_K_769r 0) ++ (wkL T ad y_K_769r L18 ++ Z)))))))))))))))))))))) H locs → lv_has ls 30 [] → W p l e (rmL 13 4750) s m args below meth c H locs y_N_769r (16 * y_N_769r) Q (F0 m 794 ls [])) → W p l e (rmL 13 4750) s m args below meth c H locs x_N_769 (16 * x_N_769) Q (F0 m 769 ls []) := by
    intro n
    induction n with
    | zero =>
      intro x_K_769 x_c_769 x_l_769 x_f_769 x_v_769 x_h_769 x_nw1_769 x_nw2_769 x_nw3_769 x_nw4_769 x_nw5_769 x_nw6_769 x_N_769 v22_769 v23_769 v26_769 hN_769 H locs ls code o26_769r y_K_769r y_N_769r hW hl h k1 k2
      rw [f_L_asks_L769] at h
      cases h
    | succ n ih =>
      intro x_K_769 x_c_769 x_l_769 x_f_769 x_v_769 x_h_769 x_nw1_769 x_nw2_769 x_nw3_769 x_nw4_769 x_nw5_769 x_nw6_769 x_N_769 v22_769 v23_769 v26_769 hN_769 H locs ls code o26_769r y_K_769r y_N_769r hW hl h k1 k2
      rw [f_L_asks_L769] at h
      refine lv_iload hx hb dL_asks_769 (lv_at hl 5 rfl) ?_
      refine lv_iload hx hb dL_asks_771 (lv_at hl 4 rfl) ?_
      refine lv_icmp_ge (tgt := 802) hx hb dL_asks_773 (by decide) (fun c168 => ?_) (fun c168 => ?_)
      · replace h := ite_t c168 h
        obtain ⟨rfl, rfl, rfl, rfl⟩ := ret4 h
        exact k1 rfl H locs ls hW (lv_sub hl [0, 1, 3, 4] rfl)
      · replace h := ite_f c168 h
        refine lv_aload_n hx hb dL_asks_776 rfl (lv_at hl 0 rfl) ?_
        refine lv_bipush (v := 6) hx hb dL_asks_777 (by decide) ?_
        refine lv_iload hx hb dL_asks_779 (lv_at hl 3 rfl) ?_
        refine lv_iload hx hb dL_asks_781 (lv_at hl 5 rfl) ?_
        replace hW := hW.perm pf21
        replace hW := hW.perm pf21
        obtain ⟨r169, x_K170, q171, h⟩ := bnd2_s h
        obtain ⟨gN172, h⟩ := grd_s h
        have gN172 := of_decide_eq_true gN172
        refine cs_L_192 hx hb hml hown hts hK hN hE hC hA hW (c_L_two l hfl D T A ad hok (oA T 64 a_nw6 x_nw6_769 ++ (oA T 6 a_nw5 x_nw5_769 ++ (oA T 48 a_nw4 x_nw4_769 ++ (oA T 64 a_nw3 x_nw3_769 ++ (oA T 64 a_nw2 x_nw2_769 ++ (oA T 64 a_nw1 x_nw1_769 ++ (oA T 12 a_c x_c_769 ++ (oA T 24 a_w x_w ++ (oA T 2 a_u x_u ++ (oA T 6 a_x x_x ++ (oA T 6 a_l x_l_769 ++ (oA T 6 a_f x_f_769 ++ (oA T 12 a_v x_v_769 ++ (oA T 20 a_t x_t ++ (oA T 20 a_g x_g ++ (oA T 60 a_q x_q ++ (oA T 5 a_n x_n ++ (oA T 16 a_h x_h_769 ++ (oA T 30 a_p x_p ++ (oA T 6 a_k x_k ++ Z)))))))))))))))))))) x_K_769 6 v22_769 v26_769 r169 x_K170 q171) ⟨Nat.le_of_ble_eq_true rfl, Nat.le_of_ble_eq_true rfl⟩ hl.1 rfl (Nat.le_of_ble_eq_true rfl) dL_asks_783 (hfB gN172) rfl (fun H locs hW => ?_)
        replace hW := hW.perm pf1
        replace hW := hW.perm pf1
        replace hW := hW.perm pf21
        replace hW := hW.perm pf21
        replace hW := hW.perm pf21
        replace hW := hW.perm pf21
        replace hW := hW.perm pf21
        replace hW := hW.perm pf21
        replace hW := hW.perm pf21
        replace hW := hW.perm pf21
        replace hW := hW.perm pf21
        replace hW := hW.perm pf21
        replace hW := hW.perm pf21
        replace hW := hW.perm pf21
        replace hW := hW.perm pf21
        replace hW := hW.perm pf21
        replace hW := hW.perm pf21
        replace hW := hW.perm pf21
        replace hW := hW.perm pf21
        replace hW := hW.perm pf21
        replace hW := hW.perm pf21
        replace hW := hW.perm pf21
        refine lv_aload hx hb dL_asks_786 (lv_at hl 2 rfl) ?_
        refine lv_iload hx hb dL_asks_788 (lv_at hl 5 rfl) ?_
        obtain ⟨g173, h⟩ := grd_s h
        refine g_iald hx hb hK hW 0 rfl g173 dL_asks_790 ?_
        refine lv_icmp_eq (tgt := 796) hx hb dL_asks_791 (by decide) (fun c174 => ?_) (fun c174 => ?_)
        · replace h := ite_t c174 h
          obtain ⟨w26_175, ew26_175⟩ : ∃ y : Int32, y = v26_769 + 1 := ⟨_, rfl⟩
          replace h := lb_at ew26_175 h
          refine lv_iinc (v := w26_175) (lv' := [(26, .int w26_175), (0, .ref (ad 0 0)), (2, .ref a_c), (21, .ref a_nw6), (22, .int v22_769), (23, .int v23_769)]) hx hb dL_asks_796 hl (k := 5) rfl (by rw [ew26_175]; rfl) (by decide) rfl (fun ls hl => ?_)
          refine lv_goto (tgt := 769) hx hb dL_asks_799 (by decide) ?_
          exact ih _ _ _ _ _ _ _ _ _ _ _ _ _ _ _ _ gN172 H locs ls _ _ _ _ hW (lv_sub hl [1, 2, 3, 4, 5, 0] rfl) h k1 k2
        · replace h := ite_f c174 h
          obtain ⟨rfl, rfl, rfl, rfl⟩ := ret4 h
          exact k2 rfl H locs ls hW (lv_sub hl [] rfl)
  have J761 : ∀ (x_K_761 : Nat → Ob) (x_c_761 : Nat → Int32) (x_l_761 : Nat → Int32) (x_f_761 : Nat → Int32) (x_v_761 : Nat → Int32) (x_h_761 : Nat → Int32) (x_nw1_761 : Nat → Int32) (x_nw2_761 : Nat → Int32) (x_nw3_761 : Nat → Int32) (x_nw4_761 : Nat → Int32) (x_nw5_761 : Nat → Int32) (x_nw6_761 : Nat → Int32) (x_N_761 : Nat) (v22_761 : Int32) (s8_761 : Int32) (s9_761 : Int32) (hN_761 : x_N_761 ≤ 4750) (H : Heap) (locs : List Loc) (ls : Array Slot), Wd D A s.heap (oA T 64 a_nw6 x_nw6_761 ++ (oA T 6 a_nw5 x_nw5_761 ++ (oA T 48 a_nw4 x_nw4_761 ++ (oA T 64 a_nw3 x_nw3_761 ++ (oA T 64 a_nw2 x_nw2_761 ++ (oA T 64 a_nw1 x_nw1_761 ++ (oA T 12 a_c x_c_761 ++ (oA T 24 a_w x_w ++ (oA T 2 a_u x_u ++ (oA T 6 a_x x_x ++ (oA T 6 a_l x_l_761 ++ (oA T 6 a_f x_f_761 ++ (oA T 12 a_v x_v_761 ++ (oA T 20 a_t x_t ++ (oA T 20 a_g x_g ++ (oA T 60 a_q x_q ++ (oA T 5 a_n x_n ++ (oA T 16 a_h x_h_761 ++ (oA T 30 a_p x_p ++ (oA T 6 a_k x_k ++ (oc_X10 T (ad 0) (bb ad) (x_K_761 0) ++ (wkL T ad x_K_761 L18 ++ Z)))))))))))))))))))))) H locs → lv_has ls 30 [(0, .ref (ad 0 0)), (2, .ref a_c), (21, .ref a_nw6), (22, .int v22_761)] → f_L_asks_J761 x_K_761 x_c_761 x_w x_u x_x x_l_761 x_f_761 x_v_761 x_t x_g x_q x_n x_h_761 x_p x_k x_nw1_761 x_nw2_761 x_nw3_761 x_nw4_761 x_nw5_761 x_nw6_761 x_N_761 v22_761 s8_761 s9_761 = some (r, x_K9, x_c9, x_l9, x_f9, x_v9, x_h9) → W p l e (rmL 13 4750) s m args below meth c H locs x_N_761 (16 * x_N_761) Q (F0 m 761 ls [.int s9_761, .int s8_761, .ref a_nw6, .ref a_nw5, .ref a_nw4, .ref a_nw2, .ref a_x, .ref a_u, .ref a_w, .ref a_c]) := by
    intro x_K_761 x_c_761 x_l_761 x_f_761 x_v_761 x_h_761 x_nw1_761 x_nw2_761 x_nw3_761 x_nw4_761 x_nw5_761 x_nw6_761 x_N_761 v22_761 s8_761 s9_761 hN_761 H locs ls hW hl h
    rw [f_L_asks_J761] at h
    replace hW := hW.perm pf1
    replace hW := hW.perm pf2
    replace hW := hW.perm pf4
    replace hW := hW.perm pf9
    replace hW := hW.perm pf9
    replace hW := hW.perm pf9
    replace hW := hW.perm pf9
    obtain ⟨r164, x_nw6165, q166, h⟩ := bnd2_s h
    obtain ⟨gN167, h⟩ := grd_s h
    have gN167 := of_decide_eq_true gN167
    refine cs_L_232 hx hb hml hown hts hK hN hE hC hA hW (c_L_fragments l D T A a_c a_w a_u a_x a_nw2 a_nw4 a_nw5 a_nw6 (oA T 64 a_nw3 x_nw3_761 ++ (oA T 64 a_nw1 x_nw1_761 ++ (oA T 6 a_l x_l_761 ++ (oA T 6 a_f x_f_761 ++ (oA T 12 a_v x_v_761 ++ (oA T 20 a_t x_t ++ (oA T 20 a_g x_g ++ (oA T 60 a_q x_q ++ (oA T 5 a_n x_n ++ (oA T 16 a_h x_h_761 ++ (oA T 30 a_p x_p ++ (oA T 6 a_k x_k ++ (oc_X10 T (ad 0) (bb ad) (x_K_761 0) ++ (wkL T ad x_K_761 L18 ++ Z)))))))))))))) x_c_761 x_w x_u x_x x_nw2_761 x_nw4_761 x_nw5_761 x_nw6_761 s8_761 s9_761 r164 x_nw6165 q166) ⟨Nat.le_of_ble_eq_true rfl, Nat.le_of_ble_eq_true rfl⟩ hl.1 rfl (Nat.le_of_ble_eq_true rfl) dL_asks_761 (hfB gN167) rfl (fun H locs hW => ?_)
    replace hW := hW.perm pf21
    replace hW := hW.perm pf21
    replace hW := hW.perm pf21
    replace hW := hW.perm pf21
    replace hW := hW.perm pf21
    replace hW := hW.perm pf21
    replace hW := hW.perm pf21
    replace hW := hW.perm pf21
    replace hW := hW.perm pf21
    replace hW := hW.perm pf21
    replace hW := hW.perm pf21
    replace hW := hW.perm pf21
    replace hW := hW.perm pf15
    replace hW := hW.perm pf15
    replace hW := hW.perm pf15
    replace hW := hW.perm pf15
    replace hW := hW.perm pf21
    replace hW := hW.perm pf17
    replace hW := hW.perm pf21
    replace hW := hW.perm pf19
    replace hW := hW.perm pf20
    replace hW := hW.perm pf21
    refine lv_istore (lv' := [(23, .int r164), (0, .ref (ad 0 0)), (2, .ref a_c), (21, .ref a_nw6), (22, .int v22_761)]) hx hb dL_asks_764 hl (by decide) rfl (fun ls hl => ?_)
    refine lv_iconst (v := 0) hx hb dL_asks_766 (by decide) ?_
    refine lv_istore (lv' := [(26, .int 0), (23, .int r164), (0, .ref (ad 0 0)), (2, .ref a_c), (21, .ref a_nw6), (22, .int v22_761)]) hx hb dL_asks_767 hl (by decide) rfl (fun ls hl => ?_)
    obtain ⟨code177, o26_u176, y_K_u176, y_N_u176, q178, h⟩ := bnd4_s h
    obtain ⟨gN179, h⟩ := grd_s h
    have gN179 := of_decide_eq_true gN179
    refine L769 400 _ _ _ _ _ _ _ _ _ _ _ _ _ _ _ _ gN167 H locs ls code177 o26_u176 y_K_u176 y_N_u176 hW (lv_sub hl [2, 3, 4, 5, 1, 0] rfl) q178 (fun hc H locs ls hW hl => ?_) (fun hc H locs ls hW hl => ?_)
    · replace h := ite_t hc h
      refine lv_aload_n hx hb dL_asks_802 rfl (lv_at hl 0 rfl) ?_
      refine lv_iconst (v := 5) hx hb dL_asks_803 (by decide) ?_
      refine lv_iload hx hb dL_asks_804 (lv_at hl 2 rfl) ?_
      replace hW := hW.perm pf21
      replace hW := hW.perm pf21
      obtain ⟨r180, x_K181, q182, h⟩ := bnd2_s h
      obtain ⟨gN183, h⟩ := grd_s h
      have gN183 := of_decide_eq_true gN183
      refine cs_L_211 hx hb hml hown hts hK hN hE hC hA hW (c_L_one l hfl D T A ad hok (oA T 64 a_nw6 x_nw6165 ++ (oA T 6 a_nw5 x_nw5_761 ++ (oA T 48 a_nw4 x_nw4_761 ++ (oA T 64 a_nw3 x_nw3_761 ++ (oA T 64 a_nw2 x_nw2_761 ++ (oA T 64 a_nw1 x_nw1_761 ++ (oA T 12 a_c x_c_761 ++ (oA T 24 a_w x_w ++ (oA T 2 a_u x_u ++ (oA T 6 a_x x_x ++ (oA T 6 a_l x_l_761 ++ (oA T 6 a_f x_f_761 ++ (oA T 12 a_v x_v_761 ++ (oA T 20 a_t x_t ++ (oA T 20 a_g x_g ++ (oA T 60 a_q x_q ++ (oA T 5 a_n x_n ++ (oA T 16 a_h x_h_761 ++ (oA T 30 a_p x_p ++ (oA T 6 a_k x_k ++ Z)))))))))))))))))))) y_K_u176 5 v22_761 r180 x_K181 q182) ⟨Nat.le_of_ble_eq_true rfl, Nat.le_of_ble_eq_true rfl⟩ hl.1 rfl (Nat.le_of_ble_eq_true rfl) dL_asks_806 (hfB gN183) rfl (fun H locs hW => ?_)
      replace hW := hW.perm pf1
      replace hW := hW.perm pf1
      replace hW := hW.perm pf21
      replace hW := hW.perm pf21
      replace hW := hW.perm pf21
      replace hW := hW.perm pf21
      replace hW := hW.perm pf21
      replace hW := hW.perm pf21
      replace hW := hW.perm pf21
      replace hW := hW.perm pf21
      replace hW := hW.perm pf21
      replace hW := hW.perm pf21
      replace hW := hW.perm pf21
      replace hW := hW.perm pf21
      replace hW := hW.perm pf21
      replace hW := hW.perm pf21
      replace hW := hW.perm pf21
      replace hW := hW.perm pf21
      replace hW := hW.perm pf21
      replace hW := hW.perm pf21
      replace hW := hW.perm pf21
      replace hW := hW.perm pf21
      refine lv_iload hx hb dL_asks_809 (lv_at hl 3 rfl) ?_
      refine lv_icmp_ne (tgt := 868) hx hb dL_asks_811 (by decide) (fun c184 => ?_) (fun c184 => ?_)
      · replace h := ite_f c184 h
        refine lv_iconst (v := 0) hx hb dL_asks_868 (by decide) ?_
        obtain ⟨rfl, rfl, rfl, rfl, rfl, rfl, rfl⟩ := ret7 h
        rw [hQ]
        replace hW := hW.tl
        replace hW := hW.tl
        replace hW := hW.tl
        replace hW := hW.tl
        replace hW := hW.tl
        replace hW := hW.tl
        refine W.widen (k := 4750) (n := (16 * 4750)) gN183 (Nat.mul_le_mul_left 16 gN183) ?_
        exact g_retz hx hb hr hlk hW (by decide) dL_asks_869
      · replace h := ite_t c184 h
        refine lv_aload_n hx hb dL_asks_814 rfl (lv_at hl 0 rfl) ?_
        refine lv_bipush (v := 6) hx hb dL_asks_815 (by decide) ?_
        refine lv_iload hx hb dL_asks_817 (lv_at hl 2 rfl) ?_
        refine lv_iload hx hb dL_asks_819 (lv_at hl 3 rfl) ?_
        replace hW := hW.perm pf21
        replace hW := hW.perm pf21
        obtain ⟨r185, x_K186, q187, h⟩ := bnd2_s h
        obtain ⟨gN188, h⟩ := grd_s h
        have gN188 := of_decide_eq_true gN188
        refine cs_L_192 hx hb hml hown hts hK hN hE hC hA hW (c_L_two l hfl D T A ad hok (oA T 64 a_nw6 x_nw6165 ++ (oA T 6 a_nw5 x_nw5_761 ++ (oA T 48 a_nw4 x_nw4_761 ++ (oA T 64 a_nw3 x_nw3_761 ++ (oA T 64 a_nw2 x_nw2_761 ++ (oA T 64 a_nw1 x_nw1_761 ++ (oA T 12 a_c x_c_761 ++ (oA T 24 a_w x_w ++ (oA T 2 a_u x_u ++ (oA T 6 a_x x_x ++ (oA T 6 a_l x_l_761 ++ (oA T 6 a_f x_f_761 ++ (oA T 12 a_v x_v_761 ++ (oA T 20 a_t x_t ++ (oA T 20 a_g x_g ++ (oA T 60 a_q x_q ++ (oA T 5 a_n x_n ++ (oA T 16 a_h x_h_761 ++ (oA T 30 a_p x_p ++ (oA T 6 a_k x_k ++ Z)))))))))))))))))))) x_K181 6 v22_761 r164 r185 x_K186 q187) ⟨Nat.le_of_ble_eq_true rfl, Nat.le_of_ble_eq_true rfl⟩ hl.1 rfl (Nat.le_of_ble_eq_true rfl) dL_asks_821 (hfB gN188) rfl (fun H locs hW => ?_)
        replace hW := hW.perm pf1
        replace hW := hW.perm pf1
        replace hW := hW.perm pf21
        replace hW := hW.perm pf21
        replace hW := hW.perm pf21
        replace hW := hW.perm pf21
        replace hW := hW.perm pf21
        replace hW := hW.perm pf21
        replace hW := hW.perm pf21
        replace hW := hW.perm pf21
        replace hW := hW.perm pf21
        replace hW := hW.perm pf21
        replace hW := hW.perm pf21
        replace hW := hW.perm pf21
        replace hW := hW.perm pf21
        replace hW := hW.perm pf21
        replace hW := hW.perm pf21
        replace hW := hW.perm pf21
        replace hW := hW.perm pf21
        replace hW := hW.perm pf21
        replace hW := hW.perm pf21
        replace hW := hW.perm pf21
        refine lv_sipush (v := (-1001)) hx hb dL_asks_824 (by decide) ?_
        refine lv_icmp_ne (tgt := 868) hx hb dL_asks_827 (by decide) (fun c189 => ?_) (fun c189 => ?_)
        · replace h := ite_f c189 h
          refine lv_iconst (v := 0) hx hb dL_asks_868 (by decide) ?_
          obtain ⟨rfl, rfl, rfl, rfl, rfl, rfl, rfl⟩ := ret7 h
          rw [hQ]
          replace hW := hW.tl
          replace hW := hW.tl
          replace hW := hW.tl
          replace hW := hW.tl
          replace hW := hW.tl
          replace hW := hW.tl
          refine W.widen (k := 4750) (n := (16 * 4750)) gN188 (Nat.mul_le_mul_left 16 gN188) ?_
          exact g_retz hx hb hr hlk hW (by decide) dL_asks_869
        · replace h := ite_t c189 h
          refine lv_aload_n hx hb dL_asks_830 rfl (lv_at hl 0 rfl) ?_
          replace hW := hW.perm pf21
          replace hW := hW.perm pf21
          obtain ⟨r190, q191, h⟩ := bnd1_s h
          refine g_cvi (As := []) hx hb hml hown hts hK hN hW (g_cw (n := 0) hts wm38_7 wm38_8 wm38_9 wm1_2 wm38_10 ⟨rfl, by decide +kernel, by decide +kernel, by decide +kernel⟩ ⟨rfl, rfl⟩ ⟨Nat.le_of_ble_eq_true rfl, Nat.le_of_ble_eq_true rfl⟩) ⟨10, (RX10, TX10, 13), _, rfl, rfl, rfl⟩ (c_X10_reads l D T A ad hok (oA T 64 a_nw6 x_nw6165 ++ (oA T 6 a_nw5 x_nw5_761 ++ (oA T 48 a_nw4 x_nw4_761 ++ (oA T 64 a_nw3 x_nw3_761 ++ (oA T 64 a_nw2 x_nw2_761 ++ (oA T 64 a_nw1 x_nw1_761 ++ (oA T 12 a_c x_c_761 ++ (oA T 24 a_w x_w ++ (oA T 2 a_u x_u ++ (oA T 6 a_x x_x ++ (oA T 6 a_l x_l_761 ++ (oA T 6 a_f x_f_761 ++ (oA T 12 a_v x_v_761 ++ (oA T 20 a_t x_t ++ (oA T 20 a_g x_g ++ (oA T 60 a_q x_q ++ (oA T 5 a_n x_n ++ (oA T 16 a_h x_h_761 ++ (oA T 30 a_p x_p ++ (oA T 6 a_k x_k ++ Z)))))))))))))))))))) x_K186 r190 q191) rfl hl.1 rfl (Nat.le_of_ble_eq_true rfl) dL_asks_831 (hf0 gN188) (fun H locs hW => ?_)
          replace hW := hW.perm pf1
          replace hW := hW.perm pf1
          replace hW := hW.perm pf21
          replace hW := hW.perm pf21
          replace hW := hW.perm pf21
          replace hW := hW.perm pf21
          replace hW := hW.perm pf21
          replace hW := hW.perm pf21
          replace hW := hW.perm pf21
          replace hW := hW.perm pf21
          replace hW := hW.perm pf21
          replace hW := hW.perm pf21
          replace hW := hW.perm pf21
          replace hW := hW.perm pf21
          replace hW := hW.perm pf21
          replace hW := hW.perm pf21
          replace hW := hW.perm pf21
          replace hW := hW.perm pf21
          replace hW := hW.perm pf21
          replace hW := hW.perm pf21
          replace hW := hW.perm pf21
          replace hW := hW.perm pf21
          refine lv_aload_n hx hb dL_asks_834 rfl (lv_at hl 1 rfl) ?_
          refine lv_iconst (v := 5) hx hb dL_asks_835 (by decide) ?_
          refine g_iald hx hb hK hW 6 rfl (by decide) dL_asks_836 ?_
          refine lv_icmp_ne (tgt := 868) hx hb dL_asks_837 (by decide) (fun c192 => ?_) (fun c192 => ?_)
          · replace h := ite_f c192 h
            refine lv_iconst (v := 0) hx hb dL_asks_868 (by decide) ?_
            obtain ⟨rfl, rfl, rfl, rfl, rfl, rfl, rfl⟩ := ret7 h
            rw [hQ]
            replace hW := hW.tl
            replace hW := hW.tl
            replace hW := hW.tl
            replace hW := hW.tl
            replace hW := hW.tl
            replace hW := hW.tl
            refine W.widen (k := 4750) (n := (16 * 4750)) gN188 (Nat.mul_le_mul_left 16 gN188) ?_
            exact g_retz hx hb hr hlk hW (by decide) dL_asks_869
          · replace h := ite_t c192 h
            refine lv_aload_n hx hb dL_asks_840 rfl (lv_at hl 0 rfl) ?_
            refine lv_iconst (v := 1) hx hb dL_asks_841 (by decide) ?_
            refine lv_iload hx hb dL_asks_842 (lv_at hl 2 rfl) ?_
            refine lv_iconst (v := 0) hx hb dL_asks_844 (by decide) ?_
            refine lv_aload_n hx hb dL_asks_845 rfl (lv_at hl 1 rfl) ?_
            refine lv_bipush (v := 8) hx hb dL_asks_846 (by decide) ?_
            refine lv_iload hx hb dL_asks_848 (lv_at hl 2 rfl) ?_
            refine lv_iadd hx hb dL_asks_850 ?_
            obtain ⟨g193, h⟩ := grd_s h
            refine g_iald hx hb hK hW 6 rfl g193 dL_asks_851 ?_
            refine lv_iconst (v := 1) hx hb dL_asks_852 (by decide) ?_
            refine lv_iadd hx hb dL_asks_853 ?_
            refine lv_iconst (v := 0) hx hb dL_asks_854 (by decide) ?_
            replace hW := hW.perm pf21
            replace hW := hW.perm pf21
            obtain ⟨r194, x_K195, q196, h⟩ := bnd2_s h
            obtain ⟨gN197, h⟩ := grd_s h
            have gN197 := of_decide_eq_true gN197
            refine cs_L_196 hx hb hml hown hts hK hN hE hC hA hW (c_L_more l hfl D T A ad hok (oA T 64 a_nw6 x_nw6165 ++ (oA T 6 a_nw5 x_nw5_761 ++ (oA T 48 a_nw4 x_nw4_761 ++ (oA T 64 a_nw3 x_nw3_761 ++ (oA T 64 a_nw2 x_nw2_761 ++ (oA T 64 a_nw1 x_nw1_761 ++ (oA T 12 a_c x_c_761 ++ (oA T 24 a_w x_w ++ (oA T 2 a_u x_u ++ (oA T 6 a_x x_x ++ (oA T 6 a_l x_l_761 ++ (oA T 6 a_f x_f_761 ++ (oA T 12 a_v x_v_761 ++ (oA T 20 a_t x_t ++ (oA T 20 a_g x_g ++ (oA T 60 a_q x_q ++ (oA T 5 a_n x_n ++ (oA T 16 a_h x_h_761 ++ (oA T 30 a_p x_p ++ (oA T 6 a_k x_k ++ Z)))))))))))))))))))) x_K186 1 v22_761 0 ((x_c_761 (8 + v22_761).toNatClampNeg) + 1) 0 r194 x_K195 q196) ⟨Nat.le_of_ble_eq_true rfl, Nat.le_of_ble_eq_true rfl⟩ hl.1 rfl (Nat.le_of_ble_eq_true rfl) dL_asks_855 (hfB gN197) rfl (fun H locs hW => ?_)
            replace hW := hW.perm pf1
            replace hW := hW.perm pf1
            replace hW := hW.perm pf21
            replace hW := hW.perm pf21
            replace hW := hW.perm pf21
            replace hW := hW.perm pf21
            replace hW := hW.perm pf21
            replace hW := hW.perm pf21
            replace hW := hW.perm pf21
            replace hW := hW.perm pf21
            replace hW := hW.perm pf21
            replace hW := hW.perm pf21
            replace hW := hW.perm pf21
            replace hW := hW.perm pf21
            replace hW := hW.perm pf21
            replace hW := hW.perm pf21
            replace hW := hW.perm pf21
            replace hW := hW.perm pf21
            replace hW := hW.perm pf21
            replace hW := hW.perm pf21
            replace hW := hW.perm pf21
            replace hW := hW.perm pf21
            refine lv_sipush (v := (-1001)) hx hb dL_asks_858 (by decide) ?_
            refine lv_icmp_ne (tgt := 868) hx hb dL_asks_861 (by decide) (fun c198 => ?_) (fun c198 => ?_)
            · replace h := ite_f c198 h
              refine lv_iconst (v := 0) hx hb dL_asks_868 (by decide) ?_
              obtain ⟨rfl, rfl, rfl, rfl, rfl, rfl, rfl⟩ := ret7 h
              rw [hQ]
              replace hW := hW.tl
              replace hW := hW.tl
              replace hW := hW.tl
              replace hW := hW.tl
              replace hW := hW.tl
              replace hW := hW.tl
              refine W.widen (k := 4750) (n := (16 * 4750)) gN197 (Nat.mul_le_mul_left 16 gN197) ?_
              exact g_retz hx hb hr hlk hW (by decide) dL_asks_869
            · replace h := ite_t c198 h
              refine lv_iconst (v := 1) hx hb dL_asks_864 (by decide) ?_
              refine lv_goto (tgt := 869) hx hb dL_asks_865 (by decide) ?_
              obtain ⟨rfl, rfl, rfl, rfl, rfl, rfl, rfl⟩ := ret7 h
              rw [hQ]
              replace hW := hW.tl
              replace hW := hW.tl
              replace hW := hW.tl
              replace hW := hW.tl
              replace hW := hW.tl
              replace hW := hW.tl
              refine W.widen (k := 4750) (n := (16 * 4750)) gN197 (Nat.mul_le_mul_left 16 gN197) ?_
              exact g_retz hx hb hr hlk hW (by decide) dL_asks_869
    · replace h := ite_f (by rw [hc]; decide) h
      refine lv_iconst (v := 0) hx hb dL_asks_794 (by decide) ?_
      obtain ⟨rfl, rfl, rfl, rfl, rfl, rfl, rfl⟩ := ret7 h
      rw [hQ]
      replace hW := hW.tl
      replace hW := hW.tl
      replace hW := hW.tl
      replace hW := hW.tl
      replace hW := hW.tl
      replace hW := hW.tl
      refine W.widen (k := 4750) (n := (16 * 4750)) gN179 (Nat.mul_le_mul_left 16 gN179) ?_
      exact g_retz hx hb hr hlk hW (by decide) dL_asks_795
  have J690 : ∀ (x_K_690 : Nat → Ob) (x_c_690 : Nat → Int32) (x_l_690 : Nat → Int32) (x_f_690 : Nat → Int32) (x_v_690 : Nat → Int32) (x_h_690 : Nat → Int32) (x_nw1_690 : Nat → Int32) (x_nw2_690 : Nat → Int32) (x_nw3_690 : Nat → Int32) (x_nw4_690 : Nat → Int32) (x_nw5_690 : Nat → Int32) (x_nw6_690 : Nat → Int32) (x_N_690 : Nat) (v22_690 : Int32) (v23_690 : Int32) (v24_690 : Int32) (hN_690 : x_N_690 ≤ 4750) (H : Heap) (locs : List Loc) (ls : Array Slot), Wd D A s.heap (oA T 64 a_nw6 x_nw6_690 ++ (oA T 6 a_nw5 x_nw5_690 ++ (oA T 48 a_nw4 x_nw4_690 ++ (oA T 64 a_nw3 x_nw3_690 ++ (oA T 64 a_nw2 x_nw2_690 ++ (oA T 64 a_nw1 x_nw1_690 ++ (oA T 12 a_c x_c_690 ++ (oA T 24 a_w x_w ++ (oA T 2 a_u x_u ++ (oA T 6 a_x x_x ++ (oA T 6 a_l x_l_690 ++ (oA T 6 a_f x_f_690 ++ (oA T 12 a_v x_v_690 ++ (oA T 20 a_t x_t ++ (oA T 20 a_g x_g ++ (oA T 60 a_q x_q ++ (oA T 5 a_n x_n ++ (oA T 16 a_h x_h_690 ++ (oA T 30 a_p x_p ++ (oA T 6 a_k x_k ++ (oc_X10 T (ad 0) (bb ad) (x_K_690 0) ++ (wkL T ad x_K_690 L18 ++ Z)))))))))))))))))))))) H locs → lv_has ls 30 [(0, .ref (ad 0 0)), (2, .ref a_c), (3, .ref a_w), (4, .ref a_u), (5, .ref a_x), (17, .ref a_nw2), (19, .ref a_nw4), (20, .ref a_nw5), (21, .ref a_nw6), (22, .int v22_690), (23, .int v23_690), (24, .int v24_690)] → f_L_asks_J690 x_K_690 x_c_690 x_w x_u x_x x_l_690 x_f_690 x_v_690 x_t x_g x_q x_n x_h_690 x_p x_k x_nw1_690 x_nw2_690 x_nw3_690 x_nw4_690 x_nw5_690 x_nw6_690 x_N_690 v22_690 v23_690 v24_690 = some (r, x_K9, x_c9, x_l9, x_f9, x_v9, x_h9) → W p l e (rmL 13 4750) s m args below meth c H locs x_N_690 (16 * x_N_690) Q (F0 m 690 ls []) := by
    intro x_K_690 x_c_690 x_l_690 x_f_690 x_v_690 x_h_690 x_nw1_690 x_nw2_690 x_nw3_690 x_nw4_690 x_nw5_690 x_nw6_690 x_N_690 v22_690 v23_690 v24_690 hN_690 H locs ls hW hl h
    rw [f_L_asks_J690] at h
    refine lv_iconst (v := 0) hx hb dL_asks_690 (by decide) ?_
    refine lv_istore (lv' := [(26, .int 0), (0, .ref (ad 0 0)), (2, .ref a_c), (3, .ref a_w), (4, .ref a_u), (5, .ref a_x), (17, .ref a_nw2), (19, .ref a_nw4), (20, .ref a_nw5), (21, .ref a_nw6), (22, .int v22_690), (23, .int v23_690), (24, .int v24_690)]) hx hb dL_asks_691 hl (by decide) rfl (fun ls hl => ?_)
    obtain ⟨code160, o26_u159, y_K_u159, y_N_u159, q161, h⟩ := bnd4_s h
    obtain ⟨gN162, h⟩ := grd_s h
    have gN162 := of_decide_eq_true gN162
    refine L693 400 _ _ _ _ _ _ _ _ _ _ _ _ _ _ _ _ _ hN_690 H locs ls code160 o26_u159 y_K_u159 y_N_u159 hW (lv_sub hl [1, 2, 3, 4, 5, 6, 7, 8, 9, 10, 11, 12, 0] rfl) q161 (fun hc H locs ls hW hl => ?_) (fun hc H locs ls hW hl => ?_)
    · replace h := ite_t hc h
      refine lv_aload_n hx hb dL_asks_735 rfl (lv_at hl 1 rfl) ?_
      refine lv_aload_n hx hb dL_asks_736 rfl (lv_at hl 2 rfl) ?_
      refine lv_aload hx hb dL_asks_737 (lv_at hl 3 rfl) ?_
      refine lv_aload hx hb dL_asks_739 (lv_at hl 4 rfl) ?_
      refine lv_aload hx hb dL_asks_741 (lv_at hl 5 rfl) ?_
      refine lv_aload hx hb dL_asks_743 (lv_at hl 6 rfl) ?_
      refine lv_aload hx hb dL_asks_745 (lv_at hl 7 rfl) ?_
      refine lv_aload hx hb dL_asks_747 (lv_at hl 8 rfl) ?_
      refine lv_iload hx hb dL_asks_749 (lv_at hl 9 rfl) ?_
      refine lv_iload hx hb dL_asks_751 (lv_at hl 10 rfl) ?_
      refine lv_if_lt (tgt := 760) hx hb dL_asks_753 (by decide) (fun c163 => ?_) (fun c163 => ?_)
      · replace h := ite_t c163 h
        refine lv_iconst (v := 0) hx hb dL_asks_760 (by decide) ?_
        exact J761 _ _ _ _ _ _ _ _ _ _ _ _ _ _ _ _ gN162 H locs ls hW (lv_sub hl [0, 1, 8, 9] rfl) h
      · replace h := ite_f c163 h
        refine lv_iconst (v := 1) hx hb dL_asks_756 (by decide) ?_
        refine lv_goto (tgt := 761) hx hb dL_asks_757 (by decide) ?_
        exact J761 _ _ _ _ _ _ _ _ _ _ _ _ _ _ _ _ gN162 H locs ls hW (lv_sub hl [0, 1, 8, 9] rfl) h
    · replace h := ite_f (by rw [hc]; decide) h
      refine lv_iconst (v := 0) hx hb dL_asks_727 (by decide) ?_
      obtain ⟨rfl, rfl, rfl, rfl, rfl, rfl, rfl⟩ := ret7 h
      rw [hQ]
      replace hW := hW.tl
      replace hW := hW.tl
      replace hW := hW.tl
      replace hW := hW.tl
      replace hW := hW.tl
      replace hW := hW.tl
      refine W.widen (k := 4750) (n := (16 * 4750)) gN162 (Nat.mul_le_mul_left 16 gN162) ?_
      exact g_retz hx hb hr hlk hW (by decide) dL_asks_728
  have J425 : ∀ (x_K_425 : Nat → Ob) (x_c_425 : Nat → Int32) (x_l_425 : Nat → Int32) (x_f_425 : Nat → Int32) (x_v_425 : Nat → Int32) (x_h_425 : Nat → Int32) (x_nw1_425 : Nat → Int32) (x_nw2_425 : Nat → Int32) (x_nw3_425 : Nat → Int32) (x_nw4_425 : Nat → Int32) (x_nw5_425 : Nat → Int32) (x_nw6_425 : Nat → Int32) (x_N_425 : Nat) (v22_425 : Int32) (v24_425 : Int32) (hN_425 : x_N_425 ≤ 4750) (H : Heap) (locs : List Loc) (ls : Array Slot), Wd D A s.heap (oA T 64 a_nw6 x_nw6_425 ++ (oA T 6 a_nw5 x_nw5_425 ++ (oA T 48 a_nw4 x_nw4_425 ++ (oA T 64 a_nw3 x_nw3_425 ++ (oA T 64 a_nw2 x_nw2_425 ++ (oA T 64 a_nw1 x_nw1_425 ++ (oA T 12 a_c x_c_425 ++ (oA T 24 a_w x_w ++ (oA T 2 a_u x_u ++ (oA T 6 a_x x_x ++ (oA T 6 a_l x_l_425 ++ (oA T 6 a_f x_f_425 ++ (oA T 12 a_v x_v_425 ++ (oA T 20 a_t x_t ++ (oA T 20 a_g x_g ++ (oA T 60 a_q x_q ++ (oA T 5 a_n x_n ++ (oA T 16 a_h x_h_425 ++ (oA T 30 a_p x_p ++ (oA T 6 a_k x_k ++ (oc_X10 T (ad 0) (bb ad) (x_K_425 0) ++ (wkL T ad x_K_425 L18 ++ Z)))))))))))))))))))))) H locs → lv_has ls 30 [(0, .ref (ad 0 0)), (2, .ref a_c), (3, .ref a_w), (4, .ref a_u), (5, .ref a_x), (10, .ref a_g), (11, .ref a_q), (12, .ref a_n), (16, .ref a_nw1), (17, .ref a_nw2), (18, .ref a_nw3), (19, .ref a_nw4), (20, .ref a_nw5), (21, .ref a_nw6), (22, .int v22_425), (24, .int v24_425)] → f_L_asks_J425 x_K_425 x_c_425 x_w x_u x_x x_l_425 x_f_425 x_v_425 x_t x_g x_q x_n x_h_425 x_p x_k x_nw1_425 x_nw2_425 x_nw3_425 x_nw4_425 x_nw5_425 x_nw6_425 x_N_425 v22_425 v24_425 = some (r, x_K9, x_c9, x_l9, x_f9, x_v9, x_h9) → W p l e (rmL 13 4750) s m args below meth c H locs x_N_425 (16 * x_N_425) Q (F0 m 425 ls []) := by
    intro x_K_425 x_c_425 x_l_425 x_f_425 x_v_425 x_h_425 x_nw1_425 x_nw2_425 x_nw3_425 x_nw4_425 x_nw5_425 x_nw6_425 x_N_425 v22_425 v24_425 hN_425 H locs ls hW hl h
    rw [f_L_asks_J425] at h
    refine lv_aload_n hx hb dL_asks_425 rfl (lv_at hl 1 rfl) ?_
    refine lv_bipush (v := 7) hx hb dL_asks_426 (by decide) ?_
    refine g_iald hx hb hK hW 6 rfl (by decide) dL_asks_428 ?_
    refine lv_iconst (v := 1) hx hb dL_asks_429 (by decide) ?_
    refine lv_icmp_ne (tgt := 435) hx hb dL_asks_430 (by decide) (fun c91 => ?_) (fun c91 => ?_)
    · replace h := ite_f c91 h
      refine lv_iconst (v := 1) hx hb dL_asks_435 (by decide) ?_
      refine lv_istore (lv' := [(26, .int 1), (0, .ref (ad 0 0)), (2, .ref a_c), (3, .ref a_w), (4, .ref a_u), (5, .ref a_x), (10, .ref a_g), (11, .ref a_q), (12, .ref a_n), (16, .ref a_nw1), (17, .ref a_nw2), (18, .ref a_nw3), (19, .ref a_nw4), (20, .ref a_nw5), (21, .ref a_nw6), (22, .int v22_425), (24, .int v24_425)]) hx hb dL_asks_436 hl (by decide) rfl (fun ls hl => ?_)
      obtain ⟨code142, o26_u141, y_K_u141, y_N_u141, q143, h⟩ := bnd4_s h
      obtain ⟨gN144, h⟩ := grd_s h
      have gN144 := of_decide_eq_true gN144
      refine L438 400 _ _ _ _ _ _ _ _ _ _ _ _ _ _ _ _ hN_425 H locs ls code142 o26_u141 y_K_u141 y_N_u141 hW (lv_sub hl [1, 2, 3, 4, 5, 6, 7, 8, 9, 10, 11, 12, 13, 14, 15, 16, 0] rfl) q143 (fun hc H locs ls hW hl => ?_) (fun hc H locs ls hW hl => ?_)
      · replace h := ite_t hc h
        refine lv_aload hx hb dL_asks_633 (lv_at hl 5 rfl) ?_
        refine lv_aload hx hb dL_asks_635 (lv_at hl 6 rfl) ?_
        refine lv_aload hx hb dL_asks_637 (lv_at hl 7 rfl) ?_
        refine lv_aload hx hb dL_asks_639 (lv_at hl 8 rfl) ?_
        refine lv_aload hx hb dL_asks_641 (lv_at hl 9 rfl) ?_
        refine lv_aload hx hb dL_asks_643 (lv_at hl 10 rfl) ?_
        refine lv_aload hx hb dL_asks_645 (lv_at hl 13 rfl) ?_
        refine lv_iload hx hb dL_asks_647 (lv_at hl 15 rfl) ?_
        replace hW := hW.perm pf3
        replace hW := hW.perm pf4
        replace hW := hW.perm pf5
        replace hW := hW.perm pf16
        replace hW := hW.perm pf16
        replace hW := hW.perm pf16
        obtain ⟨r145, x_nw6146, q147, h⟩ := bnd2_s h
        obtain ⟨gN148, h⟩ := grd_s h
        have gN148 := of_decide_eq_true gN148
        refine cs_L_229 hx hb hml hown hts hK hN hE hC hA hW (c_L_faults l D T A a_g a_q a_n a_nw1 a_nw2 a_nw3 a_nw6 (oA T 6 a_nw5 x_nw5_425 ++ (oA T 48 a_nw4 x_nw4_425 ++ (oA T 12 a_c x_c_425 ++ (oA T 24 a_w x_w ++ (oA T 2 a_u x_u ++ (oA T 6 a_x x_x ++ (oA T 6 a_l x_l_425 ++ (oA T 6 a_f x_f_425 ++ (oA T 12 a_v x_v_425 ++ (oA T 20 a_t x_t ++ (oA T 16 a_h x_h_425 ++ (oA T 30 a_p x_p ++ (oA T 6 a_k x_k ++ (oc_X10 T (ad 0) (bb ad) (y_K_u141 0) ++ (wkL T ad y_K_u141 L18 ++ Z))))))))))))))) x_g x_q x_n x_nw1_425 x_nw2_425 x_nw3_425 x_nw6_425 v24_425 r145 x_nw6146 q147) ⟨Nat.le_of_ble_eq_true rfl, Nat.le_of_ble_eq_true rfl⟩ hl.1 rfl (Nat.le_of_ble_eq_true rfl) dL_asks_649 (hfB gN148) rfl (fun H locs hW => ?_)
        replace hW := hW.perm pf21
        replace hW := hW.perm pf21
        replace hW := hW.perm pf21
        replace hW := hW.perm pf21
        replace hW := hW.perm pf21
        replace hW := hW.perm pf7
        replace hW := hW.perm pf7
        replace hW := hW.perm pf7
        replace hW := hW.perm pf21
        replace hW := hW.perm pf21
        replace hW := hW.perm pf21
        replace hW := hW.perm pf21
        replace hW := hW.perm pf21
        replace hW := hW.perm pf21
        replace hW := hW.perm pf21
        replace hW := hW.perm pf21
        replace hW := hW.perm pf16
        replace hW := hW.perm pf17
        replace hW := hW.perm pf18
        replace hW := hW.perm pf21
        replace hW := hW.perm pf21
        replace hW := hW.perm pf21
        refine lv_istore (lv' := [(23, .int r145), (0, .ref (ad 0 0)), (2, .ref a_c), (3, .ref a_w), (4, .ref a_u), (5, .ref a_x), (10, .ref a_g), (11, .ref a_q), (12, .ref a_n), (16, .ref a_nw1), (17, .ref a_nw2), (18, .ref a_nw3), (19, .ref a_nw4), (20, .ref a_nw5), (21, .ref a_nw6), (22, .int v22_425), (24, .int v24_425)]) hx hb dL_asks_652 hl (by decide) rfl (fun ls hl => ?_)
        refine lv_iload hx hb dL_asks_654 (lv_at hl 0 rfl) ?_
        refine lv_bipush (v := 64) hx hb dL_asks_656 (by decide) ?_
        refine lv_icmp_ge (tgt := 690) hx hb dL_asks_658 (by decide) (fun c149 => ?_) (fun c149 => ?_)
        · replace h := ite_t c149 h
          exact J690 _ _ _ _ _ _ _ _ _ _ _ _ _ _ _ _ gN148 H locs ls hW (lv_sub hl [1, 2, 3, 4, 5, 10, 12, 13, 14, 15, 0, 16] rfl) h
        · replace h := ite_f c149 h
          refine lv_aload_n hx hb dL_asks_661 rfl (lv_at hl 1 rfl) ?_
          refine lv_iconst (v := 4) hx hb dL_asks_662 (by decide) ?_
          refine lv_iload hx hb dL_asks_663 (lv_at hl 15 rfl) ?_
          replace hW := hW.perm pf21
          replace hW := hW.perm pf21
          obtain ⟨r199, x_K200, q201, h⟩ := bnd2_s h
          obtain ⟨gN202, h⟩ := grd_s h
          have gN202 := of_decide_eq_true gN202
          refine cs_L_211 hx hb hml hown hts hK hN hE hC hA hW (c_L_one l hfl D T A ad hok (oA T 64 a_nw6 x_nw6146 ++ (oA T 6 a_nw5 x_nw5_425 ++ (oA T 48 a_nw4 x_nw4_425 ++ (oA T 64 a_nw3 x_nw3_425 ++ (oA T 64 a_nw2 x_nw2_425 ++ (oA T 64 a_nw1 x_nw1_425 ++ (oA T 12 a_c x_c_425 ++ (oA T 24 a_w x_w ++ (oA T 2 a_u x_u ++ (oA T 6 a_x x_x ++ (oA T 6 a_l x_l_425 ++ (oA T 6 a_f x_f_425 ++ (oA T 12 a_v x_v_425 ++ (oA T 20 a_t x_t ++ (oA T 20 a_g x_g ++ (oA T 60 a_q x_q ++ (oA T 5 a_n x_n ++ (oA T 16 a_h x_h_425 ++ (oA T 30 a_p x_p ++ (oA T 6 a_k x_k ++ Z)))))))))))))))))))) y_K_u141 4 v22_425 r199 x_K200 q201) ⟨Nat.le_of_ble_eq_true rfl, Nat.le_of_ble_eq_true rfl⟩ hl.1 rfl (Nat.le_of_ble_eq_true rfl) dL_asks_665 (hfB gN202) rfl (fun H locs hW => ?_)
          replace hW := hW.perm pf1
          replace hW := hW.perm pf1
          replace hW := hW.perm pf21
          replace hW := hW.perm pf21
          replace hW := hW.perm pf21
          replace hW := hW.perm pf21
          replace hW := hW.perm pf21
          replace hW := hW.perm pf21
          replace hW := hW.perm pf21
          replace hW := hW.perm pf21
          replace hW := hW.perm pf21
          replace hW := hW.perm pf21
          replace hW := hW.perm pf21
          replace hW := hW.perm pf21
          replace hW := hW.perm pf21
          replace hW := hW.perm pf21
          replace hW := hW.perm pf21
          replace hW := hW.perm pf21
          replace hW := hW.perm pf21
          replace hW := hW.perm pf21
          replace hW := hW.perm pf21
          replace hW := hW.perm pf21
          refine lv_iload hx hb dL_asks_668 (lv_at hl 0 rfl) ?_
          refine lv_icmp_ne (tgt := 688) hx hb dL_asks_670 (by decide) (fun c203 => ?_) (fun c203 => ?_)
          · replace h := ite_f c203 h
            refine lv_iconst (v := 0) hx hb dL_asks_688 (by decide) ?_
            obtain ⟨rfl, rfl, rfl, rfl, rfl, rfl, rfl⟩ := ret7 h
            rw [hQ]
            replace hW := hW.tl
            replace hW := hW.tl
            replace hW := hW.tl
            replace hW := hW.tl
            replace hW := hW.tl
            replace hW := hW.tl
            refine W.widen (k := 4750) (n := (16 * 4750)) gN202 (Nat.mul_le_mul_left 16 gN202) ?_
            exact g_retz hx hb hr hlk hW (by decide) dL_asks_689
          · replace h := ite_t c203 h
            refine lv_aload_n hx hb dL_asks_673 rfl (lv_at hl 1 rfl) ?_
            refine lv_iconst (v := 5) hx hb dL_asks_674 (by decide) ?_
            refine lv_iload hx hb dL_asks_675 (lv_at hl 15 rfl) ?_
            refine lv_iload hx hb dL_asks_677 (lv_at hl 0 rfl) ?_
            replace hW := hW.perm pf21
            replace hW := hW.perm pf21
            obtain ⟨r204, x_K205, q206, h⟩ := bnd2_s h
            obtain ⟨gN207, h⟩ := grd_s h
            have gN207 := of_decide_eq_true gN207
            refine cs_L_192 hx hb hml hown hts hK hN hE hC hA hW (c_L_two l hfl D T A ad hok (oA T 64 a_nw6 x_nw6146 ++ (oA T 6 a_nw5 x_nw5_425 ++ (oA T 48 a_nw4 x_nw4_425 ++ (oA T 64 a_nw3 x_nw3_425 ++ (oA T 64 a_nw2 x_nw2_425 ++ (oA T 64 a_nw1 x_nw1_425 ++ (oA T 12 a_c x_c_425 ++ (oA T 24 a_w x_w ++ (oA T 2 a_u x_u ++ (oA T 6 a_x x_x ++ (oA T 6 a_l x_l_425 ++ (oA T 6 a_f x_f_425 ++ (oA T 12 a_v x_v_425 ++ (oA T 20 a_t x_t ++ (oA T 20 a_g x_g ++ (oA T 60 a_q x_q ++ (oA T 5 a_n x_n ++ (oA T 16 a_h x_h_425 ++ (oA T 30 a_p x_p ++ (oA T 6 a_k x_k ++ Z)))))))))))))))))))) x_K200 5 v22_425 r145 r204 x_K205 q206) ⟨Nat.le_of_ble_eq_true rfl, Nat.le_of_ble_eq_true rfl⟩ hl.1 rfl (Nat.le_of_ble_eq_true rfl) dL_asks_679 (hfB gN207) rfl (fun H locs hW => ?_)
            replace hW := hW.perm pf1
            replace hW := hW.perm pf1
            replace hW := hW.perm pf21
            replace hW := hW.perm pf21
            replace hW := hW.perm pf21
            replace hW := hW.perm pf21
            replace hW := hW.perm pf21
            replace hW := hW.perm pf21
            replace hW := hW.perm pf21
            replace hW := hW.perm pf21
            replace hW := hW.perm pf21
            replace hW := hW.perm pf21
            replace hW := hW.perm pf21
            replace hW := hW.perm pf21
            replace hW := hW.perm pf21
            replace hW := hW.perm pf21
            replace hW := hW.perm pf21
            replace hW := hW.perm pf21
            replace hW := hW.perm pf21
            replace hW := hW.perm pf21
            replace hW := hW.perm pf21
            replace hW := hW.perm pf21
            refine lv_sipush (v := (-1001)) hx hb dL_asks_682 (by decide) ?_
            refine lv_icmp_eq (tgt := 690) hx hb dL_asks_685 (by decide) (fun c208 => ?_) (fun c208 => ?_)
            · replace h := ite_t c208 h
              exact J690 _ _ _ _ _ _ _ _ _ _ _ _ _ _ _ _ gN207 H locs ls hW (lv_sub hl [1, 2, 3, 4, 5, 10, 12, 13, 14, 15, 0, 16] rfl) h
            · replace h := ite_f c208 h
              refine lv_iconst (v := 0) hx hb dL_asks_688 (by decide) ?_
              obtain ⟨rfl, rfl, rfl, rfl, rfl, rfl, rfl⟩ := ret7 h
              rw [hQ]
              replace hW := hW.tl
              replace hW := hW.tl
              replace hW := hW.tl
              replace hW := hW.tl
              replace hW := hW.tl
              replace hW := hW.tl
              refine W.widen (k := 4750) (n := (16 * 4750)) gN207 (Nat.mul_le_mul_left 16 gN207) ?_
              exact g_retz hx hb hr hlk hW (by decide) dL_asks_689
      · replace h := ite_f (by rw [hc]; decide) h
        refine lv_iconst (v := 0) hx hb dL_asks_619 (by decide) ?_
        obtain ⟨rfl, rfl, rfl, rfl, rfl, rfl, rfl⟩ := ret7 h
        rw [hQ]
        replace hW := hW.tl
        replace hW := hW.tl
        replace hW := hW.tl
        replace hW := hW.tl
        replace hW := hW.tl
        replace hW := hW.tl
        refine W.widen (k := 4750) (n := (16 * 4750)) gN144 (Nat.mul_le_mul_left 16 gN144) ?_
        exact g_retz hx hb hr hlk hW (by decide) dL_asks_620
    · replace h := ite_t c91 h
      refine lv_iconst (v := 1) hx hb dL_asks_433 (by decide) ?_
      obtain ⟨rfl, rfl, rfl, rfl, rfl, rfl, rfl⟩ := ret7 h
      rw [hQ]
      replace hW := hW.tl
      replace hW := hW.tl
      replace hW := hW.tl
      replace hW := hW.tl
      replace hW := hW.tl
      replace hW := hW.tl
      refine W.widen (k := 4750) (n := (16 * 4750)) hN_425 (Nat.mul_le_mul_left 16 hN_425) ?_
      exact g_retz hx hb hr hlk hW (by decide) dL_asks_434
  have J408 : ∀ (x_K_408 : Nat → Ob) (x_c_408 : Nat → Int32) (x_l_408 : Nat → Int32) (x_f_408 : Nat → Int32) (x_v_408 : Nat → Int32) (x_h_408 : Nat → Int32) (x_nw1_408 : Nat → Int32) (x_nw2_408 : Nat → Int32) (x_nw3_408 : Nat → Int32) (x_nw4_408 : Nat → Int32) (x_nw5_408 : Nat → Int32) (x_nw6_408 : Nat → Int32) (x_N_408 : Nat) (v22_408 : Int32) (v24_408 : Int32) (v25_408 : Int32) (s0_408 : Int32) (s1_408 : Int32) (hN_408 : x_N_408 ≤ 4750) (H : Heap) (locs : List Loc) (ls : Array Slot), Wd D A s.heap (oA T 64 a_nw6 x_nw6_408 ++ (oA T 6 a_nw5 x_nw5_408 ++ (oA T 48 a_nw4 x_nw4_408 ++ (oA T 64 a_nw3 x_nw3_408 ++ (oA T 64 a_nw2 x_nw2_408 ++ (oA T 64 a_nw1 x_nw1_408 ++ (oA T 12 a_c x_c_408 ++ (oA T 24 a_w x_w ++ (oA T 2 a_u x_u ++ (oA T 6 a_x x_x ++ (oA T 6 a_l x_l_408 ++ (oA T 6 a_f x_f_408 ++ (oA T 12 a_v x_v_408 ++ (oA T 20 a_t x_t ++ (oA T 20 a_g x_g ++ (oA T 60 a_q x_q ++ (oA T 5 a_n x_n ++ (oA T 16 a_h x_h_408 ++ (oA T 30 a_p x_p ++ (oA T 6 a_k x_k ++ (oc_X10 T (ad 0) (bb ad) (x_K_408 0) ++ (wkL T ad x_K_408 L18 ++ Z)))))))))))))))))))))) H locs → lv_has ls 30 [(0, .ref (ad 0 0)), (2, .ref a_c), (3, .ref a_w), (4, .ref a_u), (5, .ref a_x), (10, .ref a_g), (11, .ref a_q), (12, .ref a_n), (16, .ref a_nw1), (17, .ref a_nw2), (18, .ref a_nw3), (19, .ref a_nw4), (20, .ref a_nw5), (21, .ref a_nw6), (22, .int v22_408), (24, .int v24_408), (25, .int v25_408)] → f_L_asks_J408 x_K_408 x_c_408 x_w x_u x_x x_l_408 x_f_408 x_v_408 x_t x_g x_q x_n x_h_408 x_p x_k x_nw1_408 x_nw2_408 x_nw3_408 x_nw4_408 x_nw5_408 x_nw6_408 x_N_408 v22_408 v24_408 v25_408 s0_408 s1_408 = some (r, x_K9, x_c9, x_l9, x_f9, x_v9, x_h9) → W p l e (rmL 13 4750) s m args below meth c H locs x_N_408 (16 * x_N_408) Q (F0 m 408 ls [.int s1_408, .int s0_408]) := by
    intro x_K_408 x_c_408 x_l_408 x_f_408 x_v_408 x_h_408 x_nw1_408 x_nw2_408 x_nw3_408 x_nw4_408 x_nw5_408 x_nw6_408 x_N_408 v22_408 v24_408 v25_408 s0_408 s1_408 hN_408 H locs ls hW hl h
    rw [f_L_asks_J408] at h
    refine lv_icmp_ne (tgt := 423) hx hb dL_asks_408 (by decide) (fun c211 => ?_) (fun c211 => ?_)
    · replace h := ite_f c211 h
      refine lv_iconst (v := 0) hx hb dL_asks_423 (by decide) ?_
      obtain ⟨rfl, rfl, rfl, rfl, rfl, rfl, rfl⟩ := ret7 h
      rw [hQ]
      replace hW := hW.tl
      replace hW := hW.tl
      replace hW := hW.tl
      replace hW := hW.tl
      replace hW := hW.tl
      replace hW := hW.tl
      refine W.widen (k := 4750) (n := (16 * 4750)) hN_408 (Nat.mul_le_mul_left 16 hN_408) ?_
      exact g_retz hx hb hr hlk hW (by decide) dL_asks_424
    · replace h := ite_t c211 h
      refine lv_aload_n hx hb dL_asks_411 rfl (lv_at hl 0 rfl) ?_
      refine lv_iconst (v := 3) hx hb dL_asks_412 (by decide) ?_
      refine lv_iload hx hb dL_asks_413 (lv_at hl 14 rfl) ?_
      replace hW := hW.perm pf21
      replace hW := hW.perm pf21
      obtain ⟨r212, x_K213, q214, h⟩ := bnd2_s h
      obtain ⟨gN215, h⟩ := grd_s h
      have gN215 := of_decide_eq_true gN215
      refine cs_L_211 hx hb hml hown hts hK hN hE hC hA hW (c_L_one l hfl D T A ad hok (oA T 64 a_nw6 x_nw6_408 ++ (oA T 6 a_nw5 x_nw5_408 ++ (oA T 48 a_nw4 x_nw4_408 ++ (oA T 64 a_nw3 x_nw3_408 ++ (oA T 64 a_nw2 x_nw2_408 ++ (oA T 64 a_nw1 x_nw1_408 ++ (oA T 12 a_c x_c_408 ++ (oA T 24 a_w x_w ++ (oA T 2 a_u x_u ++ (oA T 6 a_x x_x ++ (oA T 6 a_l x_l_408 ++ (oA T 6 a_f x_f_408 ++ (oA T 12 a_v x_v_408 ++ (oA T 20 a_t x_t ++ (oA T 20 a_g x_g ++ (oA T 60 a_q x_q ++ (oA T 5 a_n x_n ++ (oA T 16 a_h x_h_408 ++ (oA T 30 a_p x_p ++ (oA T 6 a_k x_k ++ Z)))))))))))))))))))) x_K_408 3 v22_408 r212 x_K213 q214) ⟨Nat.le_of_ble_eq_true rfl, Nat.le_of_ble_eq_true rfl⟩ hl.1 rfl (Nat.le_of_ble_eq_true rfl) dL_asks_415 (hfB gN215) rfl (fun H locs hW => ?_)
      replace hW := hW.perm pf1
      replace hW := hW.perm pf1
      replace hW := hW.perm pf21
      replace hW := hW.perm pf21
      replace hW := hW.perm pf21
      replace hW := hW.perm pf21
      replace hW := hW.perm pf21
      replace hW := hW.perm pf21
      replace hW := hW.perm pf21
      replace hW := hW.perm pf21
      replace hW := hW.perm pf21
      replace hW := hW.perm pf21
      replace hW := hW.perm pf21
      replace hW := hW.perm pf21
      replace hW := hW.perm pf21
      replace hW := hW.perm pf21
      replace hW := hW.perm pf21
      replace hW := hW.perm pf21
      replace hW := hW.perm pf21
      replace hW := hW.perm pf21
      replace hW := hW.perm pf21
      replace hW := hW.perm pf21
      refine lv_iload hx hb dL_asks_418 (lv_at hl 16 rfl) ?_
      refine lv_icmp_eq (tgt := 425) hx hb dL_asks_420 (by decide) (fun c216 => ?_) (fun c216 => ?_)
      · replace h := ite_t c216 h
        exact J425 _ _ _ _ _ _ _ _ _ _ _ _ _ _ _ gN215 H locs ls hW (lv_sub hl [0, 1, 2, 3, 4, 5, 6, 7, 8, 9, 10, 11, 12, 13, 14, 15] rfl) h
      · replace h := ite_f c216 h
        refine lv_iconst (v := 0) hx hb dL_asks_423 (by decide) ?_
        obtain ⟨rfl, rfl, rfl, rfl, rfl, rfl, rfl⟩ := ret7 h
        rw [hQ]
        replace hW := hW.tl
        replace hW := hW.tl
        replace hW := hW.tl
        replace hW := hW.tl
        replace hW := hW.tl
        replace hW := hW.tl
        refine W.widen (k := 4750) (n := (16 * 4750)) gN215 (Nat.mul_le_mul_left 16 gN215) ?_
        exact g_retz hx hb hr hlk hW (by decide) dL_asks_424
  have J279 : ∀ (x_K_279 : Nat → Ob) (x_c_279 : Nat → Int32) (x_l_279 : Nat → Int32) (x_f_279 : Nat → Int32) (x_v_279 : Nat → Int32) (x_h_279 : Nat → Int32) (x_nw1_279 : Nat → Int32) (x_nw2_279 : Nat → Int32) (x_nw3_279 : Nat → Int32) (x_nw4_279 : Nat → Int32) (x_nw5_279 : Nat → Int32) (x_nw6_279 : Nat → Int32) (x_N_279 : Nat) (v22_279 : Int32) (v23_279 : Int32) (hN_279 : x_N_279 ≤ 4750) (H : Heap) (locs : List Loc) (ls : Array Slot), Wd D A s.heap (oA T 64 a_nw6 x_nw6_279 ++ (oA T 6 a_nw5 x_nw5_279 ++ (oA T 48 a_nw4 x_nw4_279 ++ (oA T 64 a_nw3 x_nw3_279 ++ (oA T 64 a_nw2 x_nw2_279 ++ (oA T 64 a_nw1 x_nw1_279 ++ (oA T 12 a_c x_c_279 ++ (oA T 24 a_w x_w ++ (oA T 2 a_u x_u ++ (oA T 6 a_x x_x ++ (oA T 6 a_l x_l_279 ++ (oA T 6 a_f x_f_279 ++ (oA T 12 a_v x_v_279 ++ (oA T 20 a_t x_t ++ (oA T 20 a_g x_g ++ (oA T 60 a_q x_q ++ (oA T 5 a_n x_n ++ (oA T 16 a_h x_h_279 ++ (oA T 30 a_p x_p ++ (oA T 6 a_k x_k ++ (oc_X10 T (ad 0) (bb ad) (x_K_279 0) ++ (wkL T ad x_K_279 L18 ++ Z)))))))))))))))))))))) H locs → lv_has ls 30 [(0, .ref (ad 0 0)), (2, .ref a_c), (3, .ref a_w), (4, .ref a_u), (5, .ref a_x), (6, .ref a_l), (8, .ref a_v), (10, .ref a_g), (11, .ref a_q), (12, .ref a_n), (13, .ref a_h), (16, .ref a_nw1), (17, .ref a_nw2), (18, .ref a_nw3), (19, .ref a_nw4), (20, .ref a_nw5), (21, .ref a_nw6), (22, .int v22_279), (23, .int v23_279)] → f_L_asks_J279 x_K_279 x_c_279 x_w x_u x_x x_l_279 x_f_279 x_v_279 x_t x_g x_q x_n x_h_279 x_p x_k x_nw1_279 x_nw2_279 x_nw3_279 x_nw4_279 x_nw5_279 x_nw6_279 x_N_279 v22_279 v23_279 = some (r, x_K9, x_c9, x_l9, x_f9, x_v9, x_h9) → W p l e (rmL 13 4750) s m args below meth c H locs x_N_279 (16 * x_N_279) Q (F0 m 279 ls []) := by
    intro x_K_279 x_c_279 x_l_279 x_f_279 x_v_279 x_h_279 x_nw1_279 x_nw2_279 x_nw3_279 x_nw4_279 x_nw5_279 x_nw6_279 x_N_279 v22_279 v23_279 hN_279 H locs ls hW hl h
    rw [f_L_asks_J279] at h
    refine lv_aload_n hx hb dL_asks_279 rfl (lv_at hl 0 rfl) ?_
    refine lv_bipush (v := 8) hx hb dL_asks_280 (by decide) ?_
    refine lv_iload hx hb dL_asks_282 (lv_at hl 17 rfl) ?_
    refine lv_iload hx hb dL_asks_284 (lv_at hl 18 rfl) ?_
    replace hW := hW.perm pf21
    replace hW := hW.perm pf21
    obtain ⟨r62, x_K63, q64, h⟩ := bnd2_s h
    obtain ⟨gN65, h⟩ := grd_s h
    have gN65 := of_decide_eq_true gN65
    refine cs_L_192 hx hb hml hown hts hK hN hE hC hA hW (c_L_two l hfl D T A ad hok (oA T 64 a_nw6 x_nw6_279 ++ (oA T 6 a_nw5 x_nw5_279 ++ (oA T 48 a_nw4 x_nw4_279 ++ (oA T 64 a_nw3 x_nw3_279 ++ (oA T 64 a_nw2 x_nw2_279 ++ (oA T 64 a_nw1 x_nw1_279 ++ (oA T 12 a_c x_c_279 ++ (oA T 24 a_w x_w ++ (oA T 2 a_u x_u ++ (oA T 6 a_x x_x ++ (oA T 6 a_l x_l_279 ++ (oA T 6 a_f x_f_279 ++ (oA T 12 a_v x_v_279 ++ (oA T 20 a_t x_t ++ (oA T 20 a_g x_g ++ (oA T 60 a_q x_q ++ (oA T 5 a_n x_n ++ (oA T 16 a_h x_h_279 ++ (oA T 30 a_p x_p ++ (oA T 6 a_k x_k ++ Z)))))))))))))))))))) x_K_279 8 v22_279 v23_279 r62 x_K63 q64) ⟨Nat.le_of_ble_eq_true rfl, Nat.le_of_ble_eq_true rfl⟩ hl.1 rfl (Nat.le_of_ble_eq_true rfl) dL_asks_286 (hfB gN65) rfl (fun H locs hW => ?_)
    replace hW := hW.perm pf1
    replace hW := hW.perm pf1
    replace hW := hW.perm pf21
    replace hW := hW.perm pf21
    replace hW := hW.perm pf21
    replace hW := hW.perm pf21
    replace hW := hW.perm pf21
    replace hW := hW.perm pf21
    replace hW := hW.perm pf21
    replace hW := hW.perm pf21
    replace hW := hW.perm pf21
    replace hW := hW.perm pf21
    replace hW := hW.perm pf21
    replace hW := hW.perm pf21
    replace hW := hW.perm pf21
    replace hW := hW.perm pf21
    replace hW := hW.perm pf21
    replace hW := hW.perm pf21
    replace hW := hW.perm pf21
    replace hW := hW.perm pf21
    replace hW := hW.perm pf21
    replace hW := hW.perm pf21
    refine lv_sipush (v := (-1001)) hx hb dL_asks_289 (by decide) ?_
    refine lv_icmp_ne (tgt := 305) hx hb dL_asks_292 (by decide) (fun c66 => ?_) (fun c66 => ?_)
    · replace h := ite_f c66 h
      refine lv_iconst (v := 0) hx hb dL_asks_305 (by decide) ?_
      obtain ⟨rfl, rfl, rfl, rfl, rfl, rfl, rfl⟩ := ret7 h
      rw [hQ]
      replace hW := hW.tl
      replace hW := hW.tl
      replace hW := hW.tl
      replace hW := hW.tl
      replace hW := hW.tl
      replace hW := hW.tl
      refine W.widen (k := 4750) (n := (16 * 4750)) gN65 (Nat.mul_le_mul_left 16 gN65) ?_
      exact g_retz hx hb hr hlk hW (by decide) dL_asks_306
    · replace h := ite_t c66 h
      refine lv_aload_n hx hb dL_asks_295 rfl (lv_at hl 0 rfl) ?_
      replace hW := hW.perm pf21
      replace hW := hW.perm pf21
      obtain ⟨r67, q68, h⟩ := bnd1_s h
      refine g_cvi (As := []) hx hb hml hown hts hK hN hW (g_cw (n := 0) hts wm38_7 wm38_8 wm38_9 wm1_2 wm38_10 ⟨rfl, by decide +kernel, by decide +kernel, by decide +kernel⟩ ⟨rfl, rfl⟩ ⟨Nat.le_of_ble_eq_true rfl, Nat.le_of_ble_eq_true rfl⟩) ⟨10, (RX10, TX10, 13), _, rfl, rfl, rfl⟩ (c_X10_reads l D T A ad hok (oA T 64 a_nw6 x_nw6_279 ++ (oA T 6 a_nw5 x_nw5_279 ++ (oA T 48 a_nw4 x_nw4_279 ++ (oA T 64 a_nw3 x_nw3_279 ++ (oA T 64 a_nw2 x_nw2_279 ++ (oA T 64 a_nw1 x_nw1_279 ++ (oA T 12 a_c x_c_279 ++ (oA T 24 a_w x_w ++ (oA T 2 a_u x_u ++ (oA T 6 a_x x_x ++ (oA T 6 a_l x_l_279 ++ (oA T 6 a_f x_f_279 ++ (oA T 12 a_v x_v_279 ++ (oA T 20 a_t x_t ++ (oA T 20 a_g x_g ++ (oA T 60 a_q x_q ++ (oA T 5 a_n x_n ++ (oA T 16 a_h x_h_279 ++ (oA T 30 a_p x_p ++ (oA T 6 a_k x_k ++ Z)))))))))))))))))))) x_K63 r67 q68) rfl hl.1 rfl (Nat.le_of_ble_eq_true rfl) dL_asks_296 (hf0 gN65) (fun H locs hW => ?_)
      replace hW := hW.perm pf1
      replace hW := hW.perm pf1
      replace hW := hW.perm pf21
      replace hW := hW.perm pf21
      replace hW := hW.perm pf21
      replace hW := hW.perm pf21
      replace hW := hW.perm pf21
      replace hW := hW.perm pf21
      replace hW := hW.perm pf21
      replace hW := hW.perm pf21
      replace hW := hW.perm pf21
      replace hW := hW.perm pf21
      replace hW := hW.perm pf21
      replace hW := hW.perm pf21
      replace hW := hW.perm pf21
      replace hW := hW.perm pf21
      replace hW := hW.perm pf21
      replace hW := hW.perm pf21
      replace hW := hW.perm pf21
      replace hW := hW.perm pf21
      replace hW := hW.perm pf21
      replace hW := hW.perm pf21
      refine lv_aload_n hx hb dL_asks_299 rfl (lv_at hl 1 rfl) ?_
      refine lv_iconst (v := 5) hx hb dL_asks_300 (by decide) ?_
      refine g_iald hx hb hK hW 6 rfl (by decide) dL_asks_301 ?_
      refine lv_icmp_eq (tgt := 307) hx hb dL_asks_302 (by decide) (fun c69 => ?_) (fun c69 => ?_)
      · replace h := ite_t c69 h
        refine lv_aload_n hx hb dL_asks_307 rfl (lv_at hl 1 rfl) ?_
        refine lv_aload_n hx hb dL_asks_308 rfl (lv_at hl 2 rfl) ?_
        refine lv_aload hx hb dL_asks_309 (lv_at hl 3 rfl) ?_
        refine lv_aload hx hb dL_asks_311 (lv_at hl 4 rfl) ?_
        refine lv_aload hx hb dL_asks_313 (lv_at hl 5 rfl) ?_
        refine lv_aload hx hb dL_asks_315 (lv_at hl 6 rfl) ?_
        refine lv_aload hx hb dL_asks_317 (lv_at hl 7 rfl) ?_
        refine lv_aload hx hb dL_asks_319 (lv_at hl 8 rfl) ?_
        refine lv_aload hx hb dL_asks_321 (lv_at hl 9 rfl) ?_
        refine lv_aload hx hb dL_asks_323 (lv_at hl 11 rfl) ?_
        refine lv_aload hx hb dL_asks_325 (lv_at hl 12 rfl) ?_
        refine lv_aload hx hb dL_asks_327 (lv_at hl 13 rfl) ?_
        refine lv_aload hx hb dL_asks_329 (lv_at hl 14 rfl) ?_
        refine lv_aload hx hb dL_asks_331 (lv_at hl 15 rfl) ?_
        refine lv_iload hx hb dL_asks_333 (lv_at hl 17 rfl) ?_
        replace hW := hW.perm pf1
        replace hW := hW.perm pf2
        replace hW := hW.perm pf3
        replace hW := hW.perm pf4
        replace hW := hW.perm pf5
        replace hW := hW.perm pf16
        replace hW := hW.perm pf16
        replace hW := hW.perm pf16
        replace hW := hW.perm pf15
        replace hW := hW.perm pf14
        replace hW := hW.perm pf14
        replace hW := hW.perm pf14
        replace hW := hW.perm pf14
        replace hW := hW.perm pf14
        obtain ⟨x_c70, x_nw171, x_nw272, x_nw373, x_nw474, x_nw575, q76, h⟩ := bnd6_s h
        obtain ⟨gN77, h⟩ := grd_s h
        have gN77 := of_decide_eq_true gN77
        refine cs_L_218 hx hb hml hown hts hK hN hE hC hA hW (c_L_chart l D T A a_c a_w a_u a_x a_l a_v a_g a_q a_n a_nw1 a_nw2 a_nw3 a_nw4 a_nw5 (oA T 64 a_nw6 x_nw6_279 ++ (oA T 6 a_f x_f_279 ++ (oA T 20 a_t x_t ++ (oA T 16 a_h x_h_279 ++ (oA T 30 a_p x_p ++ (oA T 6 a_k x_k ++ (oc_X10 T (ad 0) (bb ad) (x_K63 0) ++ (wkL T ad x_K63 L18 ++ Z)))))))) x_c_279 x_w x_u x_x x_l_279 x_v_279 x_g x_q x_n x_nw1_279 x_nw2_279 x_nw3_279 x_nw4_279 x_nw5_279 v22_279 x_c70 x_nw171 x_nw272 x_nw373 x_nw474 x_nw575 q76) ⟨Nat.le_of_ble_eq_true rfl, Nat.le_of_ble_eq_true rfl⟩ hl.1 rfl (Nat.le_of_ble_eq_true rfl) dL_asks_335 (hfB gN77) rfl (fun H locs hW => ?_)
        replace hW := hW.perm pf21
        replace hW := hW.perm pf21
        replace hW := hW.perm pf21
        replace hW := hW.perm pf21
        replace hW := hW.perm pf21
        replace hW := hW.perm pf13
        replace hW := hW.perm pf13
        replace hW := hW.perm pf13
        replace hW := hW.perm pf21
        replace hW := hW.perm pf14
        replace hW := hW.perm pf21
        replace hW := hW.perm pf15
        replace hW := hW.perm pf15
        replace hW := hW.perm pf15
        replace hW := hW.perm pf15
        replace hW := hW.perm pf15
        replace hW := hW.perm pf16
        replace hW := hW.perm pf17
        replace hW := hW.perm pf18
        replace hW := hW.perm pf19
        replace hW := hW.perm pf20
        replace hW := hW.perm pf21
        refine lv_aload_n hx hb dL_asks_338 rfl (lv_at hl 1 rfl) ?_
        refine lv_aload hx hb dL_asks_339 (lv_at hl 6 rfl) ?_
        refine lv_aload hx hb dL_asks_341 (lv_at hl 10 rfl) ?_
        refine lv_iload hx hb dL_asks_343 (lv_at hl 17 rfl) ?_
        replace hW := hW.perm pf17
        replace hW := hW.perm pf13
        replace hW := hW.perm pf8
        obtain ⟨x_c78, x_h79, q80, h⟩ := bnd2_s h
        refine cs_L_222 hx hb hml hown hts hK hN hE hC hA hW (c_L_reads l D T A a_c a_v a_h (oA T 64 a_nw6 x_nw6_279 ++ (oA T 6 a_nw5 x_nw575 ++ (oA T 48 a_nw4 x_nw474 ++ (oA T 64 a_nw3 x_nw373 ++ (oA T 64 a_nw2 x_nw272 ++ (oA T 64 a_nw1 x_nw171 ++ (oA T 24 a_w x_w ++ (oA T 2 a_u x_u ++ (oA T 6 a_x x_x ++ (oA T 6 a_l x_l_279 ++ (oA T 6 a_f x_f_279 ++ (oA T 20 a_t x_t ++ (oA T 20 a_g x_g ++ (oA T 60 a_q x_q ++ (oA T 5 a_n x_n ++ (oA T 30 a_p x_p ++ (oA T 6 a_k x_k ++ (oc_X10 T (ad 0) (bb ad) (x_K63 0) ++ (wkL T ad x_K63 L18 ++ Z))))))))))))))))))) x_c70 x_v_279 x_h_279 v22_279 x_c78 x_h79 q80) ⟨Nat.le_of_ble_eq_true rfl, Nat.le_of_ble_eq_true rfl⟩ hl.1 rfl (Nat.le_of_ble_eq_true rfl) dL_asks_345 (hf0 gN77) rfl (fun H locs hW => ?_)
        replace hW := hW.perm pf21
        replace hW := hW.perm pf21
        replace hW := hW.perm pf21
        replace hW := hW.perm pf21
        replace hW := hW.perm pf6
        replace hW := hW.perm pf21
        replace hW := hW.perm pf21
        replace hW := hW.perm pf21
        replace hW := hW.perm pf21
        replace hW := hW.perm pf10
        replace hW := hW.perm pf21
        replace hW := hW.perm pf21
        replace hW := hW.perm pf21
        replace hW := hW.perm pf21
        replace hW := hW.perm pf21
        replace hW := hW.perm pf15
        replace hW := hW.perm pf21
        replace hW := hW.perm pf21
        replace hW := hW.perm pf21
        replace hW := hW.perm pf21
        replace hW := hW.perm pf21
        replace hW := hW.perm pf21
        refine lv_aload_n hx hb dL_asks_348 rfl (lv_at hl 1 rfl) ?_
        refine lv_aload hx hb dL_asks_349 (lv_at hl 11 rfl) ?_
        refine lv_aload hx hb dL_asks_351 (lv_at hl 12 rfl) ?_
        refine lv_aload hx hb dL_asks_353 (lv_at hl 14 rfl) ?_
        refine lv_aload hx hb dL_asks_355 (lv_at hl 15 rfl) ?_
        refine lv_iload hx hb dL_asks_357 (lv_at hl 17 rfl) ?_
        replace hW := hW.perm pf1
        replace hW := hW.perm pf2
        replace hW := hW.perm pf4
        replace hW := hW.perm pf5
        replace hW := hW.perm pf6
        obtain ⟨r81, q82, h⟩ := bnd1_s h
        refine cs_L_225 hx hb hml hown hts hK hN hE hC hA hW (c_L_whole l D T A a_c a_nw1 a_nw2 a_nw4 a_nw5 (oA T 64 a_nw6 x_nw6_279 ++ (oA T 64 a_nw3 x_nw373 ++ (oA T 24 a_w x_w ++ (oA T 2 a_u x_u ++ (oA T 6 a_x x_x ++ (oA T 6 a_l x_l_279 ++ (oA T 6 a_f x_f_279 ++ (oA T 12 a_v x_v_279 ++ (oA T 20 a_t x_t ++ (oA T 20 a_g x_g ++ (oA T 60 a_q x_q ++ (oA T 5 a_n x_n ++ (oA T 16 a_h x_h79 ++ (oA T 30 a_p x_p ++ (oA T 6 a_k x_k ++ (oc_X10 T (ad 0) (bb ad) (x_K63 0) ++ (wkL T ad x_K63 L18 ++ Z))))))))))))))))) x_c78 x_nw171 x_nw272 x_nw474 x_nw575 v22_279 r81 q82) ⟨Nat.le_of_ble_eq_true rfl, Nat.le_of_ble_eq_true rfl⟩ hl.1 rfl (Nat.le_of_ble_eq_true rfl) dL_asks_359 (hf0 gN77) rfl (fun H locs hW => ?_)
        replace hW := hW.perm pf21
        replace hW := hW.perm pf21
        replace hW := hW.perm pf21
        replace hW := hW.perm pf21
        replace hW := hW.perm pf21
        replace hW := hW.perm pf21
        replace hW := hW.perm pf21
        replace hW := hW.perm pf21
        replace hW := hW.perm pf21
        replace hW := hW.perm pf21
        replace hW := hW.perm pf21
        replace hW := hW.perm pf21
        replace hW := hW.perm pf21
        replace hW := hW.perm pf21
        replace hW := hW.perm pf21
        replace hW := hW.perm pf15
        replace hW := hW.perm pf16
        replace hW := hW.perm pf17
        replace hW := hW.perm pf21
        replace hW := hW.perm pf19
        replace hW := hW.perm pf20
        replace hW := hW.perm pf21
        refine lv_istore (lv' := [(24, .int r81), (0, .ref (ad 0 0)), (2, .ref a_c), (3, .ref a_w), (4, .ref a_u), (5, .ref a_x), (6, .ref a_l), (8, .ref a_v), (10, .ref a_g), (11, .ref a_q), (12, .ref a_n), (13, .ref a_h), (16, .ref a_nw1), (17, .ref a_nw2), (18, .ref a_nw3), (19, .ref a_nw4), (20, .ref a_nw5), (21, .ref a_nw6), (22, .int v22_279), (23, .int v23_279)]) hx hb dL_asks_362 hl (by decide) rfl (fun ls hl => ?_)
        refine lv_aload_n hx hb dL_asks_364 rfl (lv_at hl 1 rfl) ?_
        refine lv_iconst (v := 2) hx hb dL_asks_365 (by decide) ?_
        refine lv_iload hx hb dL_asks_366 (lv_at hl 18 rfl) ?_
        replace hW := hW.perm pf21
        replace hW := hW.perm pf21
        obtain ⟨r83, x_K84, q85, h⟩ := bnd2_s h
        obtain ⟨gN86, h⟩ := grd_s h
        have gN86 := of_decide_eq_true gN86
        refine cs_L_211 hx hb hml hown hts hK hN hE hC hA hW (c_L_one l hfl D T A ad hok (oA T 64 a_nw6 x_nw6_279 ++ (oA T 6 a_nw5 x_nw575 ++ (oA T 48 a_nw4 x_nw474 ++ (oA T 64 a_nw3 x_nw373 ++ (oA T 64 a_nw2 x_nw272 ++ (oA T 64 a_nw1 x_nw171 ++ (oA T 12 a_c x_c78 ++ (oA T 24 a_w x_w ++ (oA T 2 a_u x_u ++ (oA T 6 a_x x_x ++ (oA T 6 a_l x_l_279 ++ (oA T 6 a_f x_f_279 ++ (oA T 12 a_v x_v_279 ++ (oA T 20 a_t x_t ++ (oA T 20 a_g x_g ++ (oA T 60 a_q x_q ++ (oA T 5 a_n x_n ++ (oA T 16 a_h x_h79 ++ (oA T 30 a_p x_p ++ (oA T 6 a_k x_k ++ Z)))))))))))))))))))) x_K63 2 v22_279 r83 x_K84 q85) ⟨Nat.le_of_ble_eq_true rfl, Nat.le_of_ble_eq_true rfl⟩ hl.1 rfl (Nat.le_of_ble_eq_true rfl) dL_asks_368 (hfB gN86) rfl (fun H locs hW => ?_)
        replace hW := hW.perm pf1
        replace hW := hW.perm pf1
        replace hW := hW.perm pf21
        replace hW := hW.perm pf21
        replace hW := hW.perm pf21
        replace hW := hW.perm pf21
        replace hW := hW.perm pf21
        replace hW := hW.perm pf21
        replace hW := hW.perm pf21
        replace hW := hW.perm pf21
        replace hW := hW.perm pf21
        replace hW := hW.perm pf21
        replace hW := hW.perm pf21
        replace hW := hW.perm pf21
        replace hW := hW.perm pf21
        replace hW := hW.perm pf21
        replace hW := hW.perm pf21
        replace hW := hW.perm pf21
        replace hW := hW.perm pf21
        replace hW := hW.perm pf21
        replace hW := hW.perm pf21
        replace hW := hW.perm pf21
        refine lv_istore (lv' := [(25, .int r83), (24, .int r81), (0, .ref (ad 0 0)), (2, .ref a_c), (3, .ref a_w), (4, .ref a_u), (5, .ref a_x), (6, .ref a_l), (8, .ref a_v), (10, .ref a_g), (11, .ref a_q), (12, .ref a_n), (13, .ref a_h), (16, .ref a_nw1), (17, .ref a_nw2), (18, .ref a_nw3), (19, .ref a_nw4), (20, .ref a_nw5), (21, .ref a_nw6), (22, .int v22_279), (23, .int v23_279)]) hx hb dL_asks_371 hl (by decide) rfl (fun ls hl => ?_)
        refine lv_aload_n hx hb dL_asks_373 rfl (lv_at hl 2 rfl) ?_
        replace hW := hW.perm pf21
        replace hW := hW.perm pf21
        obtain ⟨r87, q88, h⟩ := bnd1_s h
        refine g_cvi (As := []) hx hb hml hown hts hK hN hW (g_cw (n := 0) hts wm38_7 wm38_8 wm38_9 wm1_2 wm38_10 ⟨rfl, by decide +kernel, by decide +kernel, by decide +kernel⟩ ⟨rfl, rfl⟩ ⟨Nat.le_of_ble_eq_true rfl, Nat.le_of_ble_eq_true rfl⟩) ⟨10, (RX10, TX10, 13), _, rfl, rfl, rfl⟩ (c_X10_reads l D T A ad hok (oA T 64 a_nw6 x_nw6_279 ++ (oA T 6 a_nw5 x_nw575 ++ (oA T 48 a_nw4 x_nw474 ++ (oA T 64 a_nw3 x_nw373 ++ (oA T 64 a_nw2 x_nw272 ++ (oA T 64 a_nw1 x_nw171 ++ (oA T 12 a_c x_c78 ++ (oA T 24 a_w x_w ++ (oA T 2 a_u x_u ++ (oA T 6 a_x x_x ++ (oA T 6 a_l x_l_279 ++ (oA T 6 a_f x_f_279 ++ (oA T 12 a_v x_v_279 ++ (oA T 20 a_t x_t ++ (oA T 20 a_g x_g ++ (oA T 60 a_q x_q ++ (oA T 5 a_n x_n ++ (oA T 16 a_h x_h79 ++ (oA T 30 a_p x_p ++ (oA T 6 a_k x_k ++ Z)))))))))))))))))))) x_K84 r87 q88) rfl hl.1 rfl (Nat.le_of_ble_eq_true rfl) dL_asks_374 (hf0 gN86) (fun H locs hW => ?_)
        replace hW := hW.perm pf1
        replace hW := hW.perm pf1
        replace hW := hW.perm pf21
        replace hW := hW.perm pf21
        replace hW := hW.perm pf21
        replace hW := hW.perm pf21
        replace hW := hW.perm pf21
        replace hW := hW.perm pf21
        replace hW := hW.perm pf21
        replace hW := hW.perm pf21
        replace hW := hW.perm pf21
        replace hW := hW.perm pf21
        replace hW := hW.perm pf21
        replace hW := hW.perm pf21
        replace hW := hW.perm pf21
        replace hW := hW.perm pf21
        replace hW := hW.perm pf21
        replace hW := hW.perm pf21
        replace hW := hW.perm pf21
        replace hW := hW.perm pf21
        replace hW := hW.perm pf21
        replace hW := hW.perm pf21
        refine lv_aload_n hx hb dL_asks_377 rfl (lv_at hl 3 rfl) ?_
        refine lv_iconst (v := 5) hx hb dL_asks_378 (by decide) ?_
        refine g_iald hx hb hK hW 6 rfl (by decide) dL_asks_379 ?_
        refine lv_icmp_ne (tgt := 423) hx hb dL_asks_380 (by decide) (fun c89 => ?_) (fun c89 => ?_)
        · replace h := ite_f c89 h
          refine lv_iconst (v := 0) hx hb dL_asks_423 (by decide) ?_
          obtain ⟨rfl, rfl, rfl, rfl, rfl, rfl, rfl⟩ := ret7 h
          rw [hQ]
          replace hW := hW.tl
          replace hW := hW.tl
          replace hW := hW.tl
          replace hW := hW.tl
          replace hW := hW.tl
          replace hW := hW.tl
          refine W.widen (k := 4750) (n := (16 * 4750)) gN86 (Nat.mul_le_mul_left 16 gN86) ?_
          exact g_retz hx hb hr hlk hW (by decide) dL_asks_424
        · replace h := ite_t c89 h
          refine lv_aload_n hx hb dL_asks_383 rfl (lv_at hl 3 rfl) ?_
          refine lv_bipush (v := 7) hx hb dL_asks_384 (by decide) ?_
          refine g_iald hx hb hK hW 6 rfl (by decide) dL_asks_386 ?_
          refine lv_if_ne (tgt := 425) hx hb dL_asks_387 (by decide) (fun c90 => ?_) (fun c90 => ?_)
          · replace h := ite_f c90 h
            exact J425 _ _ _ _ _ _ _ _ _ _ _ _ _ _ _ gN86 H locs ls hW (lv_sub hl [2, 3, 4, 5, 6, 9, 10, 11, 13, 14, 15, 16, 17, 18, 19, 1] rfl) h
          · replace h := ite_t c90 h
            refine lv_iload hx hb dL_asks_390 (lv_at hl 0 rfl) ?_
            refine lv_iload hx hb dL_asks_392 (lv_at hl 1 rfl) ?_
            refine lv_if_ge (tgt := 403) hx hb dL_asks_394 (by decide) (fun c209 => ?_) (fun c209 => ?_)
            · replace h := ite_t c209 h
              refine lv_aload hx hb dL_asks_403 (lv_at hl 14 rfl) ?_
              refine lv_iload hx hb dL_asks_405 (lv_at hl 1 rfl) ?_
              obtain ⟨g210, h⟩ := grd_s h
              refine g_iald hx hb hK hW 4 rfl g210 dL_asks_407 ?_
              exact J408 _ _ _ _ _ _ _ _ _ _ _ _ _ _ _ _ _ _ gN86 H locs ls hW (lv_sub hl [2, 3, 4, 5, 6, 9, 10, 11, 13, 14, 15, 16, 17, 18, 19, 1, 0] rfl) h
            · replace h := ite_f c209 h
              refine lv_sipush (v := 1000) hx hb dL_asks_397 (by decide) ?_
              refine lv_goto (tgt := 408) hx hb dL_asks_400 (by decide) ?_
              exact J408 _ _ _ _ _ _ _ _ _ _ _ _ _ _ _ _ _ _ gN86 H locs ls hW (lv_sub hl [2, 3, 4, 5, 6, 9, 10, 11, 13, 14, 15, 16, 17, 18, 19, 1, 0] rfl) h
      · replace h := ite_f c69 h
        refine lv_iconst (v := 0) hx hb dL_asks_305 (by decide) ?_
        obtain ⟨rfl, rfl, rfl, rfl, rfl, rfl, rfl⟩ := ret7 h
        rw [hQ]
        replace hW := hW.tl
        replace hW := hW.tl
        replace hW := hW.tl
        replace hW := hW.tl
        replace hW := hW.tl
        replace hW := hW.tl
        refine W.widen (k := 4750) (n := (16 * 4750)) gN65 (Nat.mul_le_mul_left 16 gN65) ?_
        exact g_retz hx hb hr hlk hW (by decide) dL_asks_306
  refine lv_iload_n hx hb dL_asks_36 rfl (lv_at hl 7 rfl) ?_
  refine lv_iconst (v := 2) hx hb dL_asks_37 (by decide) ?_
  obtain ⟨r1, q2, h⟩ := bnd1_s h
  refine cs_L_171 hx hb hml hown hts hK hN hE hC hA hW (c_L_some l D T A (oA T 64 a_nw6 x_nw60 ++ (oA T 6 a_nw5 x_nw50 ++ (oA T 48 a_nw4 x_nw40 ++ (oA T 64 a_nw3 x_nw30 ++ (oA T 64 a_nw2 x_nw20 ++ (oA T 64 a_nw1 x_nw10 ++ (oA T 12 a_c x_c ++ (oA T 24 a_w x_w ++ (oA T 2 a_u x_u ++ (oA T 6 a_x x_x ++ (oA T 6 a_l x_l ++ (oA T 6 a_f x_f ++ (oA T 12 a_v x_v ++ (oA T 20 a_t x_t ++ (oA T 20 a_g x_g ++ (oA T 60 a_q x_q ++ (oA T 5 a_n x_n ++ (oA T 16 a_h x_h ++ (oA T 30 a_p x_p ++ (oA T 6 a_k x_k ++ (oc_X10 T (ad 0) (bb ad) (x_K 0) ++ (wkL T ad x_K L18 ++ Z)))))))))))))))))))))) p2 2 r1 q2) ⟨Nat.le_of_ble_eq_true rfl, Nat.le_of_ble_eq_true rfl⟩ hl.1 rfl (Nat.le_of_ble_eq_true rfl) dL_asks_38 (hf0 (Nat.le_of_ble_eq_true rfl)) rfl (fun H locs hW => ?_)
  refine lv_istore (lv' := [(22, .int r1), (21, .ref a_nw6), (20, .ref a_nw5), (19, .ref a_nw4), (18, .ref a_nw3), (17, .ref a_nw2), (16, .ref a_nw1), (0, .ref (ad 0 0)), (1, .int p2), (2, .ref a_c), (3, .ref a_w), (4, .ref a_u), (5, .ref a_x), (6, .ref a_l), (7, .ref a_f), (8, .ref a_v), (9, .ref a_t), (10, .ref a_g), (11, .ref a_q), (12, .ref a_n), (13, .ref a_h), (14, .ref a_p), (15, .ref a_k)]) hx hb dL_asks_41 hl (by decide) rfl (fun ls hl => ?_)
  refine lv_aload_n hx hb dL_asks_43 rfl (lv_at hl 9 rfl) ?_
  refine lv_aload_n hx hb dL_asks_44 rfl (lv_at hl 10 rfl) ?_
  refine lv_aload hx hb dL_asks_45 (lv_at hl 11 rfl) ?_
  refine lv_aload hx hb dL_asks_47 (lv_at hl 12 rfl) ?_
  refine lv_aload hx hb dL_asks_49 (lv_at hl 13 rfl) ?_
  refine lv_aload hx hb dL_asks_51 (lv_at hl 14 rfl) ?_
  refine lv_aload hx hb dL_asks_53 (lv_at hl 15 rfl) ?_
  refine lv_aload hx hb dL_asks_55 (lv_at hl 16 rfl) ?_
  replace hW := hW.perm pf13
  replace hW := hW.perm pf13
  replace hW := hW.perm pf13
  replace hW := hW.perm pf13
  replace hW := hW.perm pf13
  replace hW := hW.perm pf13
  replace hW := hW.perm pf13
  replace hW := hW.perm pf13
  obtain ⟨x_l3, x_f4, x_v5, q6, h⟩ := bnd3_s h
  refine cs_L_203 hx hb hml hown hts hK hN hE hC hA hW (c_L_looks l D T A a_c a_w a_u a_x a_l a_f a_v a_t (oA T 64 a_nw6 x_nw60 ++ (oA T 6 a_nw5 x_nw50 ++ (oA T 48 a_nw4 x_nw40 ++ (oA T 64 a_nw3 x_nw30 ++ (oA T 64 a_nw2 x_nw20 ++ (oA T 64 a_nw1 x_nw10 ++ (oA T 20 a_g x_g ++ (oA T 60 a_q x_q ++ (oA T 5 a_n x_n ++ (oA T 16 a_h x_h ++ (oA T 30 a_p x_p ++ (oA T 6 a_k x_k ++ (oc_X10 T (ad 0) (bb ad) (x_K 0) ++ (wkL T ad x_K L18 ++ Z)))))))))))))) x_c x_w x_u x_x x_l x_f x_v x_t x_l3 x_f4 x_v5 q6) ⟨Nat.le_of_ble_eq_true rfl, Nat.le_of_ble_eq_true rfl⟩ hl.1 rfl (Nat.le_of_ble_eq_true rfl) dL_asks_57 (hf0 (Nat.le_of_ble_eq_true rfl)) rfl (fun H locs hW => ?_)
  replace hW := hW.perm pf21
  replace hW := hW.perm pf21
  replace hW := hW.perm pf21
  replace hW := hW.perm pf21
  replace hW := hW.perm pf21
  replace hW := hW.perm pf21
  replace hW := hW.perm pf21
  replace hW := hW.perm pf21
  replace hW := hW.perm pf15
  replace hW := hW.perm pf15
  replace hW := hW.perm pf15
  replace hW := hW.perm pf15
  replace hW := hW.perm pf15
  replace hW := hW.perm pf15
  replace hW := hW.perm pf15
  replace hW := hW.perm pf15
  replace hW := hW.perm pf21
  replace hW := hW.perm pf21
  replace hW := hW.perm pf21
  replace hW := hW.perm pf21
  replace hW := hW.perm pf21
  replace hW := hW.perm pf21
  refine lv_iconst (v := 0) hx hb dL_asks_60 (by decide) ?_
  refine lv_istore (lv' := [(23, .int 0), (22, .int r1), (21, .ref a_nw6), (20, .ref a_nw5), (19, .ref a_nw4), (18, .ref a_nw3), (17, .ref a_nw2), (16, .ref a_nw1), (0, .ref (ad 0 0)), (1, .int p2), (2, .ref a_c), (3, .ref a_w), (4, .ref a_u), (5, .ref a_x), (6, .ref a_l), (7, .ref a_f), (8, .ref a_v), (9, .ref a_t), (10, .ref a_g), (11, .ref a_q), (12, .ref a_n), (13, .ref a_h), (14, .ref a_p), (15, .ref a_k)]) hx hb dL_asks_61 hl (by decide) rfl (fun ls hl => ?_)
  obtain ⟨code44, o23_u43, y_K_u43, y_N_u43, q45, h⟩ := bnd4_s h
  obtain ⟨gN46, h⟩ := grd_s h
  have gN46 := of_decide_eq_true gN46
  refine L63 400 _ _ _ _ _ _ _ _ _ _ _ _ _ _ _ (Nat.le_of_ble_eq_true rfl) H locs ls code44 o23_u43 y_K_u43 y_N_u43 hW (lv_sub hl [8, 10, 11, 12, 13, 14, 15, 16, 18, 19, 20, 21, 22, 23, 7, 6, 5, 4, 3, 2, 1, 0] rfl) q45 (fun hc H locs ls hW hl => ?_) (fun hc H locs ls hW hl => ?_)
  · replace h := ite_t hc h
    refine lv_aload_n hx hb dL_asks_201 rfl (lv_at hl 1 rfl) ?_
    refine lv_aload_n hx hb dL_asks_202 rfl (lv_at hl 2 rfl) ?_
    refine lv_aload hx hb dL_asks_203 (lv_at hl 3 rfl) ?_
    refine lv_aload hx hb dL_asks_205 (lv_at hl 4 rfl) ?_
    refine lv_aload hx hb dL_asks_207 (lv_at hl 5 rfl) ?_
    refine lv_aload hx hb dL_asks_209 (lv_at hl 11 rfl) ?_
    refine lv_aload hx hb dL_asks_211 (lv_at hl 12 rfl) ?_
    refine lv_aload hx hb dL_asks_213 (lv_at hl 18 rfl) ?_
    refine lv_iload hx hb dL_asks_215 (lv_at hl 19 rfl) ?_
    replace hW := hW.perm pf19
    replace hW := hW.perm pf19
    replace hW := hW.perm pf12
    replace hW := hW.perm pf12
    replace hW := hW.perm pf12
    replace hW := hW.perm pf12
    replace hW := hW.perm pf12
    obtain ⟨r47, x_nw648, q49, h⟩ := bnd2_s h
    refine cs_L_207 hx hb hml hown hts hK hN hE hC hA hW (c_L_style l D T A a_c a_w a_u a_x a_l a_p a_k a_nw6 (oA T 6 a_nw5 x_nw50 ++ (oA T 48 a_nw4 x_nw40 ++ (oA T 64 a_nw3 x_nw30 ++ (oA T 64 a_nw2 x_nw20 ++ (oA T 64 a_nw1 x_nw10 ++ (oA T 6 a_f x_f4 ++ (oA T 12 a_v x_v5 ++ (oA T 20 a_t x_t ++ (oA T 20 a_g x_g ++ (oA T 60 a_q x_q ++ (oA T 5 a_n x_n ++ (oA T 16 a_h x_h ++ (oc_X10 T (ad 0) (bb ad) (y_K_u43 0) ++ (wkL T ad y_K_u43 L18 ++ Z)))))))))))))) x_c x_w x_u x_x x_l3 x_p x_k x_nw60 r1 r47 x_nw648 q49) ⟨Nat.le_of_ble_eq_true rfl, Nat.le_of_ble_eq_true rfl⟩ hl.1 rfl (Nat.le_of_ble_eq_true rfl) dL_asks_217 (hf0 gN46) rfl (fun H locs hW => ?_)
    replace hW := hW.perm pf21
    replace hW := hW.perm pf21
    replace hW := hW.perm pf8
    replace hW := hW.perm pf8
    replace hW := hW.perm pf21
    replace hW := hW.perm pf21
    replace hW := hW.perm pf21
    replace hW := hW.perm pf21
    replace hW := hW.perm pf21
    replace hW := hW.perm pf21
    replace hW := hW.perm pf21
    replace hW := hW.perm pf15
    replace hW := hW.perm pf15
    replace hW := hW.perm pf15
    replace hW := hW.perm pf15
    replace hW := hW.perm pf15
    replace hW := hW.perm pf21
    replace hW := hW.perm pf21
    replace hW := hW.perm pf21
    replace hW := hW.perm pf21
    replace hW := hW.perm pf21
    replace hW := hW.perm pf21
    refine lv_istore (lv' := [(23, .int r47), (0, .ref (ad 0 0)), (2, .ref a_c), (3, .ref a_w), (4, .ref a_u), (5, .ref a_x), (6, .ref a_l), (8, .ref a_v), (10, .ref a_g), (11, .ref a_q), (12, .ref a_n), (13, .ref a_h), (14, .ref a_p), (15, .ref a_k), (16, .ref a_nw1), (17, .ref a_nw2), (18, .ref a_nw3), (19, .ref a_nw4), (20, .ref a_nw5), (21, .ref a_nw6), (22, .int r1)]) hx hb dL_asks_220 hl (by decide) rfl (fun ls hl => ?_)
    refine lv_aload_n hx hb dL_asks_222 rfl (lv_at hl 1 rfl) ?_
    refine lv_iconst (v := 1) hx hb dL_asks_223 (by decide) ?_
    refine lv_iload hx hb dL_asks_224 (lv_at hl 20 rfl) ?_
    replace hW := hW.perm pf21
    replace hW := hW.perm pf21
    obtain ⟨r50, x_K51, q52, h⟩ := bnd2_s h
    obtain ⟨gN53, h⟩ := grd_s h
    have gN53 := of_decide_eq_true gN53
    refine cs_L_211 hx hb hml hown hts hK hN hE hC hA hW (c_L_one l hfl D T A ad hok (oA T 64 a_nw6 x_nw648 ++ (oA T 6 a_nw5 x_nw50 ++ (oA T 48 a_nw4 x_nw40 ++ (oA T 64 a_nw3 x_nw30 ++ (oA T 64 a_nw2 x_nw20 ++ (oA T 64 a_nw1 x_nw10 ++ (oA T 12 a_c x_c ++ (oA T 24 a_w x_w ++ (oA T 2 a_u x_u ++ (oA T 6 a_x x_x ++ (oA T 6 a_l x_l3 ++ (oA T 6 a_f x_f4 ++ (oA T 12 a_v x_v5 ++ (oA T 20 a_t x_t ++ (oA T 20 a_g x_g ++ (oA T 60 a_q x_q ++ (oA T 5 a_n x_n ++ (oA T 16 a_h x_h ++ (oA T 30 a_p x_p ++ (oA T 6 a_k x_k ++ Z)))))))))))))))))))) y_K_u43 1 r1 r50 x_K51 q52) ⟨Nat.le_of_ble_eq_true rfl, Nat.le_of_ble_eq_true rfl⟩ hl.1 rfl (Nat.le_of_ble_eq_true rfl) dL_asks_226 (hfB gN53) rfl (fun H locs hW => ?_)
    replace hW := hW.perm pf1
    replace hW := hW.perm pf1
    replace hW := hW.perm pf21
    replace hW := hW.perm pf21
    replace hW := hW.perm pf21
    replace hW := hW.perm pf21
    replace hW := hW.perm pf21
    replace hW := hW.perm pf21
    replace hW := hW.perm pf21
    replace hW := hW.perm pf21
    replace hW := hW.perm pf21
    replace hW := hW.perm pf21
    replace hW := hW.perm pf21
    replace hW := hW.perm pf21
    replace hW := hW.perm pf21
    replace hW := hW.perm pf21
    replace hW := hW.perm pf21
    replace hW := hW.perm pf21
    replace hW := hW.perm pf21
    replace hW := hW.perm pf21
    replace hW := hW.perm pf21
    replace hW := hW.perm pf21
    refine lv_aload_n hx hb dL_asks_229 rfl (lv_at hl 2 rfl) ?_
    refine lv_bipush (v := 8) hx hb dL_asks_230 (by decide) ?_
    refine lv_iload hx hb dL_asks_232 (lv_at hl 20 rfl) ?_
    refine lv_iadd hx hb dL_asks_234 ?_
    obtain ⟨g54, h⟩ := grd_s h
    refine g_iald hx hb hK hW 6 rfl g54 dL_asks_235 ?_
    refine lv_icmp_ne (tgt := 305) hx hb dL_asks_236 (by decide) (fun c55 => ?_) (fun c55 => ?_)
    · replace h := ite_f c55 h
      refine lv_iconst (v := 0) hx hb dL_asks_305 (by decide) ?_
      obtain ⟨rfl, rfl, rfl, rfl, rfl, rfl, rfl⟩ := ret7 h
      rw [hQ]
      replace hW := hW.tl
      replace hW := hW.tl
      replace hW := hW.tl
      replace hW := hW.tl
      replace hW := hW.tl
      replace hW := hW.tl
      refine W.widen (k := 4750) (n := (16 * 4750)) gN53 (Nat.mul_le_mul_left 16 gN53) ?_
      exact g_retz hx hb hr hlk hW (by decide) dL_asks_306
    · replace h := ite_t c55 h
      refine lv_aload_n hx hb dL_asks_239 rfl (lv_at hl 1 rfl) ?_
      refine lv_bipush (v := 8) hx hb dL_asks_240 (by decide) ?_
      refine lv_iload hx hb dL_asks_242 (lv_at hl 20 rfl) ?_
      replace hW := hW.perm pf21
      replace hW := hW.perm pf21
      obtain ⟨r56, x_K57, q58, h⟩ := bnd2_s h
      obtain ⟨gN59, h⟩ := grd_s h
      have gN59 := of_decide_eq_true gN59
      refine cs_L_211 hx hb hml hown hts hK hN hE hC hA hW (c_L_one l hfl D T A ad hok (oA T 64 a_nw6 x_nw648 ++ (oA T 6 a_nw5 x_nw50 ++ (oA T 48 a_nw4 x_nw40 ++ (oA T 64 a_nw3 x_nw30 ++ (oA T 64 a_nw2 x_nw20 ++ (oA T 64 a_nw1 x_nw10 ++ (oA T 12 a_c x_c ++ (oA T 24 a_w x_w ++ (oA T 2 a_u x_u ++ (oA T 6 a_x x_x ++ (oA T 6 a_l x_l3 ++ (oA T 6 a_f x_f4 ++ (oA T 12 a_v x_v5 ++ (oA T 20 a_t x_t ++ (oA T 20 a_g x_g ++ (oA T 60 a_q x_q ++ (oA T 5 a_n x_n ++ (oA T 16 a_h x_h ++ (oA T 30 a_p x_p ++ (oA T 6 a_k x_k ++ Z)))))))))))))))))))) x_K51 8 r1 r56 x_K57 q58) ⟨Nat.le_of_ble_eq_true rfl, Nat.le_of_ble_eq_true rfl⟩ hl.1 rfl (Nat.le_of_ble_eq_true rfl) dL_asks_244 (hfB gN59) rfl (fun H locs hW => ?_)
      replace hW := hW.perm pf1
      replace hW := hW.perm pf1
      replace hW := hW.perm pf21
      replace hW := hW.perm pf21
      replace hW := hW.perm pf21
      replace hW := hW.perm pf21
      replace hW := hW.perm pf21
      replace hW := hW.perm pf21
      replace hW := hW.perm pf21
      replace hW := hW.perm pf21
      replace hW := hW.perm pf21
      replace hW := hW.perm pf21
      replace hW := hW.perm pf21
      replace hW := hW.perm pf21
      replace hW := hW.perm pf21
      replace hW := hW.perm pf21
      replace hW := hW.perm pf21
      replace hW := hW.perm pf21
      replace hW := hW.perm pf21
      replace hW := hW.perm pf21
      replace hW := hW.perm pf21
      replace hW := hW.perm pf21
      refine lv_iload hx hb dL_asks_247 (lv_at hl 0 rfl) ?_
      refine lv_icmp_ne (tgt := 305) hx hb dL_asks_249 (by decide) (fun c60 => ?_) (fun c60 => ?_)
      · replace h := ite_f c60 h
        refine lv_iconst (v := 0) hx hb dL_asks_305 (by decide) ?_
        obtain ⟨rfl, rfl, rfl, rfl, rfl, rfl, rfl⟩ := ret7 h
        rw [hQ]
        replace hW := hW.tl
        replace hW := hW.tl
        replace hW := hW.tl
        replace hW := hW.tl
        replace hW := hW.tl
        replace hW := hW.tl
        refine W.widen (k := 4750) (n := (16 * 4750)) gN59 (Nat.mul_le_mul_left 16 gN59) ?_
        exact g_retz hx hb hr hlk hW (by decide) dL_asks_306
      · replace h := ite_t c60 h
        refine lv_iload hx hb dL_asks_252 (lv_at hl 0 rfl) ?_
        refine lv_if_le (tgt := 279) hx hb dL_asks_254 (by decide) (fun c61 => ?_) (fun c61 => ?_)
        · replace h := ite_t c61 h
          exact J279 _ _ _ _ _ _ _ _ _ _ _ _ _ _ _ gN59 H locs ls hW (lv_sub hl [1, 2, 3, 4, 5, 6, 7, 8, 9, 10, 11, 14, 15, 16, 17, 18, 19, 20, 0] rfl) h
        · replace h := ite_f c61 h
          refine lv_aload_n hx hb dL_asks_257 rfl (lv_at hl 1 rfl) ?_
          refine lv_bipush (v := 8) hx hb dL_asks_258 (by decide) ?_
          refine lv_iload hx hb dL_asks_260 (lv_at hl 20 rfl) ?_
          refine lv_iload hx hb dL_asks_262 (lv_at hl 0 rfl) ?_
          refine lv_iconst (v := 1) hx hb dL_asks_264 (by decide) ?_
          refine lv_isub hx hb dL_asks_265 ?_
          replace hW := hW.perm pf21
          replace hW := hW.perm pf21
          obtain ⟨r217, x_K218, q219, h⟩ := bnd2_s h
          obtain ⟨gN220, h⟩ := grd_s h
          have gN220 := of_decide_eq_true gN220
          refine cs_L_192 hx hb hml hown hts hK hN hE hC hA hW (c_L_two l hfl D T A ad hok (oA T 64 a_nw6 x_nw648 ++ (oA T 6 a_nw5 x_nw50 ++ (oA T 48 a_nw4 x_nw40 ++ (oA T 64 a_nw3 x_nw30 ++ (oA T 64 a_nw2 x_nw20 ++ (oA T 64 a_nw1 x_nw10 ++ (oA T 12 a_c x_c ++ (oA T 24 a_w x_w ++ (oA T 2 a_u x_u ++ (oA T 6 a_x x_x ++ (oA T 6 a_l x_l3 ++ (oA T 6 a_f x_f4 ++ (oA T 12 a_v x_v5 ++ (oA T 20 a_t x_t ++ (oA T 20 a_g x_g ++ (oA T 60 a_q x_q ++ (oA T 5 a_n x_n ++ (oA T 16 a_h x_h ++ (oA T 30 a_p x_p ++ (oA T 6 a_k x_k ++ Z)))))))))))))))))))) x_K57 8 r1 (r47 - 1) r217 x_K218 q219) ⟨Nat.le_of_ble_eq_true rfl, Nat.le_of_ble_eq_true rfl⟩ hl.1 rfl (Nat.le_of_ble_eq_true rfl) dL_asks_266 (hfB gN220) rfl (fun H locs hW => ?_)
          replace hW := hW.perm pf1
          replace hW := hW.perm pf1
          replace hW := hW.perm pf21
          replace hW := hW.perm pf21
          replace hW := hW.perm pf21
          replace hW := hW.perm pf21
          replace hW := hW.perm pf21
          replace hW := hW.perm pf21
          replace hW := hW.perm pf21
          replace hW := hW.perm pf21
          replace hW := hW.perm pf21
          replace hW := hW.perm pf21
          replace hW := hW.perm pf21
          replace hW := hW.perm pf21
          replace hW := hW.perm pf21
          replace hW := hW.perm pf21
          replace hW := hW.perm pf21
          replace hW := hW.perm pf21
          replace hW := hW.perm pf21
          replace hW := hW.perm pf21
          replace hW := hW.perm pf21
          replace hW := hW.perm pf21
          refine lv_aload hx hb dL_asks_269 (lv_at hl 19 rfl) ?_
          refine lv_iload hx hb dL_asks_271 (lv_at hl 0 rfl) ?_
          refine lv_iconst (v := 1) hx hb dL_asks_273 (by decide) ?_
          refine lv_isub hx hb dL_asks_274 ?_
          obtain ⟨g221, h⟩ := grd_s h
          refine g_iald hx hb hK hW 0 rfl g221 dL_asks_275 ?_
          refine lv_icmp_ne (tgt := 305) hx hb dL_asks_276 (by decide) (fun c222 => ?_) (fun c222 => ?_)
          · replace h := ite_f c222 h
            refine lv_iconst (v := 0) hx hb dL_asks_305 (by decide) ?_
            obtain ⟨rfl, rfl, rfl, rfl, rfl, rfl, rfl⟩ := ret7 h
            rw [hQ]
            replace hW := hW.tl
            replace hW := hW.tl
            replace hW := hW.tl
            replace hW := hW.tl
            replace hW := hW.tl
            replace hW := hW.tl
            refine W.widen (k := 4750) (n := (16 * 4750)) gN220 (Nat.mul_le_mul_left 16 gN220) ?_
            exact g_retz hx hb hr hlk hW (by decide) dL_asks_306
          · replace h := ite_t c222 h
            exact J279 _ _ _ _ _ _ _ _ _ _ _ _ _ _ _ gN220 H locs ls hW (lv_sub hl [1, 2, 3, 4, 5, 6, 7, 8, 9, 10, 11, 14, 15, 16, 17, 18, 19, 20, 0] rfl) h
  · replace h := ite_f (by rw [hc]; decide) h
    refine lv_iconst (v := 0) hx hb dL_asks_193 (by decide) ?_
    obtain ⟨rfl, rfl, rfl, rfl, rfl, rfl, rfl⟩ := ret7 h
    rw [hQ]
    replace hW := hW.tl
    replace hW := hW.tl
    replace hW := hW.tl
    replace hW := hW.tl
    replace hW := hW.tl
    replace hW := hW.tl
    refine W.widen (k := 4750) (n := (16 * 4750)) gN46 (Nat.mul_le_mul_left 16 gN46) ?_
    exact g_retz hx hb hr hlk hW (by decide) dL_asks_194
