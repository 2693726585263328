set_option maxHeartbeats 16000000 in
set_option maxRecDepth 100000 in
theorem c_L_adds (l : Launch) (hfl : l.stackTraces = false) (D : va_G) (T : Nat → ClassId) (A : Nat → Prop) (ad : Nat → Nat → Nat) (hok : okad ad) (Z : va_W) (x_K : Nat → Ob) (p2 : Int32) (r : Int32) (x_K9 : Nat → Ob) (h : f_L_adds x_K p2 = some (r, x_K9)) : Met l yL_adds (Cond.codeWith yL_adds cL_adds 3 (some .int) [(0, 5, 6, 73), (0, 5, 11, 75)] :: wsL_law) (rmL 7 1) (Pl D T A (oc_X10 T (ad 0) (bb ad) (x_K 0) ++ (wkL T ad x_K L18 ++ Z)) [.ref (ad 0 0), .int p2]) (Qgi D A (oc_X10 T (ad 0) (bb ad) (x_K9 0) ++ (wkL T ad x_K9 L18 ++ Z)) r) 1 16 A := by
  refine va_MetW (cc := cL_adds) (maxL := 3) (ret := (some .int)) (hh := [(0, 5, 6, 73), (0, 5, 11, 75)]) (by decide +kernel) rfl ?_
  intro p e s m args below meth c s₁ B hml hv
  obtain ⟨ha, hP, hK, hD, hN, hE, hC, hA⟩ := hv
  have hx := B.exec
  have hb := B.bytes
  have hr := B.returns
  have hlk := B.notSynchronized
  have hts0 := atoms_spec (ws := Cond.codeWith yL_adds cL_adds 3 (some .int) [(0, 5, 6, 73), (0, 5, 11, 75)] :: wsL_law) B.pre
  have hts : ∀ w ∈ wsL_law, w.before args s = true := fun w hw => hts0 w (List.mem_cons_of_mem _ hw)
  have htab := vx_table (x := yL_adds) B (hts0 _ List.mem_cons_self)
  have hown : s.vm.findClass RL = some m.cls := findClass_of_methodNamed B.named
  have hW : Wd D A s.heap (oc_X10 T (ad 0) (bb ad) (x_K 0) ++ (wkL T ad x_K L18 ++ Z)) s.heap [] := ⟨hP, hD, va_S.rf⟩
  have hl := lv_entry [.ref (ad 0 0), .int p2] (n := 3) (Nat.le_of_ble_eq_true rfl)
  refine W.eq (en_eq ha) ?_
  generalize (lg_sl [.ref (ad 0 0), .int p2] ++ List.replicate (3 - (lg_sl [.ref (ad 0 0), .int p2]).length) Slot.unset).toArray = ls at hl ⊢
  have hl : lv_has ls 3 [(0, .ref (ad 0 0)), (1, .int p2)] := hl
  clear hP hD B ha
  obtain ⟨Q, hQ⟩ : ∃ Q, Q = MQ below (Qgi D A (oc_X10 T (ad 0) (bb ad) (x_K9 0) ++ (wkL T ad x_K9 L18 ++ Z)) r) args s 1 16 A := ⟨_, rfl⟩
  rw [← hQ]
  change W p l e (rmL 7 1) s m args below meth c s.heap [] 0 0 Q (F0 m 0 ls [])
  rw [f_L_adds] at h
  refine lv_aload_n hx hb dL_adds_0 rfl (lv_at hl 0 rfl) ?_
  refine lv_iload_n hx hb dL_adds_1 rfl (lv_at hl 1 rfl) ?_
  obtain ⟨k, r2, z_K, q1, h⟩ := bnd3_s h
  obtain ⟨v, q2, h⟩ := bnd1_s h
  obtain ⟨e1, e2⟩ := ret2 h
  replace e1 := e1.symm
  replace e2 := e2.symm
  subst e1
  subst e2
  rw [hQ]
  rcases kt23 q2 with ⟨rfl, rfl⟩ | ⟨rfl, rfl⟩ | ⟨rfl, rfl⟩
  · refine x0_vi hx hb hml hown hts hK hN hE hW (g_cw (n := 1) hts wm7_19 wm7_20 wm7_21 wm1_2 wm7_22 ⟨rfl, by decide +kernel, by decide +kernel, by decide +kernel⟩ ⟨rfl, rfl⟩ ⟨Nat.le_of_ble_eq_true rfl, Nat.le_of_ble_eq_true rfl⟩) ⟨10, (RX10, TX10, 13), _, rfl, rfl, rfl⟩ (c_X10_word l hfl D T A ad hok Z x_K p2 0 v z_K q1) rfl hl.1 rfl (Nat.le_of_ble_eq_true rfl) dL_adds_2 ⟨Nat.zero_le _, Nat.zero_le _⟩ (fun H locs hW => ?_)
    refine W.widen (k := 1) (n := 16) (Nat.zero_le _) (Nat.zero_le _) ?_
    exact g_reti hx hb hr hlk hW dL_adds_5
  · refine xc_vi (k := 2) (by decide) hx hb hml hown hts hK hN hE hW (g_cw (n := 1) hts wm7_19 wm7_20 wm7_21 wm1_2 wm7_22 ⟨rfl, by decide +kernel, by decide +kernel, by decide +kernel⟩ ⟨rfl, rfl⟩ ⟨Nat.le_of_ble_eq_true rfl, Nat.le_of_ble_eq_true rfl⟩) ⟨10, (RX10, TX10, 13), _, rfl, rfl, rfl⟩ (c_X10_word l hfl D T A ad hok Z x_K p2 2 r2 z_K q1) rfl hl.1 rfl (Nat.le_of_ble_eq_true rfl) dL_adds_2 ⟨Nat.le_of_ble_eq_true rfl, Nat.le_of_ble_eq_true rfl⟩ (fun ce q9 H locs hW hce hcv hcl => ?_)
    refine vx_catch hown [] ⟨0, 5, 6, 73⟩ [⟨0, 5, 11, 75⟩] (htab.trans rfl) (fun z hz => absurd hz List.not_mem_nil) (by decide) (by decide) (hts _ wm7_17) (va_Nw.use rfl (hE.2.2.1 (exN 2) (by decide))) hce hcv hcl ?_
    refine lv_astore_n (lv' := [(2, .ref q9), (0, .ref (ad 0 0)), (1, .int p2)]) hx hb dL_adds_6 rfl hl (by decide) rfl (fun ls hl => ?_)
    refine lv_sipush (v := (-1002)) hx hb dL_adds_7 (by decide) ?_
    refine W.widen (k := 1) (n := 16) (Nat.le_of_ble_eq_true rfl) (Nat.le_of_ble_eq_true rfl) ?_
    exact g_reti hx hb hr hlk hW dL_adds_10
  · refine xc_vi (k := 3) (by decide) hx hb hml hown hts hK hN hE hW (g_cw (n := 1) hts wm7_19 wm7_20 wm7_21 wm1_2 wm7_22 ⟨rfl, by decide +kernel, by decide +kernel, by decide +kernel⟩ ⟨rfl, rfl⟩ ⟨Nat.le_of_ble_eq_true rfl, Nat.le_of_ble_eq_true rfl⟩) ⟨10, (RX10, TX10, 13), _, rfl, rfl, rfl⟩ (c_X10_word l hfl D T A ad hok Z x_K p2 3 r2 z_K q1) rfl hl.1 rfl (Nat.le_of_ble_eq_true rfl) dL_adds_2 ⟨Nat.le_of_ble_eq_true rfl, Nat.le_of_ble_eq_true rfl⟩ (fun ce q9 H locs hW hce hcv hcl => ?_)
    refine vx_catch hown [⟨0, 5, 6, 73⟩] ⟨0, 5, 11, 75⟩ [] (htab.trans rfl) (fun z hz => by
      simp only [List.mem_cons, List.not_mem_nil, or_false] at hz
      rcases hz with rfl
      · exact Or.inr ⟨by decide, _, hts _ wm7_17, hC _ (List.mem_of_getElem? (i := 0) rfl)⟩) (by decide) (by decide) (hts _ wm7_18) (va_Nw.use rfl (hE.2.2.1 (exN 3) (by decide))) hce hcv hcl ?_
    refine lv_astore_n (lv' := [(2, .ref q9), (0, .ref (ad 0 0)), (1, .int p2)]) hx hb dL_adds_11 rfl hl (by decide) rfl (fun ls hl => ?_)
    refine lv_sipush (v := (-1003)) hx hb dL_adds_12 (by decide) ?_
    refine W.widen (k := 1) (n := 16) (Nat.le_of_ble_eq_true rfl) (Nat.le_of_ble_eq_true rfl) ?_
    exact g_reti hx hb hr hlk hW dL_adds_15
set_option maxHeartbeats 16000000 in
set_option maxRecDepth 100000 in
theorem c_L_tells (l : Launch) (hfl : l.stackTraces = false) (D : va_G) (T : Nat → ClassId) (A : Nat → Prop) (ad : Nat → Nat → Nat) (hok : okad ad) (Z : va_W) (x_K : Nat → Ob) (p2 : Int32) (p3 : Int32) (p4 : Int32) (p5 : Int32) (p6 : Int32) (p7 : Int32) (r : Int32) (x_K9 : Nat → Ob) (h : f_L_tells x_K p2 p3 p4 p5 p6 p7 = some (r, x_K9)) : Met l yL_tells (Cond.codeWith yL_tells cL_tells 8 (some .int) [(0, 13, 14, 80), (0, 13, 20, 73), (0, 13, 26, 75)] :: wsL_law) (rmL 8 1) (Pl D T A (oc_X10 T (ad 0) (bb ad) (x_K 0) ++ (wkL T ad x_K L18 ++ Z)) [.ref (ad 0 0), .int p2, .int p3, .int p4, .int p5, .int p6, .int p7]) (Qgi D A (oc_X10 T (ad 0) (bb ad) (x_K9 0) ++ (wkL T ad x_K9 L18 ++ Z)) r) 1 16 A := by
  refine va_MetW (cc := cL_tells) (maxL := 8) (ret := (some .int)) (hh := [(0, 13, 14, 80), (0, 13, 20, 73), (0, 13, 26, 75)]) (by decide +kernel) rfl ?_
  intro p e s m args below meth c s₁ B hml hv
  obtain ⟨ha, hP, hK, hD, hN, hE, hC, hA⟩ := hv
  have hx := B.exec
  have hb := B.bytes
  have hr := B.returns
  have hlk := B.notSynchronized
  have hts0 := atoms_spec (ws := Cond.codeWith yL_tells cL_tells 8 (some .int) [(0, 13, 14, 80), (0, 13, 20, 73), (0, 13, 26, 75)] :: wsL_law) B.pre
  have hts : ∀ w ∈ wsL_law, w.before args s = true := fun w hw => hts0 w (List.mem_cons_of_mem _ hw)
  have htab := vx_table (x := yL_tells) B (hts0 _ List.mem_cons_self)
  have hown : s.vm.findClass RL = some m.cls := findClass_of_methodNamed B.named
  have hW : Wd D A s.heap (oc_X10 T (ad 0) (bb ad) (x_K 0) ++ (wkL T ad x_K L18 ++ Z)) s.heap [] := ⟨hP, hD, va_S.rf⟩
  have hl := lv_entry [.ref (ad 0 0), .int p2, .int p3, .int p4, .int p5, .int p6, .int p7] (n := 8) (Nat.le_of_ble_eq_true rfl)
  refine W.eq (en_eq ha) ?_
  generalize (lg_sl [.ref (ad 0 0), .int p2, .int p3, .int p4, .int p5, .int p6, .int p7] ++ List.replicate (8 - (lg_sl [.ref (ad 0 0), .int p2, .int p3, .int p4, .int p5, .int p6, .int p7]).length) Slot.unset).toArray = ls at hl ⊢
  have hl : lv_has ls 8 [(0, .ref (ad 0 0)), (1, .int p2), (2, .int p3), (3, .int p4), (4, .int p5), (5, .int p6), (6, .int p7)] := hl
  clear hP hD B ha
  obtain ⟨Q, hQ⟩ : ∃ Q, Q = MQ below (Qgi D A (oc_X10 T (ad 0) (bb ad) (x_K9 0) ++ (wkL T ad x_K9 L18 ++ Z)) r) args s 1 16 A := ⟨_, rfl⟩
  rw [← hQ]
  change W p l e (rmL 8 1) s m args below meth c s.heap [] 0 0 Q (F0 m 0 ls [])
  rw [f_L_tells] at h
  refine lv_aload_n hx hb dL_tells_0 rfl (lv_at hl 0 rfl) ?_
  refine lv_iload_n hx hb dL_tells_1 rfl (lv_at hl 1 rfl) ?_
  refine lv_iload_n hx hb dL_tells_2 rfl (lv_at hl 2 rfl) ?_
  refine lv_iload_n hx hb dL_tells_3 rfl (lv_at hl 3 rfl) ?_
  refine lv_iload hx hb dL_tells_4 (lv_at hl 4 rfl) ?_
  refine lv_iload hx hb dL_tells_6 (lv_at hl 5 rfl) ?_
  refine lv_iload hx hb dL_tells_8 (lv_at hl 6 rfl) ?_
  obtain ⟨k, r2, z_K, q1, h⟩ := bnd3_s h
  obtain ⟨v, q2, h⟩ := bnd1_s h
  obtain ⟨e1, e2⟩ := ret2 h
  replace e1 := e1.symm
  replace e2 := e2.symm
  subst e1
  subst e2
  rw [hQ]
  rcases kt123 q2 with ⟨rfl, rfl⟩ | ⟨rfl, rfl⟩ | ⟨rfl, rfl⟩ | ⟨rfl, rfl⟩
  · refine x0_vi hx hb hml hown hts hK hN hE hW (g_cw (n := 6) hts wm8_18 wm8_19 wm8_20 wm1_2 wm8_21 ⟨rfl, by decide +kernel, by decide +kernel, by decide +kernel⟩ ⟨rfl, rfl⟩ ⟨Nat.le_of_ble_eq_true rfl, Nat.le_of_ble_eq_true rfl⟩) ⟨10, (RX10, TX10, 13), _, rfl, rfl, rfl⟩ (c_X10_reading l hfl D T A ad hok Z x_K p2 p3 p4 p5 p6 p7 0 v z_K q1) rfl hl.1 rfl (Nat.le_of_ble_eq_true rfl) dL_tells_10 ⟨Nat.zero_le _, Nat.zero_le _⟩ (fun H locs hW => ?_)
    refine W.widen (k := 1) (n := 16) (Nat.zero_le _) (Nat.zero_le _) ?_
    exact g_reti hx hb hr hlk hW dL_tells_13
  · refine xc_vi (k := 1) (by decide) hx hb hml hown hts hK hN hE hW (g_cw (n := 6) hts wm8_18 wm8_19 wm8_20 wm1_2 wm8_21 ⟨rfl, by decide +kernel, by decide +kernel, by decide +kernel⟩ ⟨rfl, rfl⟩ ⟨Nat.le_of_ble_eq_true rfl, Nat.le_of_ble_eq_true rfl⟩) ⟨10, (RX10, TX10, 13), _, rfl, rfl, rfl⟩ (c_X10_reading l hfl D T A ad hok Z x_K p2 p3 p4 p5 p6 p7 1 r2 z_K q1) rfl hl.1 rfl (Nat.le_of_ble_eq_true rfl) dL_tells_10 ⟨Nat.le_of_ble_eq_true rfl, Nat.le_of_ble_eq_true rfl⟩ (fun ce q9 H locs hW hce hcv hcl => ?_)
    refine vx_catch hown [] ⟨0, 13, 14, 80⟩ [⟨0, 13, 20, 73⟩, ⟨0, 13, 26, 75⟩] (htab.trans rfl) (fun z hz => absurd hz List.not_mem_nil) (by decide) (by decide) (hts _ wm8_17) (va_Nw.use rfl (hE.2.2.1 (exN 1) (by decide))) hce hcv hcl ?_
    refine lv_astore (lv' := [(7, .ref q9), (0, .ref (ad 0 0)), (1, .int p2), (2, .int p3), (3, .int p4), (4, .int p5), (5, .int p6), (6, .int p7)]) hx hb dL_tells_14 hl (by decide) rfl (fun ls hl => ?_)
    refine lv_sipush (v := (-1001)) hx hb dL_tells_16 (by decide) ?_
    refine W.widen (k := 1) (n := 16) (Nat.le_of_ble_eq_true rfl) (Nat.le_of_ble_eq_true rfl) ?_
    exact g_reti hx hb hr hlk hW dL_tells_19
  · refine xc_vi (k := 2) (by decide) hx hb hml hown hts hK hN hE hW (g_cw (n := 6) hts wm8_18 wm8_19 wm8_20 wm1_2 wm8_21 ⟨rfl, by decide +kernel, by decide +kernel, by decide +kernel⟩ ⟨rfl, rfl⟩ ⟨Nat.le_of_ble_eq_true rfl, Nat.le_of_ble_eq_true rfl⟩) ⟨10, (RX10, TX10, 13), _, rfl, rfl, rfl⟩ (c_X10_reading l hfl D T A ad hok Z x_K p2 p3 p4 p5 p6 p7 2 r2 z_K q1) rfl hl.1 rfl (Nat.le_of_ble_eq_true rfl) dL_tells_10 ⟨Nat.le_of_ble_eq_true rfl, Nat.le_of_ble_eq_true rfl⟩ (fun ce q9 H locs hW hce hcv hcl => ?_)
    refine vx_catch hown [⟨0, 13, 14, 80⟩] ⟨0, 13, 20, 73⟩ [⟨0, 13, 26, 75⟩] (htab.trans rfl) (fun z hz => by
      simp only [List.mem_cons, List.not_mem_nil, or_false] at hz
      rcases hz with rfl
      · exact Or.inr ⟨by decide, _, hts _ wm8_17, hC _ (List.mem_of_getElem? (i := 1) rfl)⟩) (by decide) (by decide) (hts _ wm7_17) (va_Nw.use rfl (hE.2.2.1 (exN 2) (by decide))) hce hcv hcl ?_
    refine lv_astore (lv' := [(7, .ref q9), (0, .ref (ad 0 0)), (1, .int p2), (2, .int p3), (3, .int p4), (4, .int p5), (5, .int p6), (6, .int p7)]) hx hb dL_tells_20 hl (by decide) rfl (fun ls hl => ?_)
    refine lv_sipush (v := (-1002)) hx hb dL_tells_22 (by decide) ?_
    refine W.widen (k := 1) (n := 16) (Nat.le_of_ble_eq_true rfl) (Nat.le_of_ble_eq_true rfl) ?_
    exact g_reti hx hb hr hlk hW dL_tells_25
  · refine xc_vi (k := 3) (by decide) hx hb hml hown hts hK hN hE hW (g_cw (n := 6) hts wm8_18 wm8_19 wm8_20 wm1_2 wm8_21 ⟨rfl, by decide +kernel, by decide +kernel, by decide +kernel⟩ ⟨rfl, rfl⟩ ⟨Nat.le_of_ble_eq_true rfl, Nat.le_of_ble_eq_true rfl⟩) ⟨10, (RX10, TX10, 13), _, rfl, rfl, rfl⟩ (c_X10_reading l hfl D T A ad hok Z x_K p2 p3 p4 p5 p6 p7 3 r2 z_K q1) rfl hl.1 rfl (Nat.le_of_ble_eq_true rfl) dL_tells_10 ⟨Nat.le_of_ble_eq_true rfl, Nat.le_of_ble_eq_true rfl⟩ (fun ce q9 H locs hW hce hcv hcl => ?_)
    refine vx_catch hown [⟨0, 13, 14, 80⟩, ⟨0, 13, 20, 73⟩] ⟨0, 13, 26, 75⟩ [] (htab.trans rfl) (fun z hz => by
      simp only [List.mem_cons, List.not_mem_nil, or_false] at hz
      rcases hz with rfl | rfl
      · exact Or.inr ⟨by decide, _, hts _ wm8_17, hC _ (List.mem_of_getElem? (i := 2) rfl)⟩
      · exact Or.inr ⟨by decide, _, hts _ wm7_17, hC _ (List.mem_of_getElem? (i := 0) rfl)⟩) (by decide) (by decide) (hts _ wm7_18) (va_Nw.use rfl (hE.2.2.1 (exN 3) (by decide))) hce hcv hcl ?_
    refine lv_astore (lv' := [(7, .ref q9), (0, .ref (ad 0 0)), (1, .int p2), (2, .int p3), (3, .int p4), (4, .int p5), (5, .int p6), (6, .int p7)]) hx hb dL_tells_26 hl (by decide) rfl (fun ls hl => ?_)
    refine lv_sipush (v := (-1003)) hx hb dL_tells_28 (by decide) ?_
    refine W.widen (k := 1) (n := 16) (Nat.le_of_ble_eq_true rfl) (Nat.le_of_ble_eq_true rfl) ?_
    exact g_reti hx hb hr hlk hW dL_tells_31
set_option maxHeartbeats 16000000 in
set_option maxRecDepth 100000 in
theorem c_L_guesses (l : Launch) (hfl : l.stackTraces = false) (D : va_G) (T : Nat → ClassId) (A : Nat → Prop) (ad : Nat → Nat → Nat) (hok : okad ad) (Z : va_W) (x_K : Nat → Ob) (p2 : Int32) (p3 : Int32) (p4 : Int32) (p5 : Int32) (p6 : Int32) (r : Int32) (x_K9 : Nat → Ob) (h : f_L_guesses x_K p2 p3 p4 p5 p6 = some (r, x_K9)) : Met l yL_guesses (Cond.codeWith yL_guesses cL_guesses 7 (some .int) [(0, 11, 12, 73), (0, 11, 18, 75)] :: wsL_law) (rmL 7 1) (Pl D T A (oc_X10 T (ad 0) (bb ad) (x_K 0) ++ (wkL T ad x_K L18 ++ Z)) [.ref (ad 0 0), .int p2, .int p3, .int p4, .int p5, .int p6]) (Qgi D A (oc_X10 T (ad 0) (bb ad) (x_K9 0) ++ (wkL T ad x_K9 L18 ++ Z)) r) 1 16 A := by
  refine va_MetW (cc := cL_guesses) (maxL := 7) (ret := (some .int)) (hh := [(0, 11, 12, 73), (0, 11, 18, 75)]) (by decide +kernel) rfl ?_
  intro p e s m args below meth c s₁ B hml hv
  obtain ⟨ha, hP, hK, hD, hN, hE, hC, hA⟩ := hv
  have hx := B.exec
  have hb := B.bytes
  have hr := B.returns
  have hlk := B.notSynchronized
  have hts0 := atoms_spec (ws := Cond.codeWith yL_guesses cL_guesses 7 (some .int) [(0, 11, 12, 73), (0, 11, 18, 75)] :: wsL_law) B.pre
  have hts : ∀ w ∈ wsL_law, w.before args s = true := fun w hw => hts0 w (List.mem_cons_of_mem _ hw)
  have htab := vx_table (x := yL_guesses) B (hts0 _ List.mem_cons_self)
  have hown : s.vm.findClass RL = some m.cls := findClass_of_methodNamed B.named
  have hW : Wd D A s.heap (oc_X10 T (ad 0) (bb ad) (x_K 0) ++ (wkL T ad x_K L18 ++ Z)) s.heap [] := ⟨hP, hD, va_S.rf⟩
  have hl := lv_entry [.ref (ad 0 0), .int p2, .int p3, .int p4, .int p5, .int p6] (n := 7) (Nat.le_of_ble_eq_true rfl)
  refine W.eq (en_eq ha) ?_
  generalize (lg_sl [.ref (ad 0 0), .int p2, .int p3, .int p4, .int p5, .int p6] ++ List.replicate (7 - (lg_sl [.ref (ad 0 0), .int p2, .int p3, .int p4, .int p5, .int p6]).length) Slot.unset).toArray = ls at hl ⊢
  have hl : lv_has ls 7 [(0, .ref (ad 0 0)), (1, .int p2), (2, .int p3), (3, .int p4), (4, .int p5), (5, .int p6)] := hl
  clear hP hD B ha
  obtain ⟨Q, hQ⟩ : ∃ Q, Q = MQ below (Qgi D A (oc_X10 T (ad 0) (bb ad) (x_K9 0) ++ (wkL T ad x_K9 L18 ++ Z)) r) args s 1 16 A := ⟨_, rfl⟩
  rw [← hQ]
  change W p l e (rmL 7 1) s m args below meth c s.heap [] 0 0 Q (F0 m 0 ls [])
  rw [f_L_guesses] at h
  refine lv_aload_n hx hb dL_guesses_0 rfl (lv_at hl 0 rfl) ?_
  refine lv_iload_n hx hb dL_guesses_1 rfl (lv_at hl 1 rfl) ?_
  refine lv_iload_n hx hb dL_guesses_2 rfl (lv_at hl 2 rfl) ?_
  refine lv_iload_n hx hb dL_guesses_3 rfl (lv_at hl 3 rfl) ?_
  refine lv_iload hx hb dL_guesses_4 (lv_at hl 4 rfl) ?_
  refine lv_iload hx hb dL_guesses_6 (lv_at hl 5 rfl) ?_
  obtain ⟨k, r2, z_K, q1, h⟩ := bnd3_s h
  obtain ⟨v, q2, h⟩ := bnd1_s h
  obtain ⟨e1, e2⟩ := ret2 h
  replace e1 := e1.symm
  replace e2 := e2.symm
  subst e1
  subst e2
  rw [hQ]
  rcases kt23 q2 with ⟨rfl, rfl⟩ | ⟨rfl, rfl⟩ | ⟨rfl, rfl⟩
  · refine x0_vi hx hb hml hown hts hK hN hE hW (g_cw (n := 5) hts wm10_10 wm10_11 wm10_12 wm1_2 wm10_13 ⟨rfl, by decide +kernel, by decide +kernel, by decide +kernel⟩ ⟨rfl, rfl⟩ ⟨Nat.le_of_ble_eq_true rfl, Nat.le_of_ble_eq_true rfl⟩) ⟨10, (RX10, TX10, 13), _, rfl, rfl, rfl⟩ (c_X10_guess l hfl D T A ad hok Z x_K p2 p3 p4 p5 p6 0 v z_K q1) rfl hl.1 rfl (Nat.le_of_ble_eq_true rfl) dL_guesses_8 ⟨Nat.zero_le _, Nat.zero_le _⟩ (fun H locs hW => ?_)
    refine W.widen (k := 1) (n := 16) (Nat.zero_le _) (Nat.zero_le _) ?_
    exact g_reti hx hb hr hlk hW dL_guesses_11
  · refine xc_vi (k := 2) (by decide) hx hb hml hown hts hK hN hE hW (g_cw (n := 5) hts wm10_10 wm10_11 wm10_12 wm1_2 wm10_13 ⟨rfl, by decide +kernel, by decide +kernel, by decide +kernel⟩ ⟨rfl, rfl⟩ ⟨Nat.le_of_ble_eq_true rfl, Nat.le_of_ble_eq_true rfl⟩) ⟨10, (RX10, TX10, 13), _, rfl, rfl, rfl⟩ (c_X10_guess l hfl D T A ad hok Z x_K p2 p3 p4 p5 p6 2 r2 z_K q1) rfl hl.1 rfl (Nat.le_of_ble_eq_true rfl) dL_guesses_8 ⟨Nat.le_of_ble_eq_true rfl, Nat.le_of_ble_eq_true rfl⟩ (fun ce q9 H locs hW hce hcv hcl => ?_)
    refine vx_catch hown [] ⟨0, 11, 12, 73⟩ [⟨0, 11, 18, 75⟩] (htab.trans rfl) (fun z hz => absurd hz List.not_mem_nil) (by decide) (by decide) (hts _ wm7_17) (va_Nw.use rfl (hE.2.2.1 (exN 2) (by decide))) hce hcv hcl ?_
    refine lv_astore (lv' := [(6, .ref q9), (0, .ref (ad 0 0)), (1, .int p2), (2, .int p3), (3, .int p4), (4, .int p5), (5, .int p6)]) hx hb dL_guesses_12 hl (by decide) rfl (fun ls hl => ?_)
    refine lv_sipush (v := (-1002)) hx hb dL_guesses_14 (by decide) ?_
    refine W.widen (k := 1) (n := 16) (Nat.le_of_ble_eq_true rfl) (Nat.le_of_ble_eq_true rfl) ?_
    exact g_reti hx hb hr hlk hW dL_guesses_17
  · refine xc_vi (k := 3) (by decide) hx hb hml hown hts hK hN hE hW (g_cw (n := 5) hts wm10_10 wm10_11 wm10_12 wm1_2 wm10_13 ⟨rfl, by decide +kernel, by decide +kernel, by decide +kernel⟩ ⟨rfl, rfl⟩ ⟨Nat.le_of_ble_eq_true rfl, Nat.le_of_ble_eq_true rfl⟩) ⟨10, (RX10, TX10, 13), _, rfl, rfl, rfl⟩ (c_X10_guess l hfl D T A ad hok Z x_K p2 p3 p4 p5 p6 3 r2 z_K q1) rfl hl.1 rfl (Nat.le_of_ble_eq_true rfl) dL_guesses_8 ⟨Nat.le_of_ble_eq_true rfl, Nat.le_of_ble_eq_true rfl⟩ (fun ce q9 H locs hW hce hcv hcl => ?_)
    refine vx_catch hown [⟨0, 11, 12, 73⟩] ⟨0, 11, 18, 75⟩ [] (htab.trans rfl) (fun z hz => by
      simp only [List.mem_cons, List.not_mem_nil, or_false] at hz
      rcases hz with rfl
      · exact Or.inr ⟨by decide, _, hts _ wm7_17, hC _ (List.mem_of_getElem? (i := 0) rfl)⟩) (by decide) (by decide) (hts _ wm7_18) (va_Nw.use rfl (hE.2.2.1 (exN 3) (by decide))) hce hcv hcl ?_
    refine lv_astore (lv' := [(6, .ref q9), (0, .ref (ad 0 0)), (1, .int p2), (2, .int p3), (3, .int p4), (4, .int p5), (5, .int p6)]) hx hb dL_guesses_18 hl (by decide) rfl (fun ls hl => ?_)
    refine lv_sipush (v := (-1003)) hx hb dL_guesses_20 (by decide) ?_
    refine W.widen (k := 1) (n := 16) (Nat.le_of_ble_eq_true rfl) (Nat.le_of_ble_eq_true rfl) ?_
    exact g_reti hx hb hr hlk hW dL_guesses_23
set_option maxHeartbeats 16000000 in
set_option maxRecDepth 100000 in
theorem c_L_four (l : Launch) (hfl : l.stackTraces = false) (D : va_G) (T : Nat → ClassId) (A : Nat → Prop) (ad : Nat → Nat → Nat) (hok : okad ad) (Z : va_W) (x_K : Nat → Ob) (p2 : Int32) (p3 : Int32) (p4 : Int32) (p5 : Int32) (p6 : Int32) (r : Int32) (x_K9 : Nat → Ob) (h : f_L_four x_K p2 p3 p4 p5 p6 = some (r, x_K9)) : Met l yL_four (Cond.codeWith yL_four cL_four 7 (some .int) [(0, 61, 62, 80), (0, 61, 68, 73), (0, 61, 74, 75)] :: wsL_law) (rmL 7 1) (Pl D T A (oc_X10 T (ad 0) (bb ad) (x_K 0) ++ (wkL T ad x_K L18 ++ Z)) [.ref (ad 0 0), .int p2, .int p3, .int p4, .int p5, .int p6]) (Qgi D A (oc_X10 T (ad 0) (bb ad) (x_K9 0) ++ (wkL T ad x_K9 L18 ++ Z)) r) 1 16 A := by
  refine va_MetW (cc := cL_four) (maxL := 7) (ret := (some .int)) (hh := [(0, 61, 62, 80), (0, 61, 68, 73), (0, 61, 74, 75)]) (by decide +kernel) rfl ?_
  intro p e s m args below meth c s₁ B hml hv
  obtain ⟨ha, hP, hK, hD, hN, hE, hC, hA⟩ := hv
  have hx := B.exec
  have hb := B.bytes
  have hr := B.returns
  have hlk := B.notSynchronized
  have hts0 := atoms_spec (ws := Cond.codeWith yL_four cL_four 7 (some .int) [(0, 61, 62, 80), (0, 61, 68, 73), (0, 61, 74, 75)] :: wsL_law) B.pre
  have hts : ∀ w ∈ wsL_law, w.before args s = true := fun w hw => hts0 w (List.mem_cons_of_mem _ hw)
  have htab := vx_table (x := yL_four) B (hts0 _ List.mem_cons_self)
  have hown : s.vm.findClass RL = some m.cls := findClass_of_methodNamed B.named
  have hW : Wd D A s.heap (oc_X10 T (ad 0) (bb ad) (x_K 0) ++ (wkL T ad x_K L18 ++ Z)) s.heap [] := ⟨hP, hD, va_S.rf⟩
  have hl := lv_entry [.ref (ad 0 0), .int p2, .int p3, .int p4, .int p5, .int p6] (n := 7) (Nat.le_of_ble_eq_true rfl)
  refine W.eq (en_eq ha) ?_
  generalize (lg_sl [.ref (ad 0 0), .int p2, .int p3, .int p4, .int p5, .int p6] ++ List.replicate (7 - (lg_sl [.ref (ad 0 0), .int p2, .int p3, .int p4, .int p5, .int p6]).length) Slot.unset).toArray = ls at hl ⊢
  have hl : lv_has ls 7 [(0, .ref (ad 0 0)), (1, .int p2), (2, .int p3), (3, .int p4), (4, .int p5), (5, .int p6)] := hl
  clear hP hD B ha
  obtain ⟨Q, hQ⟩ : ∃ Q, Q = MQ below (Qgi D A (oc_X10 T (ad 0) (bb ad) (x_K9 0) ++ (wkL T ad x_K9 L18 ++ Z)) r) args s 1 16 A := ⟨_, rfl⟩
  rw [← hQ]
  change W p l e (rmL 7 1) s m args below meth c s.heap [] 0 0 Q (F0 m 0 ls [])
  rw [f_L_four] at h
  refine lv_iload_n hx hb dL_four_0 rfl (lv_at hl 1 rfl) ?_
  refine lv_if_ne (tgt := 15) hx hb dL_four_1 (by decide) (fun c1 => ?_) (fun c1 => ?_)
  · replace h := ite_f c1 h
    refine lv_iload_n hx hb dL_four_15 rfl (lv_at hl 1 rfl) ?_
    refine lv_iconst (v := 1) hx hb dL_four_16 (by decide) ?_
    refine lv_icmp_ne (tgt := 33) hx hb dL_four_17 (by decide) (fun c2 => ?_) (fun c2 => ?_)
    · replace h := ite_f c2 h
      refine lv_iload_n hx hb dL_four_33 rfl (lv_at hl 1 rfl) ?_
      refine lv_iconst (v := 2) hx hb dL_four_34 (by decide) ?_
      refine lv_icmp_ne (tgt := 51) hx hb dL_four_35 (by decide) (fun c3 => ?_) (fun c3 => ?_)
      · replace h := ite_f c3 h
        refine lv_aload_n hx hb dL_four_51 rfl (lv_at hl 0 rfl) ?_
        refine lv_iload_n hx hb dL_four_52 rfl (lv_at hl 2 rfl) ?_
        refine lv_iload_n hx hb dL_four_53 rfl (lv_at hl 3 rfl) ?_
        refine lv_iload hx hb dL_four_54 (lv_at hl 4 rfl) ?_
        refine lv_iload hx hb dL_four_56 (lv_at hl 5 rfl) ?_
        obtain ⟨k, r2, z_K, q1, h⟩ := bnd3_s h
        obtain ⟨v, q2, h⟩ := bnd1_s h
        obtain ⟨e1, e2⟩ := ret2 h
        replace e1 := e1.symm
        replace e2 := e2.symm
        subst e1
        subst e2
        rw [hQ]
        rcases kt123 q2 with ⟨rfl, rfl⟩ | ⟨rfl, rfl⟩ | ⟨rfl, rfl⟩ | ⟨rfl, rfl⟩
        · refine x0_vi hx hb hml hown hts hK hN hE hW (g_cw (n := 4) hts wm12_23 wm13_0 wm13_1 wm1_2 wm13_2 ⟨rfl, by decide +kernel, by decide +kernel, by decide +kernel⟩ ⟨rfl, rfl⟩ ⟨Nat.le_of_ble_eq_true rfl, Nat.le_of_ble_eq_true rfl⟩) ⟨10, (RX10, TX10, 13), _, rfl, rfl, rfl⟩ (c_X10_pattern l hfl D T A ad hok Z x_K p3 p4 p5 p6 0 v z_K q1) rfl hl.1 rfl (Nat.le_of_ble_eq_true rfl) dL_four_58 ⟨Nat.zero_le _, Nat.zero_le _⟩ (fun H locs hW => ?_)
          refine W.widen (k := 1) (n := 16) (Nat.zero_le _) (Nat.zero_le _) ?_
          exact g_reti hx hb hr hlk hW dL_four_61
        · refine xc_vi (k := 1) (by decide) hx hb hml hown hts hK hN hE hW (g_cw (n := 4) hts wm12_23 wm13_0 wm13_1 wm1_2 wm13_2 ⟨rfl, by decide +kernel, by decide +kernel, by decide +kernel⟩ ⟨rfl, rfl⟩ ⟨Nat.le_of_ble_eq_true rfl, Nat.le_of_ble_eq_true rfl⟩) ⟨10, (RX10, TX10, 13), _, rfl, rfl, rfl⟩ (c_X10_pattern l hfl D T A ad hok Z x_K p3 p4 p5 p6 1 r2 z_K q1) rfl hl.1 rfl (Nat.le_of_ble_eq_true rfl) dL_four_58 ⟨Nat.le_of_ble_eq_true rfl, Nat.le_of_ble_eq_true rfl⟩ (fun ce q9 H locs hW hce hcv hcl => ?_)
          refine vx_catch hown [] ⟨0, 61, 62, 80⟩ [⟨0, 61, 68, 73⟩, ⟨0, 61, 74, 75⟩] (htab.trans rfl) (fun z hz => absurd hz List.not_mem_nil) (by decide) (by decide) (hts _ wm8_17) (va_Nw.use rfl (hE.2.2.1 (exN 1) (by decide))) hce hcv hcl ?_
          refine lv_astore (lv' := [(6, .ref q9), (0, .ref (ad 0 0)), (1, .int p2), (2, .int p3), (3, .int p4), (4, .int p5), (5, .int p6)]) hx hb dL_four_62 hl (by decide) rfl (fun ls hl => ?_)
          refine lv_sipush (v := (-1001)) hx hb dL_four_64 (by decide) ?_
          refine W.widen (k := 1) (n := 16) (Nat.le_of_ble_eq_true rfl) (Nat.le_of_ble_eq_true rfl) ?_
          exact g_reti hx hb hr hlk hW dL_four_67
        · refine xc_vi (k := 2) (by decide) hx hb hml hown hts hK hN hE hW (g_cw (n := 4) hts wm12_23 wm13_0 wm13_1 wm1_2 wm13_2 ⟨rfl, by decide +kernel, by decide +kernel, by decide +kernel⟩ ⟨rfl, rfl⟩ ⟨Nat.le_of_ble_eq_true rfl, Nat.le_of_ble_eq_true rfl⟩) ⟨10, (RX10, TX10, 13), _, rfl, rfl, rfl⟩ (c_X10_pattern l hfl D T A ad hok Z x_K p3 p4 p5 p6 2 r2 z_K q1) rfl hl.1 rfl (Nat.le_of_ble_eq_true rfl) dL_four_58 ⟨Nat.le_of_ble_eq_true rfl, Nat.le_of_ble_eq_true rfl⟩ (fun ce q9 H locs hW hce hcv hcl => ?_)
          refine vx_catch hown [⟨0, 61, 62, 80⟩] ⟨0, 61, 68, 73⟩ [⟨0, 61, 74, 75⟩] (htab.trans rfl) (fun z hz => by
            simp only [List.mem_cons, List.not_mem_nil, or_false] at hz
            rcases hz with rfl
            · exact Or.inr ⟨by decide, _, hts _ wm8_17, hC _ (List.mem_of_getElem? (i := 1) rfl)⟩) (by decide) (by decide) (hts _ wm7_17) (va_Nw.use rfl (hE.2.2.1 (exN 2) (by decide))) hce hcv hcl ?_
          refine lv_astore (lv' := [(6, .ref q9), (0, .ref (ad 0 0)), (1, .int p2), (2, .int p3), (3, .int p4), (4, .int p5), (5, .int p6)]) hx hb dL_four_68 hl (by decide) rfl (fun ls hl => ?_)
          refine lv_sipush (v := (-1002)) hx hb dL_four_70 (by decide) ?_
          refine W.widen (k := 1) (n := 16) (Nat.le_of_ble_eq_true rfl) (Nat.le_of_ble_eq_true rfl) ?_
          exact g_reti hx hb hr hlk hW dL_four_73
        · refine xc_vi (k := 3) (by decide) hx hb hml hown hts hK hN hE hW (g_cw (n := 4) hts wm12_23 wm13_0 wm13_1 wm1_2 wm13_2 ⟨rfl, by decide +kernel, by decide +kernel, by decide +kernel⟩ ⟨rfl, rfl⟩ ⟨Nat.le_of_ble_eq_true rfl, Nat.le_of_ble_eq_true rfl⟩) ⟨10, (RX10, TX10, 13), _, rfl, rfl, rfl⟩ (c_X10_pattern l hfl D T A ad hok Z x_K p3 p4 p5 p6 3 r2 z_K q1) rfl hl.1 rfl (Nat.le_of_ble_eq_true rfl) dL_four_58 ⟨Nat.le_of_ble_eq_true rfl, Nat.le_of_ble_eq_true rfl⟩ (fun ce q9 H locs hW hce hcv hcl => ?_)
          refine vx_catch hown [⟨0, 61, 62, 80⟩, ⟨0, 61, 68, 73⟩] ⟨0, 61, 74, 75⟩ [] (htab.trans rfl) (fun z hz => by
            simp only [List.mem_cons, List.not_mem_nil, or_false] at hz
            rcases hz with rfl | rfl
            · exact Or.inr ⟨by decide, _, hts _ wm8_17, hC _ (List.mem_of_getElem? (i := 2) rfl)⟩
            · exact Or.inr ⟨by decide, _, hts _ wm7_17, hC _ (List.mem_of_getElem? (i := 0) rfl)⟩) (by decide) (by decide) (hts _ wm7_18) (va_Nw.use rfl (hE.2.2.1 (exN 3) (by decide))) hce hcv hcl ?_
          refine lv_astore (lv' := [(6, .ref q9), (0, .ref (ad 0 0)), (1, .int p2), (2, .int p3), (3, .int p4), (4, .int p5), (5, .int p6)]) hx hb dL_four_74 hl (by decide) rfl (fun ls hl => ?_)
          refine lv_sipush (v := (-1003)) hx hb dL_four_76 (by decide) ?_
          refine W.widen (k := 1) (n := 16) (Nat.le_of_ble_eq_true rfl) (Nat.le_of_ble_eq_true rfl) ?_
          exact g_reti hx hb hr hlk hW dL_four_79
      · replace h := ite_t c3 h
        refine lv_aload_n hx hb dL_four_38 rfl (lv_at hl 0 rfl) ?_
        refine lv_iload_n hx hb dL_four_39 rfl (lv_at hl 2 rfl) ?_
        refine lv_iload_n hx hb dL_four_40 rfl (lv_at hl 3 rfl) ?_
        refine lv_iload hx hb dL_four_41 (lv_at hl 4 rfl) ?_
        refine lv_iload hx hb dL_four_43 (lv_at hl 5 rfl) ?_
        obtain ⟨k, r2, z_K, q1, h⟩ := bnd3_s h
        obtain ⟨v, q2, h⟩ := bnd1_s h
        obtain ⟨e1, e2⟩ := ret2 h
        replace e1 := e1.symm
        replace e2 := e2.symm
        subst e1
        subst e2
        rw [hQ]
        rcases kt123 q2 with ⟨rfl, rfl⟩ | ⟨rfl, rfl⟩ | ⟨rfl, rfl⟩ | ⟨rfl, rfl⟩
        · refine x0_vi hx hb hml hown hts hK hN hE hW (g_cw (n := 4) hts wm11_23 wm12_0 wm12_1 wm1_2 wm12_2 ⟨rfl, by decide +kernel, by decide +kernel, by decide +kernel⟩ ⟨rfl, rfl⟩ ⟨Nat.le_of_ble_eq_true rfl, Nat.le_of_ble_eq_true rfl⟩) ⟨10, (RX10, TX10, 13), _, rfl, rfl, rfl⟩ (c_X10_rule l hfl D T A ad hok Z x_K p3 p4 p5 p6 0 v z_K q1) rfl hl.1 rfl (Nat.le_of_ble_eq_true rfl) dL_four_45 ⟨Nat.zero_le _, Nat.zero_le _⟩ (fun H locs hW => ?_)
          refine lv_goto (tgt := 61) hx hb dL_four_48 (by decide) ?_
          refine W.widen (k := 1) (n := 16) (Nat.zero_le _) (Nat.zero_le _) ?_
          exact g_reti hx hb hr hlk hW dL_four_61
        · refine xc_vi (k := 1) (by decide) hx hb hml hown hts hK hN hE hW (g_cw (n := 4) hts wm11_23 wm12_0 wm12_1 wm1_2 wm12_2 ⟨rfl, by decide +kernel, by decide +kernel, by decide +kernel⟩ ⟨rfl, rfl⟩ ⟨Nat.le_of_ble_eq_true rfl, Nat.le_of_ble_eq_true rfl⟩) ⟨10, (RX10, TX10, 13), _, rfl, rfl, rfl⟩ (c_X10_rule l hfl D T A ad hok Z x_K p3 p4 p5 p6 1 r2 z_K q1) rfl hl.1 rfl (Nat.le_of_ble_eq_true rfl) dL_four_45 ⟨Nat.le_of_ble_eq_true rfl, Nat.le_of_ble_eq_true rfl⟩ (fun ce q9 H locs hW hce hcv hcl => ?_)
          refine vx_catch hown [] ⟨0, 61, 62, 80⟩ [⟨0, 61, 68, 73⟩, ⟨0, 61, 74, 75⟩] (htab.trans rfl) (fun z hz => absurd hz List.not_mem_nil) (by decide) (by decide) (hts _ wm8_17) (va_Nw.use rfl (hE.2.2.1 (exN 1) (by decide))) hce hcv hcl ?_
          refine lv_astore (lv' := [(6, .ref q9), (0, .ref (ad 0 0)), (1, .int p2), (2, .int p3), (3, .int p4), (4, .int p5), (5, .int p6)]) hx hb dL_four_62 hl (by decide) rfl (fun ls hl => ?_)
          refine lv_sipush (v := (-1001)) hx hb dL_four_64 (by decide) ?_
          refine W.widen (k := 1) (n := 16) (Nat.le_of_ble_eq_true rfl) (Nat.le_of_ble_eq_true rfl) ?_
          exact g_reti hx hb hr hlk hW dL_four_67
        · refine xc_vi (k := 2) (by decide) hx hb hml hown hts hK hN hE hW (g_cw (n := 4) hts wm11_23 wm12_0 wm12_1 wm1_2 wm12_2 ⟨rfl, by decide +kernel, by decide +kernel, by decide +kernel⟩ ⟨rfl, rfl⟩ ⟨Nat.le_of_ble_eq_true rfl, Nat.le_of_ble_eq_true rfl⟩) ⟨10, (RX10, TX10, 13), _, rfl, rfl, rfl⟩ (c_X10_rule l hfl D T A ad hok Z x_K p3 p4 p5 p6 2 r2 z_K q1) rfl hl.1 rfl (Nat.le_of_ble_eq_true rfl) dL_four_45 ⟨Nat.le_of_ble_eq_true rfl, Nat.le_of_ble_eq_true rfl⟩ (fun ce q9 H locs hW hce hcv hcl => ?_)
          refine vx_catch hown [⟨0, 61, 62, 80⟩] ⟨0, 61, 68, 73⟩ [⟨0, 61, 74, 75⟩] (htab.trans rfl) (fun z hz => by
            simp only [List.mem_cons, List.not_mem_nil, or_false] at hz
            rcases hz with rfl
            · exact Or.inr ⟨by decide, _, hts _ wm8_17, hC _ (List.mem_of_getElem? (i := 1) rfl)⟩) (by decide) (by decide) (hts _ wm7_17) (va_Nw.use rfl (hE.2.2.1 (exN 2) (by decide))) hce hcv hcl ?_
          refine lv_astore (lv' := [(6, .ref q9), (0, .ref (ad 0 0)), (1, .int p2), (2, .int p3), (3, .int p4), (4, .int p5), (5, .int p6)]) hx hb dL_four_68 hl (by decide) rfl (fun ls hl => ?_)
          refine lv_sipush (v := (-1002)) hx hb dL_four_70 (by decide) ?_
          refine W.widen (k := 1) (n := 16) (Nat.le_of_ble_eq_true rfl) (Nat.le_of_ble_eq_true rfl) ?_
          exact g_reti hx hb hr hlk hW dL_four_73
        · refine xc_vi (k := 3) (by decide) hx hb hml hown hts hK hN hE hW (g_cw (n := 4) hts wm11_23 wm12_0 wm12_1 wm1_2 wm12_2 ⟨rfl, by decide +kernel, by decide +kernel, by decide +kernel⟩ ⟨rfl, rfl⟩ ⟨Nat.le_of_ble_eq_true rfl, Nat.le_of_ble_eq_true rfl⟩) ⟨10, (RX10, TX10, 13), _, rfl, rfl, rfl⟩ (c_X10_rule l hfl D T A ad hok Z x_K p3 p4 p5 p6 3 r2 z_K q1) rfl hl.1 rfl (Nat.le_of_ble_eq_true rfl) dL_four_45 ⟨Nat.le_of_ble_eq_true rfl, Nat.le_of_ble_eq_true rfl⟩ (fun ce q9 H locs hW hce hcv hcl => ?_)
          refine vx_catch hown [⟨0, 61, 62, 80⟩, ⟨0, 61, 68, 73⟩] ⟨0, 61, 74, 75⟩ [] (htab.trans rfl) (fun z hz => by
            simp only [List.mem_cons, List.not_mem_nil, or_false] at hz
            rcases hz with rfl | rfl
            · exact Or.inr ⟨by decide, _, hts _ wm8_17, hC _ (List.mem_of_getElem? (i := 2) rfl)⟩
            · exact Or.inr ⟨by decide, _, hts _ wm7_17, hC _ (List.mem_of_getElem? (i := 0) rfl)⟩) (by decide) (by decide) (hts _ wm7_18) (va_Nw.use rfl (hE.2.2.1 (exN 3) (by decide))) hce hcv hcl ?_
          refine lv_astore (lv' := [(6, .ref q9), (0, .ref (ad 0 0)), (1, .int p2), (2, .int p3), (3, .int p4), (4, .int p5), (5, .int p6)]) hx hb dL_four_74 hl (by decide) rfl (fun ls hl => ?_)
          refine lv_sipush (v := (-1003)) hx hb dL_four_76 (by decide) ?_
          refine W.widen (k := 1) (n := 16) (Nat.le_of_ble_eq_true rfl) (Nat.le_of_ble_eq_true rfl) ?_
          exact g_reti hx hb hr hlk hW dL_four_79
    · replace h := ite_t c2 h
      refine lv_aload_n hx hb dL_four_20 rfl (lv_at hl 0 rfl) ?_
      refine lv_iload_n hx hb dL_four_21 rfl (lv_at hl 2 rfl) ?_
      refine lv_iload_n hx hb dL_four_22 rfl (lv_at hl 3 rfl) ?_
      refine lv_iload hx hb dL_four_23 (lv_at hl 4 rfl) ?_
      refine lv_iload hx hb dL_four_25 (lv_at hl 5 rfl) ?_
      obtain ⟨k, r2, z_K, q1, h⟩ := bnd3_s h
      obtain ⟨v, q2, h⟩ := bnd1_s h
      obtain ⟨e1, e2⟩ := ret2 h
      replace e1 := e1.symm
      replace e2 := e2.symm
      subst e1
      subst e2
      rw [hQ]
      rcases kt123 q2 with ⟨rfl, rfl⟩ | ⟨rfl, rfl⟩ | ⟨rfl, rfl⟩ | ⟨rfl, rfl⟩
      · refine x0_vi hx hb hml hown hts hK hN hE hW (g_cw (n := 4) hts wm11_12 wm11_13 wm11_14 wm1_2 wm11_15 ⟨rfl, by decide +kernel, by decide +kernel, by decide +kernel⟩ ⟨rfl, rfl⟩ ⟨Nat.le_of_ble_eq_true rfl, Nat.le_of_ble_eq_true rfl⟩) ⟨10, (RX10, TX10, 13), _, rfl, rfl, rfl⟩ (c_X10_seen l hfl D T A ad hok Z x_K p3 p4 p5 p6 0 v z_K q1) rfl hl.1 rfl (Nat.le_of_ble_eq_true rfl) dL_four_27 ⟨Nat.zero_le _, Nat.zero_le _⟩ (fun H locs hW => ?_)
        refine lv_goto (tgt := 61) hx hb dL_four_30 (by decide) ?_
        refine W.widen (k := 1) (n := 16) (Nat.zero_le _) (Nat.zero_le _) ?_
        exact g_reti hx hb hr hlk hW dL_four_61
      · refine xc_vi (k := 1) (by decide) hx hb hml hown hts hK hN hE hW (g_cw (n := 4) hts wm11_12 wm11_13 wm11_14 wm1_2 wm11_15 ⟨rfl, by decide +kernel, by decide +kernel, by decide +kernel⟩ ⟨rfl, rfl⟩ ⟨Nat.le_of_ble_eq_true rfl, Nat.le_of_ble_eq_true rfl⟩) ⟨10, (RX10, TX10, 13), _, rfl, rfl, rfl⟩ (c_X10_seen l hfl D T A ad hok Z x_K p3 p4 p5 p6 1 r2 z_K q1) rfl hl.1 rfl (Nat.le_of_ble_eq_true rfl) dL_four_27 ⟨Nat.le_of_ble_eq_true rfl, Nat.le_of_ble_eq_true rfl⟩ (fun ce q9 H locs hW hce hcv hcl => ?_)
        refine vx_catch hown [] ⟨0, 61, 62, 80⟩ [⟨0, 61, 68, 73⟩, ⟨0, 61, 74, 75⟩] (htab.trans rfl) (fun z hz => absurd hz List.not_mem_nil) (by decide) (by decide) (hts _ wm8_17) (va_Nw.use rfl (hE.2.2.1 (exN 1) (by decide))) hce hcv hcl ?_
        refine lv_astore (lv' := [(6, .ref q9), (0, .ref (ad 0 0)), (1, .int p2), (2, .int p3), (3, .int p4), (4, .int p5), (5, .int p6)]) hx hb dL_four_62 hl (by decide) rfl (fun ls hl => ?_)
        refine lv_sipush (v := (-1001)) hx hb dL_four_64 (by decide) ?_
        refine W.widen (k := 1) (n := 16) (Nat.le_of_ble_eq_true rfl) (Nat.le_of_ble_eq_true rfl) ?_
        exact g_reti hx hb hr hlk hW dL_four_67
      · refine xc_vi (k := 2) (by decide) hx hb hml hown hts hK hN hE hW (g_cw (n := 4) hts wm11_12 wm11_13 wm11_14 wm1_2 wm11_15 ⟨rfl, by decide +kernel, by decide +kernel, by decide +kernel⟩ ⟨rfl, rfl⟩ ⟨Nat.le_of_ble_eq_true rfl, Nat.le_of_ble_eq_true rfl⟩) ⟨10, (RX10, TX10, 13), _, rfl, rfl, rfl⟩ (c_X10_seen l hfl D T A ad hok Z x_K p3 p4 p5 p6 2 r2 z_K q1) rfl hl.1 rfl (Nat.le_of_ble_eq_true rfl) dL_four_27 ⟨Nat.le_of_ble_eq_true rfl, Nat.le_of_ble_eq_true rfl⟩ (fun ce q9 H locs hW hce hcv hcl => ?_)
        refine vx_catch hown [⟨0, 61, 62, 80⟩] ⟨0, 61, 68, 73⟩ [⟨0, 61, 74, 75⟩] (htab.trans rfl) (fun z hz => by
          simp only [List.mem_cons, List.not_mem_nil, or_false] at hz
          rcases hz with rfl
          · exact Or.inr ⟨by decide, _, hts _ wm8_17, hC _ (List.mem_of_getElem? (i := 1) rfl)⟩) (by decide) (by decide) (hts _ wm7_17) (va_Nw.use rfl (hE.2.2.1 (exN 2) (by decide))) hce hcv hcl ?_
        refine lv_astore (lv' := [(6, .ref q9), (0, .ref (ad 0 0)), (1, .int p2), (2, .int p3), (3, .int p4), (4, .int p5), (5, .int p6)]) hx hb dL_four_68 hl (by decide) rfl (fun ls hl => ?_)
        refine lv_sipush (v := (-1002)) hx hb dL_four_70 (by decide) ?_
        refine W.widen (k := 1) (n := 16) (Nat.le_of_ble_eq_true rfl) (Nat.le_of_ble_eq_true rfl) ?_
        exact g_reti hx hb hr hlk hW dL_four_73
      · refine xc_vi (k := 3) (by decide) hx hb hml hown hts hK hN hE hW (g_cw (n := 4) hts wm11_12 wm11_13 wm11_14 wm1_2 wm11_15 ⟨rfl, by decide +kernel, by decide +kernel, by decide +kernel⟩ ⟨rfl, rfl⟩ ⟨Nat.le_of_ble_eq_true rfl, Nat.le_of_ble_eq_true rfl⟩) ⟨10, (RX10, TX10, 13), _, rfl, rfl, rfl⟩ (c_X10_seen l hfl D T A ad hok Z x_K p3 p4 p5 p6 3 r2 z_K q1) rfl hl.1 rfl (Nat.le_of_ble_eq_true rfl) dL_four_27 ⟨Nat.le_of_ble_eq_true rfl, Nat.le_of_ble_eq_true rfl⟩ (fun ce q9 H locs hW hce hcv hcl => ?_)
        refine vx_catch hown [⟨0, 61, 62, 80⟩, ⟨0, 61, 68, 73⟩] ⟨0, 61, 74, 75⟩ [] (htab.trans rfl) (fun z hz => by
          simp only [List.mem_cons, List.not_mem_nil, or_false] at hz
          rcases hz with rfl | rfl
          · exact Or.inr ⟨by decide, _, hts _ wm8_17, hC _ (List.mem_of_getElem? (i := 2) rfl)⟩
          · exact Or.inr ⟨by decide, _, hts _ wm7_17, hC _ (List.mem_of_getElem? (i := 0) rfl)⟩) (by decide) (by decide) (hts _ wm7_18) (va_Nw.use rfl (hE.2.2.1 (exN 3) (by decide))) hce hcv hcl ?_
        refine lv_astore (lv' := [(6, .ref q9), (0, .ref (ad 0 0)), (1, .int p2), (2, .int p3), (3, .int p4), (4, .int p5), (5, .int p6)]) hx hb dL_four_74 hl (by decide) rfl (fun ls hl => ?_)
        refine lv_sipush (v := (-1003)) hx hb dL_four_76 (by decide) ?_
        refine W.widen (k := 1) (n := 16) (Nat.le_of_ble_eq_true rfl) (Nat.le_of_ble_eq_true rfl) ?_
        exact g_reti hx hb hr hlk hW dL_four_79
  · replace h := ite_t c1 h
    refine lv_aload_n hx hb dL_four_4 rfl (lv_at hl 0 rfl) ?_
    refine lv_iload_n hx hb dL_four_5 rfl (lv_at hl 2 rfl) ?_
    refine lv_iload_n hx hb dL_four_6 rfl (lv_at hl 3 rfl) ?_
    refine lv_iload hx hb dL_four_7 (lv_at hl 4 rfl) ?_
    obtain ⟨k, r2, z_K, q1, h⟩ := bnd3_s h
    obtain ⟨v, q2, h⟩ := bnd1_s h
    obtain ⟨e1, e2⟩ := ret2 h
    replace e1 := e1.symm
    replace e2 := e2.symm
    subst e1
    subst e2
    rw [hQ]
    rcases kt123 q2 with ⟨rfl, rfl⟩ | ⟨rfl, rfl⟩ | ⟨rfl, rfl⟩ | ⟨rfl, rfl⟩
    · refine x0_vi hx hb hml hown hts hK hN hE hW (g_cw (n := 3) hts wm10_20 wm10_21 wm10_22 wm1_2 wm10_23 ⟨rfl, by decide +kernel, by decide +kernel, by decide +kernel⟩ ⟨rfl, rfl⟩ ⟨Nat.le_of_ble_eq_true rfl, Nat.le_of_ble_eq_true rfl⟩) ⟨10, (RX10, TX10, 13), _, rfl, rfl, rfl⟩ (c_X10_sure l hfl D T A ad hok Z x_K p3 p4 p5 0 v z_K q1) rfl hl.1 rfl (Nat.le_of_ble_eq_true rfl) dL_four_9 ⟨Nat.zero_le _, Nat.zero_le _⟩ (fun H locs hW => ?_)
      refine lv_goto (tgt := 61) hx hb dL_four_12 (by decide) ?_
      refine W.widen (k := 1) (n := 16) (Nat.zero_le _) (Nat.zero_le _) ?_
      exact g_reti hx hb hr hlk hW dL_four_61
    · refine xc_vi (k := 1) (by decide) hx hb hml hown hts hK hN hE hW (g_cw (n := 3) hts wm10_20 wm10_21 wm10_22 wm1_2 wm10_23 ⟨rfl, by decide +kernel, by decide +kernel, by decide +kernel⟩ ⟨rfl, rfl⟩ ⟨Nat.le_of_ble_eq_true rfl, Nat.le_of_ble_eq_true rfl⟩) ⟨10, (RX10, TX10, 13), _, rfl, rfl, rfl⟩ (c_X10_sure l hfl D T A ad hok Z x_K p3 p4 p5 1 r2 z_K q1) rfl hl.1 rfl (Nat.le_of_ble_eq_true rfl) dL_four_9 ⟨Nat.le_of_ble_eq_true rfl, Nat.le_of_ble_eq_true rfl⟩ (fun ce q9 H locs hW hce hcv hcl => ?_)
      refine vx_catch hown [] ⟨0, 61, 62, 80⟩ [⟨0, 61, 68, 73⟩, ⟨0, 61, 74, 75⟩] (htab.trans rfl) (fun z hz => absurd hz List.not_mem_nil) (by decide) (by decide) (hts _ wm8_17) (va_Nw.use rfl (hE.2.2.1 (exN 1) (by decide))) hce hcv hcl ?_
      refine lv_astore (lv' := [(6, .ref q9), (0, .ref (ad 0 0)), (1, .int p2), (2, .int p3), (3, .int p4), (4, .int p5), (5, .int p6)]) hx hb dL_four_62 hl (by decide) rfl (fun ls hl => ?_)
      refine lv_sipush (v := (-1001)) hx hb dL_four_64 (by decide) ?_
      refine W.widen (k := 1) (n := 16) (Nat.le_of_ble_eq_true rfl) (Nat.le_of_ble_eq_true rfl) ?_
      exact g_reti hx hb hr hlk hW dL_four_67
    · refine xc_vi (k := 2) (by decide) hx hb hml hown hts hK hN hE hW (g_cw (n := 3) hts wm10_20 wm10_21 wm10_22 wm1_2 wm10_23 ⟨rfl, by decide +kernel, by decide +kernel, by decide +kernel⟩ ⟨rfl, rfl⟩ ⟨Nat.le_of_ble_eq_true rfl, Nat.le_of_ble_eq_true rfl⟩) ⟨10, (RX10, TX10, 13), _, rfl, rfl, rfl⟩ (c_X10_sure l hfl D T A ad hok Z x_K p3 p4 p5 2 r2 z_K q1) rfl hl.1 rfl (Nat.le_of_ble_eq_true rfl) dL_four_9 ⟨Nat.le_of_ble_eq_true rfl, Nat.le_of_ble_eq_true rfl⟩ (fun ce q9 H locs hW hce hcv hcl => ?_)
      refine vx_catch hown [⟨0, 61, 62, 80⟩] ⟨0, 61, 68, 73⟩ [⟨0, 61, 74, 75⟩] (htab.trans rfl) (fun z hz => by
        simp only [List.mem_cons, List.not_mem_nil, or_false] at hz
        rcases hz with rfl
        · exact Or.inr ⟨by decide, _, hts _ wm8_17, hC _ (List.mem_of_getElem? (i := 1) rfl)⟩) (by decide) (by decide) (hts _ wm7_17) (va_Nw.use rfl (hE.2.2.1 (exN 2) (by decide))) hce hcv hcl ?_
      refine lv_astore (lv' := [(6, .ref q9), (0, .ref (ad 0 0)), (1, .int p2), (2, .int p3), (3, .int p4), (4, .int p5), (5, .int p6)]) hx hb dL_four_68 hl (by decide) rfl (fun ls hl => ?_)
      refine lv_sipush (v := (-1002)) hx hb dL_four_70 (by decide) ?_
      refine W.widen (k := 1) (n := 16) (Nat.le_of_ble_eq_true rfl) (Nat.le_of_ble_eq_true rfl) ?_
      exact g_reti hx hb hr hlk hW dL_four_73
    · refine xc_vi (k := 3) (by decide) hx hb hml hown hts hK hN hE hW (g_cw (n := 3) hts wm10_20 wm10_21 wm10_22 wm1_2 wm10_23 ⟨rfl, by decide +kernel, by decide +kernel, by decide +kernel⟩ ⟨rfl, rfl⟩ ⟨Nat.le_of_ble_eq_true rfl, Nat.le_of_ble_eq_true rfl⟩) ⟨10, (RX10, TX10, 13), _, rfl, rfl, rfl⟩ (c_X10_sure l hfl D T A ad hok Z x_K p3 p4 p5 3 r2 z_K q1) rfl hl.1 rfl (Nat.le_of_ble_eq_true rfl) dL_four_9 ⟨Nat.le_of_ble_eq_true rfl, Nat.le_of_ble_eq_true rfl⟩ (fun ce q9 H locs hW hce hcv hcl => ?_)
      refine vx_catch hown [⟨0, 61, 62, 80⟩, ⟨0, 61, 68, 73⟩] ⟨0, 61, 74, 75⟩ [] (htab.trans rfl) (fun z hz => by
        simp only [List.mem_cons, List.not_mem_nil, or_false] at hz
        rcases hz with rfl | rfl
        · exact Or.inr ⟨by decide, _, hts _ wm8_17, hC _ (List.mem_of_getElem? (i := 2) rfl)⟩
        · exact Or.inr ⟨by decide, _, hts _ wm7_17, hC _ (List.mem_of_getElem? (i := 0) rfl)⟩) (by decide) (by decide) (hts _ wm7_18) (va_Nw.use rfl (hE.2.2.1 (exN 3) (by decide))) hce hcv hcl ?_
      refine lv_astore (lv' := [(6, .ref q9), (0, .ref (ad 0 0)), (1, .int p2), (2, .int p3), (3, .int p4), (4, .int p5), (5, .int p6)]) hx hb dL_four_74 hl (by decide) rfl (fun ls hl => ?_)
      refine lv_sipush (v := (-1003)) hx hb dL_four_76 (by decide) ?_
      refine W.widen (k := 1) (n := 16) (Nat.le_of_ble_eq_true rfl) (Nat.le_of_ble_eq_true rfl) ?_
      exact g_reti hx hb hr hlk hW dL_four_79
set_option maxHeartbeats 16000000 in
set_option maxRecDepth 100000 in
theorem c_L_equates (l : Launch) (hfl : l.stackTraces = false) (D : va_G) (T : Nat → ClassId) (A : Nat → Prop) (ad : Nat → Nat → Nat) (hok : okad ad) (Z : va_W) (x_K : Nat → Ob) (p2 : Int32) (p3 : Int32) (p4 : Int32) (p5 : Int32) (p6 : Int32) (r : Int32) (x_K9 : Nat → Ob) (h : f_L_equates x_K p2 p3 p4 p5 p6 = some (r, x_K9)) : Met l yL_equates (Cond.codeWith yL_equates cL_equates 7 (some .int) [(0, 11, 12, 80), (0, 11, 18, 73), (0, 11, 24, 75)] :: wsL_law) (rmL 7 1) (Pl D T A (oc_X10 T (ad 0) (bb ad) (x_K 0) ++ (wkL T ad x_K L18 ++ Z)) [.ref (ad 0 0), .int p2, .int p3, .int p4, .int p5, .int p6]) (Qgi D A (oc_X10 T (ad 0) (bb ad) (x_K9 0) ++ (wkL T ad x_K9 L18 ++ Z)) r) 1 16 A := by
  refine va_MetW (cc := cL_equates) (maxL := 7) (ret := (some .int)) (hh := [(0, 11, 12, 80), (0, 11, 18, 73), (0, 11, 24, 75)]) (by decide +kernel) rfl ?_
  intro p e s m args below meth c s₁ B hml hv
  obtain ⟨ha, hP, hK, hD, hN, hE, hC, hA⟩ := hv
  have hx := B.exec
  have hb := B.bytes
  have hr := B.returns
  have hlk := B.notSynchronized
  have hts0 := atoms_spec (ws := Cond.codeWith yL_equates cL_equates 7 (some .int) [(0, 11, 12, 80), (0, 11, 18, 73), (0, 11, 24, 75)] :: wsL_law) B.pre
  have hts : ∀ w ∈ wsL_law, w.before args s = true := fun w hw => hts0 w (List.mem_cons_of_mem _ hw)
  have htab := vx_table (x := yL_equates) B (hts0 _ List.mem_cons_self)
  have hown : s.vm.findClass RL = some m.cls := findClass_of_methodNamed B.named
  have hW : Wd D A s.heap (oc_X10 T (ad 0) (bb ad) (x_K 0) ++ (wkL T ad x_K L18 ++ Z)) s.heap [] := ⟨hP, hD, va_S.rf⟩
  have hl := lv_entry [.ref (ad 0 0), .int p2, .int p3, .int p4, .int p5, .int p6] (n := 7) (Nat.le_of_ble_eq_true rfl)
  refine W.eq (en_eq ha) ?_
  generalize (lg_sl [.ref (ad 0 0), .int p2, .int p3, .int p4, .int p5, .int p6] ++ List.replicate (7 - (lg_sl [.ref (ad 0 0), .int p2, .int p3, .int p4, .int p5, .int p6]).length) Slot.unset).toArray = ls at hl ⊢
  have hl : lv_has ls 7 [(0, .ref (ad 0 0)), (1, .int p2), (2, .int p3), (3, .int p4), (4, .int p5), (5, .int p6)] := hl
  clear hP hD B ha
  obtain ⟨Q, hQ⟩ : ∃ Q, Q = MQ below (Qgi D A (oc_X10 T (ad 0) (bb ad) (x_K9 0) ++ (wkL T ad x_K9 L18 ++ Z)) r) args s 1 16 A := ⟨_, rfl⟩
  rw [← hQ]
  change W p l e (rmL 7 1) s m args below meth c s.heap [] 0 0 Q (F0 m 0 ls [])
  rw [f_L_equates] at h
  refine lv_aload_n hx hb dL_equates_0 rfl (lv_at hl 0 rfl) ?_
  refine lv_iload_n hx hb dL_equates_1 rfl (lv_at hl 1 rfl) ?_
  refine lv_iload_n hx hb dL_equates_2 rfl (lv_at hl 2 rfl) ?_
  refine lv_iload_n hx hb dL_equates_3 rfl (lv_at hl 3 rfl) ?_
  refine lv_iload hx hb dL_equates_4 (lv_at hl 4 rfl) ?_
  refine lv_iload hx hb dL_equates_6 (lv_at hl 5 rfl) ?_
  obtain ⟨k, r2, z_K, q1, h⟩ := bnd3_s h
  obtain ⟨v, q2, h⟩ := bnd1_s h
  obtain ⟨e1, e2⟩ := ret2 h
  replace e1 := e1.symm
  replace e2 := e2.symm
  subst e1
  subst e2
  rw [hQ]
  rcases kt123 q2 with ⟨rfl, rfl⟩ | ⟨rfl, rfl⟩ | ⟨rfl, rfl⟩ | ⟨rfl, rfl⟩
  · refine x0_vi hx hb hml hown hts hK hN hE hW (g_cw (n := 5) hts wm13_18 wm13_19 wm13_20 wm1_2 wm13_21 ⟨rfl, by decide +kernel, by decide +kernel, by decide +kernel⟩ ⟨rfl, rfl⟩ ⟨Nat.le_of_ble_eq_true rfl, Nat.le_of_ble_eq_true rfl⟩) ⟨10, (RX10, TX10, 13), _, rfl, rfl, rfl⟩ (c_X10_equate l hfl D T A ad hok Z x_K p2 p3 p4 p5 p6 0 v z_K q1) rfl hl.1 rfl (Nat.le_of_ble_eq_true rfl) dL_equates_8 ⟨Nat.zero_le _, Nat.zero_le _⟩ (fun H locs hW => ?_)
    refine W.widen (k := 1) (n := 16) (Nat.zero_le _) (Nat.zero_le _) ?_
    exact g_reti hx hb hr hlk hW dL_equates_11
  · refine xc_vi (k := 1) (by decide) hx hb hml hown hts hK hN hE hW (g_cw (n := 5) hts wm13_18 wm13_19 wm13_20 wm1_2 wm13_21 ⟨rfl, by decide +kernel, by decide +kernel, by decide +kernel⟩ ⟨rfl, rfl⟩ ⟨Nat.le_of_ble_eq_true rfl, Nat.le_of_ble_eq_true rfl⟩) ⟨10, (RX10, TX10, 13), _, rfl, rfl, rfl⟩ (c_X10_equate l hfl D T A ad hok Z x_K p2 p3 p4 p5 p6 1 r2 z_K q1) rfl hl.1 rfl (Nat.le_of_ble_eq_true rfl) dL_equates_8 ⟨Nat.le_of_ble_eq_true rfl, Nat.le_of_ble_eq_true rfl⟩ (fun ce q9 H locs hW hce hcv hcl => ?_)
    refine vx_catch hown [] ⟨0, 11, 12, 80⟩ [⟨0, 11, 18, 73⟩, ⟨0, 11, 24, 75⟩] (htab.trans rfl) (fun z hz => absurd hz List.not_mem_nil) (by decide) (by decide) (hts _ wm8_17) (va_Nw.use rfl (hE.2.2.1 (exN 1) (by decide))) hce hcv hcl ?_
    refine lv_astore (lv' := [(6, .ref q9), (0, .ref (ad 0 0)), (1, .int p2), (2, .int p3), (3, .int p4), (4, .int p5), (5, .int p6)]) hx hb dL_equates_12 hl (by decide) rfl (fun ls hl => ?_)
    refine lv_sipush (v := (-1001)) hx hb dL_equates_14 (by decide) ?_
    refine W.widen (k := 1) (n := 16) (Nat.le_of_ble_eq_true rfl) (Nat.le_of_ble_eq_true rfl) ?_
    exact g_reti hx hb hr hlk hW dL_equates_17
  · refine xc_vi (k := 2) (by decide) hx hb hml hown hts hK hN hE hW (g_cw (n := 5) hts wm13_18 wm13_19 wm13_20 wm1_2 wm13_21 ⟨rfl, by decide +kernel, by decide +kernel, by decide +kernel⟩ ⟨rfl, rfl⟩ ⟨Nat.le_of_ble_eq_true rfl, Nat.le_of_ble_eq_true rfl⟩) ⟨10, (RX10, TX10, 13), _, rfl, rfl, rfl⟩ (c_X10_equate l hfl D T A ad hok Z x_K p2 p3 p4 p5 p6 2 r2 z_K q1) rfl hl.1 rfl (Nat.le_of_ble_eq_true rfl) dL_equates_8 ⟨Nat.le_of_ble_eq_true rfl, Nat.le_of_ble_eq_true rfl⟩ (fun ce q9 H locs hW hce hcv hcl => ?_)
    refine vx_catch hown [⟨0, 11, 12, 80⟩] ⟨0, 11, 18, 73⟩ [⟨0, 11, 24, 75⟩] (htab.trans rfl) (fun z hz => by
      simp only [List.mem_cons, List.not_mem_nil, or_false] at hz
      rcases hz with rfl
      · exact Or.inr ⟨by decide, _, hts _ wm8_17, hC _ (List.mem_of_getElem? (i := 1) rfl)⟩) (by decide) (by decide) (hts _ wm7_17) (va_Nw.use rfl (hE.2.2.1 (exN 2) (by decide))) hce hcv hcl ?_
    refine lv_astore (lv' := [(6, .ref q9), (0, .ref (ad 0 0)), (1, .int p2), (2, .int p3), (3, .int p4), (4, .int p5), (5, .int p6)]) hx hb dL_equates_18 hl (by decide) rfl (fun ls hl => ?_)
    refine lv_sipush (v := (-1002)) hx hb dL_equates_20 (by decide) ?_
    refine W.widen (k := 1) (n := 16) (Nat.le_of_ble_eq_true rfl) (Nat.le_of_ble_eq_true rfl) ?_
    exact g_reti hx hb hr hlk hW dL_equates_23
  · refine xc_vi (k := 3) (by decide) hx hb hml hown hts hK hN hE hW (g_cw (n := 5) hts wm13_18 wm13_19 wm13_20 wm1_2 wm13_21 ⟨rfl, by decide +kernel, by decide +kernel, by decide +kernel⟩ ⟨rfl, rfl⟩ ⟨Nat.le_of_ble_eq_true rfl, Nat.le_of_ble_eq_true rfl⟩) ⟨10, (RX10, TX10, 13), _, rfl, rfl, rfl⟩ (c_X10_equate l hfl D T A ad hok Z x_K p2 p3 p4 p5 p6 3 r2 z_K q1) rfl hl.1 rfl (Nat.le_of_ble_eq_true rfl) dL_equates_8 ⟨Nat.le_of_ble_eq_true rfl, Nat.le_of_ble_eq_true rfl⟩ (fun ce q9 H locs hW hce hcv hcl => ?_)
    refine vx_catch hown [⟨0, 11, 12, 80⟩, ⟨0, 11, 18, 73⟩] ⟨0, 11, 24, 75⟩ [] (htab.trans rfl) (fun z hz => by
      simp only [List.mem_cons, List.not_mem_nil, or_false] at hz
      rcases hz with rfl | rfl
      · exact Or.inr ⟨by decide, _, hts _ wm8_17, hC _ (List.mem_of_getElem? (i := 2) rfl)⟩
      · exact Or.inr ⟨by decide, _, hts _ wm7_17, hC _ (List.mem_of_getElem? (i := 0) rfl)⟩) (by decide) (by decide) (hts _ wm7_18) (va_Nw.use rfl (hE.2.2.1 (exN 3) (by decide))) hce hcv hcl ?_
    refine lv_astore (lv' := [(6, .ref q9), (0, .ref (ad 0 0)), (1, .int p2), (2, .int p3), (3, .int p4), (4, .int p5), (5, .int p6)]) hx hb dL_equates_24 hl (by decide) rfl (fun ls hl => ?_)
    refine lv_sipush (v := (-1003)) hx hb dL_equates_26 (by decide) ?_
    refine W.widen (k := 1) (n := 16) (Nat.le_of_ble_eq_true rfl) (Nat.le_of_ble_eq_true rfl) ?_
    exact g_reti hx hb hr hlk hW dL_equates_29
set_option maxHeartbeats 16000000 in
set_option maxRecDepth 100000 in
theorem c_L_two (l : Launch) (hfl : l.stackTraces = false) (D : va_G) (T : Nat → ClassId) (A : Nat → Prop) (ad : Nat → Nat → Nat) (hok : okad ad) (Z : va_W) (x_K : Nat → Ob) (p2 : Int32) (p3 : Int32) (p4 : Int32) (r : Int32) (x_K9 : Nat → Ob) (h : f_L_two x_K p2 p3 p4 = some (r, x_K9)) : Met l yL_two (Cond.codeWith yL_two cL_two 5 (some .int) [(0, 119, 120, 80), (0, 119, 126, 75)] :: wsL_law) (rmL 12 1) (Pl D T A (oc_X10 T (ad 0) (bb ad) (x_K 0) ++ (wkL T ad x_K L18 ++ Z)) [.ref (ad 0 0), .int p2, .int p3, .int p4]) (Qgi D A (oc_X10 T (ad 0) (bb ad) (x_K9 0) ++ (wkL T ad x_K9 L18 ++ Z)) r) 1 16 A := by
  refine va_MetW (cc := cL_two) (maxL := 5) (ret := (some .int)) (hh := [(0, 119, 120, 80), (0, 119, 126, 75)]) (by decide +kernel) rfl ?_
  intro p e s m args below meth c s₁ B hml hv
  obtain ⟨ha, hP, hK, hD, hN, hE, hC, hA⟩ := hv
  have hx := B.exec
  have hb := B.bytes
  have hr := B.returns
  have hlk := B.notSynchronized
  have hts0 := atoms_spec (ws := Cond.codeWith yL_two cL_two 5 (some .int) [(0, 119, 120, 80), (0, 119, 126, 75)] :: wsL_law) B.pre
  have hts : ∀ w ∈ wsL_law, w.before args s = true := fun w hw => hts0 w (List.mem_cons_of_mem _ hw)
  have htab := vx_table (x := yL_two) B (hts0 _ List.mem_cons_self)
  have hown : s.vm.findClass RL = some m.cls := findClass_of_methodNamed B.named
  have hW : Wd D A s.heap (oc_X10 T (ad 0) (bb ad) (x_K 0) ++ (wkL T ad x_K L18 ++ Z)) s.heap [] := ⟨hP, hD, va_S.rf⟩
  have hl := lv_entry [.ref (ad 0 0), .int p2, .int p3, .int p4] (n := 5) (Nat.le_of_ble_eq_true rfl)
  refine W.eq (en_eq ha) ?_
  generalize (lg_sl [.ref (ad 0 0), .int p2, .int p3, .int p4] ++ List.replicate (5 - (lg_sl [.ref (ad 0 0), .int p2, .int p3, .int p4]).length) Slot.unset).toArray = ls at hl ⊢
  have hl : lv_has ls 5 [(0, .ref (ad 0 0)), (1, .int p2), (2, .int p3), (3, .int p4)] := hl
  clear hP hD B ha
  obtain ⟨Q, hQ⟩ : ∃ Q, Q = MQ below (Qgi D A (oc_X10 T (ad 0) (bb ad) (x_K9 0) ++ (wkL T ad x_K9 L18 ++ Z)) r) args s 1 16 A := ⟨_, rfl⟩
  rw [← hQ]
  change W p l e (rmL 12 1) s m args below meth c s.heap [] 0 0 Q (F0 m 0 ls [])
  rw [f_L_two] at h
  refine lv_iload_n hx hb dL_two_0 rfl (lv_at hl 1 rfl) ?_
  refine lv_if_ne (tgt := 13) hx hb dL_two_1 (by decide) (fun c1 => ?_) (fun c1 => ?_)
  · replace h := ite_f c1 h
    refine lv_iload_n hx hb dL_two_13 rfl (lv_at hl 1 rfl) ?_
    refine lv_iconst (v := 1) hx hb dL_two_14 (by decide) ?_
    refine lv_icmp_ne (tgt := 27) hx hb dL_two_15 (by decide) (fun c2 => ?_) (fun c2 => ?_)
    · replace h := ite_f c2 h
      refine lv_iload_n hx hb dL_two_27 rfl (lv_at hl 1 rfl) ?_
      refine lv_iconst (v := 2) hx hb dL_two_28 (by decide) ?_
      refine lv_icmp_ne (tgt := 41) hx hb dL_two_29 (by decide) (fun c3 => ?_) (fun c3 => ?_)
      · replace h := ite_f c3 h
        refine lv_iload_n hx hb dL_two_41 rfl (lv_at hl 1 rfl) ?_
        refine lv_iconst (v := 3) hx hb dL_two_42 (by decide) ?_
        refine lv_icmp_ne (tgt := 55) hx hb dL_two_43 (by decide) (fun c4 => ?_) (fun c4 => ?_)
        · replace h := ite_f c4 h
          refine lv_iload_n hx hb dL_two_55 rfl (lv_at hl 1 rfl) ?_
          refine lv_iconst (v := 4) hx hb dL_two_56 (by decide) ?_
          refine lv_icmp_ne (tgt := 69) hx hb dL_two_57 (by decide) (fun c5 => ?_) (fun c5 => ?_)
          · replace h := ite_f c5 h
            refine lv_iload_n hx hb dL_two_69 rfl (lv_at hl 1 rfl) ?_
            refine lv_iconst (v := 5) hx hb dL_two_70 (by decide) ?_
            refine lv_icmp_ne (tgt := 83) hx hb dL_two_71 (by decide) (fun c6 => ?_) (fun c6 => ?_)
            · replace h := ite_f c6 h
              refine lv_iload_n hx hb dL_two_83 rfl (lv_at hl 1 rfl) ?_
              refine lv_bipush (v := 6) hx hb dL_two_84 (by decide) ?_
              refine lv_icmp_ne (tgt := 98) hx hb dL_two_86 (by decide) (fun c7 => ?_) (fun c7 => ?_)
              · replace h := ite_f c7 h
                refine lv_iload_n hx hb dL_two_98 rfl (lv_at hl 1 rfl) ?_
                refine lv_bipush (v := 7) hx hb dL_two_99 (by decide) ?_
                refine lv_icmp_ne (tgt := 113) hx hb dL_two_101 (by decide) (fun c8 => ?_) (fun c8 => ?_)
                · replace h := ite_f c8 h
                  refine lv_aload_n hx hb dL_two_113 rfl (lv_at hl 0 rfl) ?_
                  refine lv_iload_n hx hb dL_two_114 rfl (lv_at hl 2 rfl) ?_
                  refine lv_iload_n hx hb dL_two_115 rfl (lv_at hl 3 rfl) ?_
                  obtain ⟨k, r2, z_K, q1, h⟩ := bnd3_s h
                  obtain ⟨v, q2, h⟩ := bnd1_s h
                  obtain ⟨e1, e2⟩ := ret2 h
                  replace e1 := e1.symm
                  replace e2 := e2.symm
                  subst e1
                  subst e2
                  rw [hQ]
                  rcases kt13 q2 with ⟨rfl, rfl⟩ | ⟨rfl, rfl⟩ | ⟨rfl, rfl⟩
                  · refine x0_vi hx hb hml hown hts hK hN hE hW (g_cw (n := 2) hts wm30_12 wm30_13 wm30_14 wm1_2 wm30_15 ⟨rfl, by decide +kernel, by decide +kernel, by decide +kernel⟩ ⟨rfl, rfl⟩ ⟨Nat.le_of_ble_eq_true rfl, Nat.le_of_ble_eq_true rfl⟩) ⟨10, (RX10, TX10, 13), _, rfl, rfl, rfl⟩ (c_X10_styleFault l hfl D T A ad hok Z x_K p3 p4 0 v z_K q1) rfl hl.1 rfl (Nat.le_of_ble_eq_true rfl) dL_two_116 ⟨Nat.zero_le _, Nat.zero_le _⟩ (fun H locs hW => ?_)
                    refine W.widen (k := 1) (n := 16) (Nat.zero_le _) (Nat.zero_le _) ?_
                    exact g_reti hx hb hr hlk hW dL_two_119
                  · refine xc_vi (k := 1) (by decide) hx hb hml hown hts hK hN hE hW (g_cw (n := 2) hts wm30_12 wm30_13 wm30_14 wm1_2 wm30_15 ⟨rfl, by decide +kernel, by decide +kernel, by decide +kernel⟩ ⟨rfl, rfl⟩ ⟨Nat.le_of_ble_eq_true rfl, Nat.le_of_ble_eq_true rfl⟩) ⟨10, (RX10, TX10, 13), _, rfl, rfl, rfl⟩ (c_X10_styleFault l hfl D T A ad hok Z x_K p3 p4 1 r2 z_K q1) rfl hl.1 rfl (Nat.le_of_ble_eq_true rfl) dL_two_116 ⟨Nat.le_of_ble_eq_true rfl, Nat.le_of_ble_eq_true rfl⟩ (fun ce q9 H locs hW hce hcv hcl => ?_)
                    refine vx_catch hown [] ⟨0, 119, 120, 80⟩ [⟨0, 119, 126, 75⟩] (htab.trans rfl) (fun z hz => absurd hz List.not_mem_nil) (by decide) (by decide) (hts _ wm8_17) (va_Nw.use rfl (hE.2.2.1 (exN 1) (by decide))) hce hcv hcl ?_
                    refine lv_astore (lv' := [(4, .ref q9), (0, .ref (ad 0 0)), (1, .int p2), (2, .int p3), (3, .int p4)]) hx hb dL_two_120 hl (by decide) rfl (fun ls hl => ?_)
                    refine lv_sipush (v := (-1001)) hx hb dL_two_122 (by decide) ?_
                    refine W.widen (k := 1) (n := 16) (Nat.le_of_ble_eq_true rfl) (Nat.le_of_ble_eq_true rfl) ?_
                    exact g_reti hx hb hr hlk hW dL_two_125
                  · refine xc_vi (k := 3) (by decide) hx hb hml hown hts hK hN hE hW (g_cw (n := 2) hts wm30_12 wm30_13 wm30_14 wm1_2 wm30_15 ⟨rfl, by decide +kernel, by decide +kernel, by decide +kernel⟩ ⟨rfl, rfl⟩ ⟨Nat.le_of_ble_eq_true rfl, Nat.le_of_ble_eq_true rfl⟩) ⟨10, (RX10, TX10, 13), _, rfl, rfl, rfl⟩ (c_X10_styleFault l hfl D T A ad hok Z x_K p3 p4 3 r2 z_K q1) rfl hl.1 rfl (Nat.le_of_ble_eq_true rfl) dL_two_116 ⟨Nat.le_of_ble_eq_true rfl, Nat.le_of_ble_eq_true rfl⟩ (fun ce q9 H locs hW hce hcv hcl => ?_)
                    refine vx_catch hown [⟨0, 119, 120, 80⟩] ⟨0, 119, 126, 75⟩ [] (htab.trans rfl) (fun z hz => by
                      simp only [List.mem_cons, List.not_mem_nil, or_false] at hz
                      rcases hz with rfl
                      · exact Or.inr ⟨by decide, _, hts _ wm8_17, hC _ (List.mem_of_getElem? (i := 2) rfl)⟩) (by decide) (by decide) (hts _ wm7_18) (va_Nw.use rfl (hE.2.2.1 (exN 3) (by decide))) hce hcv hcl ?_
                    refine lv_astore (lv' := [(4, .ref q9), (0, .ref (ad 0 0)), (1, .int p2), (2, .int p3), (3, .int p4)]) hx hb dL_two_126 hl (by decide) rfl (fun ls hl => ?_)
                    refine lv_sipush (v := (-1003)) hx hb dL_two_128 (by decide) ?_
                    refine W.widen (k := 1) (n := 16) (Nat.le_of_ble_eq_true rfl) (Nat.le_of_ble_eq_true rfl) ?_
                    exact g_reti hx hb hr hlk hW dL_two_131
                · replace h := ite_t c8 h
                  refine lv_aload_n hx hb dL_two_104 rfl (lv_at hl 0 rfl) ?_
                  refine lv_iload_n hx hb dL_two_105 rfl (lv_at hl 2 rfl) ?_
                  refine lv_iload_n hx hb dL_two_106 rfl (lv_at hl 3 rfl) ?_
                  obtain ⟨k, r2, z_K, q1, h⟩ := bnd3_s h
                  obtain ⟨v, q2, h⟩ := bnd1_s h
                  obtain ⟨e1, e2⟩ := ret2 h
                  replace e1 := e1.symm
                  replace e2 := e2.symm
                  subst e1
                  subst e2
                  rw [hQ]
                  rcases kt13 q2 with ⟨rfl, rfl⟩ | ⟨rfl, rfl⟩ | ⟨rfl, rfl⟩
                  · refine x0_vi hx hb hml hown hts hK hN hE hW (g_cw (n := 2) hts wm26_22 wm26_23 wm27_0 wm1_2 wm27_1 ⟨rfl, by decide +kernel, by decide +kernel, by decide +kernel⟩ ⟨rfl, rfl⟩ ⟨Nat.le_of_ble_eq_true rfl, Nat.le_of_ble_eq_true rfl⟩) ⟨10, (RX10, TX10, 13), _, rfl, rfl, rfl⟩ (c_X10_mend l hfl D T A ad hok Z x_K p3 p4 0 v z_K q1) rfl hl.1 rfl (Nat.le_of_ble_eq_true rfl) dL_two_107 ⟨Nat.zero_le _, Nat.zero_le _⟩ (fun H locs hW => ?_)
                    refine lv_goto (tgt := 119) hx hb dL_two_110 (by decide) ?_
                    refine W.widen (k := 1) (n := 16) (Nat.zero_le _) (Nat.zero_le _) ?_
                    exact g_reti hx hb hr hlk hW dL_two_119
                  · refine xc_vi (k := 1) (by decide) hx hb hml hown hts hK hN hE hW (g_cw (n := 2) hts wm26_22 wm26_23 wm27_0 wm1_2 wm27_1 ⟨rfl, by decide +kernel, by decide +kernel, by decide +kernel⟩ ⟨rfl, rfl⟩ ⟨Nat.le_of_ble_eq_true rfl, Nat.le_of_ble_eq_true rfl⟩) ⟨10, (RX10, TX10, 13), _, rfl, rfl, rfl⟩ (c_X10_mend l hfl D T A ad hok Z x_K p3 p4 1 r2 z_K q1) rfl hl.1 rfl (Nat.le_of_ble_eq_true rfl) dL_two_107 ⟨Nat.le_of_ble_eq_true rfl, Nat.le_of_ble_eq_true rfl⟩ (fun ce q9 H locs hW hce hcv hcl => ?_)
                    refine vx_catch hown [] ⟨0, 119, 120, 80⟩ [⟨0, 119, 126, 75⟩] (htab.trans rfl) (fun z hz => absurd hz List.not_mem_nil) (by decide) (by decide) (hts _ wm8_17) (va_Nw.use rfl (hE.2.2.1 (exN 1) (by decide))) hce hcv hcl ?_
                    refine lv_astore (lv' := [(4, .ref q9), (0, .ref (ad 0 0)), (1, .int p2), (2, .int p3), (3, .int p4)]) hx hb dL_two_120 hl (by decide) rfl (fun ls hl => ?_)
                    refine lv_sipush (v := (-1001)) hx hb dL_two_122 (by decide) ?_
                    refine W.widen (k := 1) (n := 16) (Nat.le_of_ble_eq_true rfl) (Nat.le_of_ble_eq_true rfl) ?_
                    exact g_reti hx hb hr hlk hW dL_two_125
                  · refine xc_vi (k := 3) (by decide) hx hb hml hown hts hK hN hE hW (g_cw (n := 2) hts wm26_22 wm26_23 wm27_0 wm1_2 wm27_1 ⟨rfl, by decide +kernel, by decide +kernel, by decide +kernel⟩ ⟨rfl, rfl⟩ ⟨Nat.le_of_ble_eq_true rfl, Nat.le_of_ble_eq_true rfl⟩) ⟨10, (RX10, TX10, 13), _, rfl, rfl, rfl⟩ (c_X10_mend l hfl D T A ad hok Z x_K p3 p4 3 r2 z_K q1) rfl hl.1 rfl (Nat.le_of_ble_eq_true rfl) dL_two_107 ⟨Nat.le_of_ble_eq_true rfl, Nat.le_of_ble_eq_true rfl⟩ (fun ce q9 H locs hW hce hcv hcl => ?_)
                    refine vx_catch hown [⟨0, 119, 120, 80⟩] ⟨0, 119, 126, 75⟩ [] (htab.trans rfl) (fun z hz => by
                      simp only [List.mem_cons, List.not_mem_nil, or_false] at hz
                      rcases hz with rfl
                      · exact Or.inr ⟨by decide, _, hts _ wm8_17, hC _ (List.mem_of_getElem? (i := 2) rfl)⟩) (by decide) (by decide) (hts _ wm7_18) (va_Nw.use rfl (hE.2.2.1 (exN 3) (by decide))) hce hcv hcl ?_
                    refine lv_astore (lv' := [(4, .ref q9), (0, .ref (ad 0 0)), (1, .int p2), (2, .int p3), (3, .int p4)]) hx hb dL_two_126 hl (by decide) rfl (fun ls hl => ?_)
                    refine lv_sipush (v := (-1003)) hx hb dL_two_128 (by decide) ?_
                    refine W.widen (k := 1) (n := 16) (Nat.le_of_ble_eq_true rfl) (Nat.le_of_ble_eq_true rfl) ?_
                    exact g_reti hx hb hr hlk hW dL_two_131
              · replace h := ite_t c7 h
                refine lv_aload_n hx hb dL_two_89 rfl (lv_at hl 0 rfl) ?_
                refine lv_iload_n hx hb dL_two_90 rfl (lv_at hl 2 rfl) ?_
                refine lv_iload_n hx hb dL_two_91 rfl (lv_at hl 3 rfl) ?_
                obtain ⟨k, r2, z_K, q1, h⟩ := bnd3_s h
                obtain ⟨v, q2, h⟩ := bnd1_s h
                obtain ⟨e1, e2⟩ := ret2 h
                replace e1 := e1.symm
                replace e2 := e2.symm
                subst e1
                subst e2
                rw [hQ]
                rcases kt13 q2 with ⟨rfl, rfl⟩ | ⟨rfl, rfl⟩ | ⟨rfl, rfl⟩
                · refine x0_vi hx hb hml hown hts hK hN hE hW (g_cw (n := 2) hts wm25_17 wm25_18 wm25_19 wm1_2 wm25_20 ⟨rfl, by decide +kernel, by decide +kernel, by decide +kernel⟩ ⟨rfl, rfl⟩ ⟨Nat.le_of_ble_eq_true rfl, Nat.le_of_ble_eq_true rfl⟩) ⟨10, (RX10, TX10, 13), _, rfl, rfl, rfl⟩ (c_X10_fragment l hfl D T A ad hok Z x_K p3 p4 0 v z_K q1) rfl hl.1 rfl (Nat.le_of_ble_eq_true rfl) dL_two_92 ⟨Nat.zero_le _, Nat.zero_le _⟩ (fun H locs hW => ?_)
                  refine lv_goto (tgt := 119) hx hb dL_two_95 (by decide) ?_
                  refine W.widen (k := 1) (n := 16) (Nat.zero_le _) (Nat.zero_le _) ?_
                  exact g_reti hx hb hr hlk hW dL_two_119
                · refine xc_vi (k := 1) (by decide) hx hb hml hown hts hK hN hE hW (g_cw (n := 2) hts wm25_17 wm25_18 wm25_19 wm1_2 wm25_20 ⟨rfl, by decide +kernel, by decide +kernel, by decide +kernel⟩ ⟨rfl, rfl⟩ ⟨Nat.le_of_ble_eq_true rfl, Nat.le_of_ble_eq_true rfl⟩) ⟨10, (RX10, TX10, 13), _, rfl, rfl, rfl⟩ (c_X10_fragment l hfl D T A ad hok Z x_K p3 p4 1 r2 z_K q1) rfl hl.1 rfl (Nat.le_of_ble_eq_true rfl) dL_two_92 ⟨Nat.le_of_ble_eq_true rfl, Nat.le_of_ble_eq_true rfl⟩ (fun ce q9 H locs hW hce hcv hcl => ?_)
                  refine vx_catch hown [] ⟨0, 119, 120, 80⟩ [⟨0, 119, 126, 75⟩] (htab.trans rfl) (fun z hz => absurd hz List.not_mem_nil) (by decide) (by decide) (hts _ wm8_17) (va_Nw.use rfl (hE.2.2.1 (exN 1) (by decide))) hce hcv hcl ?_
                  refine lv_astore (lv' := [(4, .ref q9), (0, .ref (ad 0 0)), (1, .int p2), (2, .int p3), (3, .int p4)]) hx hb dL_two_120 hl (by decide) rfl (fun ls hl => ?_)
                  refine lv_sipush (v := (-1001)) hx hb dL_two_122 (by decide) ?_
                  refine W.widen (k := 1) (n := 16) (Nat.le_of_ble_eq_true rfl) (Nat.le_of_ble_eq_true rfl) ?_
                  exact g_reti hx hb hr hlk hW dL_two_125
                · refine xc_vi (k := 3) (by decide) hx hb hml hown hts hK hN hE hW (g_cw (n := 2) hts wm25_17 wm25_18 wm25_19 wm1_2 wm25_20 ⟨rfl, by decide +kernel, by decide +kernel, by decide +kernel⟩ ⟨rfl, rfl⟩ ⟨Nat.le_of_ble_eq_true rfl, Nat.le_of_ble_eq_true rfl⟩) ⟨10, (RX10, TX10, 13), _, rfl, rfl, rfl⟩ (c_X10_fragment l hfl D T A ad hok Z x_K p3 p4 3 r2 z_K q1) rfl hl.1 rfl (Nat.le_of_ble_eq_true rfl) dL_two_92 ⟨Nat.le_of_ble_eq_true rfl, Nat.le_of_ble_eq_true rfl⟩ (fun ce q9 H locs hW hce hcv hcl => ?_)
                  refine vx_catch hown [⟨0, 119, 120, 80⟩] ⟨0, 119, 126, 75⟩ [] (htab.trans rfl) (fun z hz => by
                    simp only [List.mem_cons, List.not_mem_nil, or_false] at hz
                    rcases hz with rfl
                    · exact Or.inr ⟨by decide, _, hts _ wm8_17, hC _ (List.mem_of_getElem? (i := 2) rfl)⟩) (by decide) (by decide) (hts _ wm7_18) (va_Nw.use rfl (hE.2.2.1 (exN 3) (by decide))) hce hcv hcl ?_
                  refine lv_astore (lv' := [(4, .ref q9), (0, .ref (ad 0 0)), (1, .int p2), (2, .int p3), (3, .int p4)]) hx hb dL_two_126 hl (by decide) rfl (fun ls hl => ?_)
                  refine lv_sipush (v := (-1003)) hx hb dL_two_128 (by decide) ?_
                  refine W.widen (k := 1) (n := 16) (Nat.le_of_ble_eq_true rfl) (Nat.le_of_ble_eq_true rfl) ?_
                  exact g_reti hx hb hr hlk hW dL_two_131
            · replace h := ite_t c6 h
              refine lv_aload_n hx hb dL_two_74 rfl (lv_at hl 0 rfl) ?_
              refine lv_iload_n hx hb dL_two_75 rfl (lv_at hl 2 rfl) ?_
              refine lv_iload_n hx hb dL_two_76 rfl (lv_at hl 3 rfl) ?_
              obtain ⟨k, r2, z_K, q1, h⟩ := bnd3_s h
              obtain ⟨v, q2, h⟩ := bnd1_s h
              obtain ⟨e1, e2⟩ := ret2 h
              replace e1 := e1.symm
              replace e2 := e2.symm
              subst e1
              subst e2
              rw [hQ]
              rcases kt13 q2 with ⟨rfl, rfl⟩ | ⟨rfl, rfl⟩ | ⟨rfl, rfl⟩
              · refine x0_vi hx hb hml hown hts hK hN hE hW (g_cw (n := 2) hts wm20_1 wm20_2 wm20_3 wm1_2 wm20_4 ⟨rfl, by decide +kernel, by decide +kernel, by decide +kernel⟩ ⟨rfl, rfl⟩ ⟨Nat.le_of_ble_eq_true rfl, Nat.le_of_ble_eq_true rfl⟩) ⟨10, (RX10, TX10, 13), _, rfl, rfl, rfl⟩ (c_X10_fault l hfl D T A ad hok Z x_K p3 p4 0 v z_K q1) rfl hl.1 rfl (Nat.le_of_ble_eq_true rfl) dL_two_77 ⟨Nat.zero_le _, Nat.zero_le _⟩ (fun H locs hW => ?_)
                refine lv_goto (tgt := 119) hx hb dL_two_80 (by decide) ?_
                refine W.widen (k := 1) (n := 16) (Nat.zero_le _) (Nat.zero_le _) ?_
                exact g_reti hx hb hr hlk hW dL_two_119
              · refine xc_vi (k := 1) (by decide) hx hb hml hown hts hK hN hE hW (g_cw (n := 2) hts wm20_1 wm20_2 wm20_3 wm1_2 wm20_4 ⟨rfl, by decide +kernel, by decide +kernel, by decide +kernel⟩ ⟨rfl, rfl⟩ ⟨Nat.le_of_ble_eq_true rfl, Nat.le_of_ble_eq_true rfl⟩) ⟨10, (RX10, TX10, 13), _, rfl, rfl, rfl⟩ (c_X10_fault l hfl D T A ad hok Z x_K p3 p4 1 r2 z_K q1) rfl hl.1 rfl (Nat.le_of_ble_eq_true rfl) dL_two_77 ⟨Nat.le_of_ble_eq_true rfl, Nat.le_of_ble_eq_true rfl⟩ (fun ce q9 H locs hW hce hcv hcl => ?_)
                refine vx_catch hown [] ⟨0, 119, 120, 80⟩ [⟨0, 119, 126, 75⟩] (htab.trans rfl) (fun z hz => absurd hz List.not_mem_nil) (by decide) (by decide) (hts _ wm8_17) (va_Nw.use rfl (hE.2.2.1 (exN 1) (by decide))) hce hcv hcl ?_
                refine lv_astore (lv' := [(4, .ref q9), (0, .ref (ad 0 0)), (1, .int p2), (2, .int p3), (3, .int p4)]) hx hb dL_two_120 hl (by decide) rfl (fun ls hl => ?_)
                refine lv_sipush (v := (-1001)) hx hb dL_two_122 (by decide) ?_
                refine W.widen (k := 1) (n := 16) (Nat.le_of_ble_eq_true rfl) (Nat.le_of_ble_eq_true rfl) ?_
                exact g_reti hx hb hr hlk hW dL_two_125
              · refine xc_vi (k := 3) (by decide) hx hb hml hown hts hK hN hE hW (g_cw (n := 2) hts wm20_1 wm20_2 wm20_3 wm1_2 wm20_4 ⟨rfl, by decide +kernel, by decide +kernel, by decide +kernel⟩ ⟨rfl, rfl⟩ ⟨Nat.le_of_ble_eq_true rfl, Nat.le_of_ble_eq_true rfl⟩) ⟨10, (RX10, TX10, 13), _, rfl, rfl, rfl⟩ (c_X10_fault l hfl D T A ad hok Z x_K p3 p4 3 r2 z_K q1) rfl hl.1 rfl (Nat.le_of_ble_eq_true rfl) dL_two_77 ⟨Nat.le_of_ble_eq_true rfl, Nat.le_of_ble_eq_true rfl⟩ (fun ce q9 H locs hW hce hcv hcl => ?_)
                refine vx_catch hown [⟨0, 119, 120, 80⟩] ⟨0, 119, 126, 75⟩ [] (htab.trans rfl) (fun z hz => by
                  simp only [List.mem_cons, List.not_mem_nil, or_false] at hz
                  rcases hz with rfl
                  · exact Or.inr ⟨by decide, _, hts _ wm8_17, hC _ (List.mem_of_getElem? (i := 2) rfl)⟩) (by decide) (by decide) (hts _ wm7_18) (va_Nw.use rfl (hE.2.2.1 (exN 3) (by decide))) hce hcv hcl ?_
                refine lv_astore (lv' := [(4, .ref q9), (0, .ref (ad 0 0)), (1, .int p2), (2, .int p3), (3, .int p4)]) hx hb dL_two_126 hl (by decide) rfl (fun ls hl => ?_)
                refine lv_sipush (v := (-1003)) hx hb dL_two_128 (by decide) ?_
                refine W.widen (k := 1) (n := 16) (Nat.le_of_ble_eq_true rfl) (Nat.le_of_ble_eq_true rfl) ?_
                exact g_reti hx hb hr hlk hW dL_two_131
          · replace h := ite_t c5 h
            refine lv_aload_n hx hb dL_two_60 rfl (lv_at hl 0 rfl) ?_
            refine lv_iload_n hx hb dL_two_61 rfl (lv_at hl 2 rfl) ?_
            refine lv_iload_n hx hb dL_two_62 rfl (lv_at hl 3 rfl) ?_
            obtain ⟨k, r2, z_K, q1, h⟩ := bnd3_s h
            obtain ⟨v, q2, h⟩ := bnd1_s h
            obtain ⟨e1, e2⟩ := ret2 h
            replace e1 := e1.symm
            replace e2 := e2.symm
            subst e1
            subst e2
            rw [hQ]
            rcases kt13 q2 with ⟨rfl, rfl⟩ | ⟨rfl, rfl⟩ | ⟨rfl, rfl⟩
            · refine x0_vi hx hb hml hown hts hK hN hE hW (g_cw (n := 2) hts wm18_15 wm18_16 wm18_17 wm1_2 wm18_18 ⟨rfl, by decide +kernel, by decide +kernel, by decide +kernel⟩ ⟨rfl, rfl⟩ ⟨Nat.le_of_ble_eq_true rfl, Nat.le_of_ble_eq_true rfl⟩) ⟨10, (RX10, TX10, 13), _, rfl, rfl, rfl⟩ (c_X10_referent l hfl D T A ad hok Z x_K p3 p4 0 v z_K q1) rfl hl.1 rfl (Nat.le_of_ble_eq_true rfl) dL_two_63 ⟨Nat.zero_le _, Nat.zero_le _⟩ (fun H locs hW => ?_)
              refine lv_goto (tgt := 119) hx hb dL_two_66 (by decide) ?_
              refine W.widen (k := 1) (n := 16) (Nat.zero_le _) (Nat.zero_le _) ?_
              exact g_reti hx hb hr hlk hW dL_two_119
            · refine xc_vi (k := 1) (by decide) hx hb hml hown hts hK hN hE hW (g_cw (n := 2) hts wm18_15 wm18_16 wm18_17 wm1_2 wm18_18 ⟨rfl, by decide +kernel, by decide +kernel, by decide +kernel⟩ ⟨rfl, rfl⟩ ⟨Nat.le_of_ble_eq_true rfl, Nat.le_of_ble_eq_true rfl⟩) ⟨10, (RX10, TX10, 13), _, rfl, rfl, rfl⟩ (c_X10_referent l hfl D T A ad hok Z x_K p3 p4 1 r2 z_K q1) rfl hl.1 rfl (Nat.le_of_ble_eq_true rfl) dL_two_63 ⟨Nat.le_of_ble_eq_true rfl, Nat.le_of_ble_eq_true rfl⟩ (fun ce q9 H locs hW hce hcv hcl => ?_)
              refine vx_catch hown [] ⟨0, 119, 120, 80⟩ [⟨0, 119, 126, 75⟩] (htab.trans rfl) (fun z hz => absurd hz List.not_mem_nil) (by decide) (by decide) (hts _ wm8_17) (va_Nw.use rfl (hE.2.2.1 (exN 1) (by decide))) hce hcv hcl ?_
              refine lv_astore (lv' := [(4, .ref q9), (0, .ref (ad 0 0)), (1, .int p2), (2, .int p3), (3, .int p4)]) hx hb dL_two_120 hl (by decide) rfl (fun ls hl => ?_)
              refine lv_sipush (v := (-1001)) hx hb dL_two_122 (by decide) ?_
              refine W.widen (k := 1) (n := 16) (Nat.le_of_ble_eq_true rfl) (Nat.le_of_ble_eq_true rfl) ?_
              exact g_reti hx hb hr hlk hW dL_two_125
            · refine xc_vi (k := 3) (by decide) hx hb hml hown hts hK hN hE hW (g_cw (n := 2) hts wm18_15 wm18_16 wm18_17 wm1_2 wm18_18 ⟨rfl, by decide +kernel, by decide +kernel, by decide +kernel⟩ ⟨rfl, rfl⟩ ⟨Nat.le_of_ble_eq_true rfl, Nat.le_of_ble_eq_true rfl⟩) ⟨10, (RX10, TX10, 13), _, rfl, rfl, rfl⟩ (c_X10_referent l hfl D T A ad hok Z x_K p3 p4 3 r2 z_K q1) rfl hl.1 rfl (Nat.le_of_ble_eq_true rfl) dL_two_63 ⟨Nat.le_of_ble_eq_true rfl, Nat.le_of_ble_eq_true rfl⟩ (fun ce q9 H locs hW hce hcv hcl => ?_)
              refine vx_catch hown [⟨0, 119, 120, 80⟩] ⟨0, 119, 126, 75⟩ [] (htab.trans rfl) (fun z hz => by
                simp only [List.mem_cons, List.not_mem_nil, or_false] at hz
                rcases hz with rfl
                · exact Or.inr ⟨by decide, _, hts _ wm8_17, hC _ (List.mem_of_getElem? (i := 2) rfl)⟩) (by decide) (by decide) (hts _ wm7_18) (va_Nw.use rfl (hE.2.2.1 (exN 3) (by decide))) hce hcv hcl ?_
              refine lv_astore (lv' := [(4, .ref q9), (0, .ref (ad 0 0)), (1, .int p2), (2, .int p3), (3, .int p4)]) hx hb dL_two_126 hl (by decide) rfl (fun ls hl => ?_)
              refine lv_sipush (v := (-1003)) hx hb dL_two_128 (by decide) ?_
              refine W.widen (k := 1) (n := 16) (Nat.le_of_ble_eq_true rfl) (Nat.le_of_ble_eq_true rfl) ?_
              exact g_reti hx hb hr hlk hW dL_two_131
        · replace h := ite_t c4 h
          refine lv_aload_n hx hb dL_two_46 rfl (lv_at hl 0 rfl) ?_
          refine lv_iload_n hx hb dL_two_47 rfl (lv_at hl 2 rfl) ?_
          refine lv_iload_n hx hb dL_two_48 rfl (lv_at hl 3 rfl) ?_
          obtain ⟨k, r2, z_K, q1, h⟩ := bnd3_s h
          obtain ⟨v, q2, h⟩ := bnd1_s h
          obtain ⟨e1, e2⟩ := ret2 h
          replace e1 := e1.symm
          replace e2 := e2.symm
          subst e1
          subst e2
          rw [hQ]
          rcases kt13 q2 with ⟨rfl, rfl⟩ | ⟨rfl, rfl⟩ | ⟨rfl, rfl⟩
          · refine x0_vi hx hb hml hown hts hK hN hE hW (g_cw (n := 2) hts wm16_9 wm16_10 wm16_11 wm1_2 wm16_12 ⟨rfl, by decide +kernel, by decide +kernel, by decide +kernel⟩ ⟨rfl, rfl⟩ ⟨Nat.le_of_ble_eq_true rfl, Nat.le_of_ble_eq_true rfl⟩) ⟨10, (RX10, TX10, 13), _, rfl, rfl, rfl⟩ (c_X10_left l hfl D T A ad hok Z x_K p3 p4 0 v z_K q1) rfl hl.1 rfl (Nat.le_of_ble_eq_true rfl) dL_two_49 ⟨Nat.zero_le _, Nat.zero_le _⟩ (fun H locs hW => ?_)
            refine lv_goto (tgt := 119) hx hb dL_two_52 (by decide) ?_
            refine W.widen (k := 1) (n := 16) (Nat.zero_le _) (Nat.zero_le _) ?_
            exact g_reti hx hb hr hlk hW dL_two_119
          · refine xc_vi (k := 1) (by decide) hx hb hml hown hts hK hN hE hW (g_cw (n := 2) hts wm16_9 wm16_10 wm16_11 wm1_2 wm16_12 ⟨rfl, by decide +kernel, by decide +kernel, by decide +kernel⟩ ⟨rfl, rfl⟩ ⟨Nat.le_of_ble_eq_true rfl, Nat.le_of_ble_eq_true rfl⟩) ⟨10, (RX10, TX10, 13), _, rfl, rfl, rfl⟩ (c_X10_left l hfl D T A ad hok Z x_K p3 p4 1 r2 z_K q1) rfl hl.1 rfl (Nat.le_of_ble_eq_true rfl) dL_two_49 ⟨Nat.le_of_ble_eq_true rfl, Nat.le_of_ble_eq_true rfl⟩ (fun ce q9 H locs hW hce hcv hcl => ?_)
            refine vx_catch hown [] ⟨0, 119, 120, 80⟩ [⟨0, 119, 126, 75⟩] (htab.trans rfl) (fun z hz => absurd hz List.not_mem_nil) (by decide) (by decide) (hts _ wm8_17) (va_Nw.use rfl (hE.2.2.1 (exN 1) (by decide))) hce hcv hcl ?_
            refine lv_astore (lv' := [(4, .ref q9), (0, .ref (ad 0 0)), (1, .int p2), (2, .int p3), (3, .int p4)]) hx hb dL_two_120 hl (by decide) rfl (fun ls hl => ?_)
            refine lv_sipush (v := (-1001)) hx hb dL_two_122 (by decide) ?_
            refine W.widen (k := 1) (n := 16) (Nat.le_of_ble_eq_true rfl) (Nat.le_of_ble_eq_true rfl) ?_
            exact g_reti hx hb hr hlk hW dL_two_125
          · refine xc_vi (k := 3) (by decide) hx hb hml hown hts hK hN hE hW (g_cw (n := 2) hts wm16_9 wm16_10 wm16_11 wm1_2 wm16_12 ⟨rfl, by decide +kernel, by decide +kernel, by decide +kernel⟩ ⟨rfl, rfl⟩ ⟨Nat.le_of_ble_eq_true rfl, Nat.le_of_ble_eq_true rfl⟩) ⟨10, (RX10, TX10, 13), _, rfl, rfl, rfl⟩ (c_X10_left l hfl D T A ad hok Z x_K p3 p4 3 r2 z_K q1) rfl hl.1 rfl (Nat.le_of_ble_eq_true rfl) dL_two_49 ⟨Nat.le_of_ble_eq_true rfl, Nat.le_of_ble_eq_true rfl⟩ (fun ce q9 H locs hW hce hcv hcl => ?_)
            refine vx_catch hown [⟨0, 119, 120, 80⟩] ⟨0, 119, 126, 75⟩ [] (htab.trans rfl) (fun z hz => by
              simp only [List.mem_cons, List.not_mem_nil, or_false] at hz
              rcases hz with rfl
              · exact Or.inr ⟨by decide, _, hts _ wm8_17, hC _ (List.mem_of_getElem? (i := 2) rfl)⟩) (by decide) (by decide) (hts _ wm7_18) (va_Nw.use rfl (hE.2.2.1 (exN 3) (by decide))) hce hcv hcl ?_
            refine lv_astore (lv' := [(4, .ref q9), (0, .ref (ad 0 0)), (1, .int p2), (2, .int p3), (3, .int p4)]) hx hb dL_two_126 hl (by decide) rfl (fun ls hl => ?_)
            refine lv_sipush (v := (-1003)) hx hb dL_two_128 (by decide) ?_
            refine W.widen (k := 1) (n := 16) (Nat.le_of_ble_eq_true rfl) (Nat.le_of_ble_eq_true rfl) ?_
            exact g_reti hx hb hr hlk hW dL_two_131
      · replace h := ite_t c3 h
        refine lv_aload_n hx hb dL_two_32 rfl (lv_at hl 0 rfl) ?_
        refine lv_iload_n hx hb dL_two_33 rfl (lv_at hl 2 rfl) ?_
        refine lv_iload_n hx hb dL_two_34 rfl (lv_at hl 3 rfl) ?_
        obtain ⟨k, r2, q1, h⟩ := bnd2_s h
        obtain ⟨v, q2, h⟩ := bnd1_s h
        obtain ⟨e1, e2⟩ := ret2 h
        replace e1 := e1.symm
        replace e2 := e2.symm
        subst e1
        subst e2
        rw [hQ]
        rcases kt13 q2 with ⟨rfl, rfl⟩ | ⟨rfl, rfl⟩ | ⟨rfl, rfl⟩
        · refine x0_vi hx hb hml hown hts hK hN hE hW (g_cw (n := 2) hts wm16_5 wm16_6 wm16_7 wm1_2 wm16_8 ⟨rfl, by decide +kernel, by decide +kernel, by decide +kernel⟩ ⟨rfl, rfl⟩ ⟨Nat.le_of_ble_eq_true rfl, Nat.le_of_ble_eq_true rfl⟩) ⟨10, (RX10, TX10, 13), _, rfl, rfl, rfl⟩ (c_X10_wordAt l hfl D T A ad hok Z x_K p3 p4 0 v q1) rfl hl.1 rfl (Nat.le_of_ble_eq_true rfl) dL_two_35 ⟨Nat.zero_le _, Nat.zero_le _⟩ (fun H locs hW => ?_)
          refine lv_goto (tgt := 119) hx hb dL_two_38 (by decide) ?_
          refine W.widen (k := 1) (n := 16) (Nat.zero_le _) (Nat.zero_le _) ?_
          exact g_reti hx hb hr hlk hW dL_two_119
        · refine xc_vi (k := 1) (by decide) hx hb hml hown hts hK hN hE hW (g_cw (n := 2) hts wm16_5 wm16_6 wm16_7 wm1_2 wm16_8 ⟨rfl, by decide +kernel, by decide +kernel, by decide +kernel⟩ ⟨rfl, rfl⟩ ⟨Nat.le_of_ble_eq_true rfl, Nat.le_of_ble_eq_true rfl⟩) ⟨10, (RX10, TX10, 13), _, rfl, rfl, rfl⟩ (c_X10_wordAt l hfl D T A ad hok Z x_K p3 p4 1 r2 q1) rfl hl.1 rfl (Nat.le_of_ble_eq_true rfl) dL_two_35 ⟨Nat.le_of_ble_eq_true rfl, Nat.le_of_ble_eq_true rfl⟩ (fun ce q9 H locs hW hce hcv hcl => ?_)
          refine vx_catch hown [] ⟨0, 119, 120, 80⟩ [⟨0, 119, 126, 75⟩] (htab.trans rfl) (fun z hz => absurd hz List.not_mem_nil) (by decide) (by decide) (hts _ wm8_17) (va_Nw.use rfl (hE.2.2.1 (exN 1) (by decide))) hce hcv hcl ?_
          refine lv_astore (lv' := [(4, .ref q9), (0, .ref (ad 0 0)), (1, .int p2), (2, .int p3), (3, .int p4)]) hx hb dL_two_120 hl (by decide) rfl (fun ls hl => ?_)
          refine lv_sipush (v := (-1001)) hx hb dL_two_122 (by decide) ?_
          refine W.widen (k := 1) (n := 16) (Nat.le_of_ble_eq_true rfl) (Nat.le_of_ble_eq_true rfl) ?_
          exact g_reti hx hb hr hlk hW dL_two_125
        · refine xc_vi (k := 3) (by decide) hx hb hml hown hts hK hN hE hW (g_cw (n := 2) hts wm16_5 wm16_6 wm16_7 wm1_2 wm16_8 ⟨rfl, by decide +kernel, by decide +kernel, by decide +kernel⟩ ⟨rfl, rfl⟩ ⟨Nat.le_of_ble_eq_true rfl, Nat.le_of_ble_eq_true rfl⟩) ⟨10, (RX10, TX10, 13), _, rfl, rfl, rfl⟩ (c_X10_wordAt l hfl D T A ad hok Z x_K p3 p4 3 r2 q1) rfl hl.1 rfl (Nat.le_of_ble_eq_true rfl) dL_two_35 ⟨Nat.le_of_ble_eq_true rfl, Nat.le_of_ble_eq_true rfl⟩ (fun ce q9 H locs hW hce hcv hcl => ?_)
          refine vx_catch hown [⟨0, 119, 120, 80⟩] ⟨0, 119, 126, 75⟩ [] (htab.trans rfl) (fun z hz => by
            simp only [List.mem_cons, List.not_mem_nil, or_false] at hz
            rcases hz with rfl
            · exact Or.inr ⟨by decide, _, hts _ wm8_17, hC _ (List.mem_of_getElem? (i := 2) rfl)⟩) (by decide) (by decide) (hts _ wm7_18) (va_Nw.use rfl (hE.2.2.1 (exN 3) (by decide))) hce hcv hcl ?_
          refine lv_astore (lv' := [(4, .ref q9), (0, .ref (ad 0 0)), (1, .int p2), (2, .int p3), (3, .int p4)]) hx hb dL_two_126 hl (by decide) rfl (fun ls hl => ?_)
          refine lv_sipush (v := (-1003)) hx hb dL_two_128 (by decide) ?_
          refine W.widen (k := 1) (n := 16) (Nat.le_of_ble_eq_true rfl) (Nat.le_of_ble_eq_true rfl) ?_
          exact g_reti hx hb hr hlk hW dL_two_131
    · replace h := ite_t c2 h
      refine lv_aload_n hx hb dL_two_18 rfl (lv_at hl 0 rfl) ?_
      refine lv_iload_n hx hb dL_two_19 rfl (lv_at hl 2 rfl) ?_
      refine lv_iload_n hx hb dL_two_20 rfl (lv_at hl 3 rfl) ?_
      obtain ⟨k, r2, z_K, q1, h⟩ := bnd3_s h
      obtain ⟨v, q2, h⟩ := bnd1_s h
      obtain ⟨e1, e2⟩ := ret2 h
      replace e1 := e1.symm
      replace e2 := e2.symm
      subst e1
      subst e2
      rw [hQ]
      rcases kt13 q2 with ⟨rfl, rfl⟩ | ⟨rfl, rfl⟩ | ⟨rfl, rfl⟩
      · refine x0_vi hx hb hml hown hts hK hN hE hW (g_cw (n := 2) hts wm15_14 wm15_15 wm15_16 wm1_2 wm15_17 ⟨rfl, by decide +kernel, by decide +kernel, by decide +kernel⟩ ⟨rfl, rfl⟩ ⟨Nat.le_of_ble_eq_true rfl, Nat.le_of_ble_eq_true rfl⟩) ⟨10, (RX10, TX10, 13), _, rfl, rfl, rfl⟩ (c_X10_remove l hfl D T A ad hok Z x_K p3 p4 0 v z_K q1) rfl hl.1 rfl (Nat.le_of_ble_eq_true rfl) dL_two_21 ⟨Nat.zero_le _, Nat.zero_le _⟩ (fun H locs hW => ?_)
        refine lv_goto (tgt := 119) hx hb dL_two_24 (by decide) ?_
        refine W.widen (k := 1) (n := 16) (Nat.zero_le _) (Nat.zero_le _) ?_
        exact g_reti hx hb hr hlk hW dL_two_119
      · refine xc_vi (k := 1) (by decide) hx hb hml hown hts hK hN hE hW (g_cw (n := 2) hts wm15_14 wm15_15 wm15_16 wm1_2 wm15_17 ⟨rfl, by decide +kernel, by decide +kernel, by decide +kernel⟩ ⟨rfl, rfl⟩ ⟨Nat.le_of_ble_eq_true rfl, Nat.le_of_ble_eq_true rfl⟩) ⟨10, (RX10, TX10, 13), _, rfl, rfl, rfl⟩ (c_X10_remove l hfl D T A ad hok Z x_K p3 p4 1 r2 z_K q1) rfl hl.1 rfl (Nat.le_of_ble_eq_true rfl) dL_two_21 ⟨Nat.le_of_ble_eq_true rfl, Nat.le_of_ble_eq_true rfl⟩ (fun ce q9 H locs hW hce hcv hcl => ?_)
        refine vx_catch hown [] ⟨0, 119, 120, 80⟩ [⟨0, 119, 126, 75⟩] (htab.trans rfl) (fun z hz => absurd hz List.not_mem_nil) (by decide) (by decide) (hts _ wm8_17) (va_Nw.use rfl (hE.2.2.1 (exN 1) (by decide))) hce hcv hcl ?_
        refine lv_astore (lv' := [(4, .ref q9), (0, .ref (ad 0 0)), (1, .int p2), (2, .int p3), (3, .int p4)]) hx hb dL_two_120 hl (by decide) rfl (fun ls hl => ?_)
        refine lv_sipush (v := (-1001)) hx hb dL_two_122 (by decide) ?_
        refine W.widen (k := 1) (n := 16) (Nat.le_of_ble_eq_true rfl) (Nat.le_of_ble_eq_true rfl) ?_
        exact g_reti hx hb hr hlk hW dL_two_125
      · refine xc_vi (k := 3) (by decide) hx hb hml hown hts hK hN hE hW (g_cw (n := 2) hts wm15_14 wm15_15 wm15_16 wm1_2 wm15_17 ⟨rfl, by decide +kernel, by decide +kernel, by decide +kernel⟩ ⟨rfl, rfl⟩ ⟨Nat.le_of_ble_eq_true rfl, Nat.le_of_ble_eq_true rfl⟩) ⟨10, (RX10, TX10, 13), _, rfl, rfl, rfl⟩ (c_X10_remove l hfl D T A ad hok Z x_K p3 p4 3 r2 z_K q1) rfl hl.1 rfl (Nat.le_of_ble_eq_true rfl) dL_two_21 ⟨Nat.le_of_ble_eq_true rfl, Nat.le_of_ble_eq_true rfl⟩ (fun ce q9 H locs hW hce hcv hcl => ?_)
        refine vx_catch hown [⟨0, 119, 120, 80⟩] ⟨0, 119, 126, 75⟩ [] (htab.trans rfl) (fun z hz => by
          simp only [List.mem_cons, List.not_mem_nil, or_false] at hz
          rcases hz with rfl
          · exact Or.inr ⟨by decide, _, hts _ wm8_17, hC _ (List.mem_of_getElem? (i := 2) rfl)⟩) (by decide) (by decide) (hts _ wm7_18) (va_Nw.use rfl (hE.2.2.1 (exN 3) (by decide))) hce hcv hcl ?_
        refine lv_astore (lv' := [(4, .ref q9), (0, .ref (ad 0 0)), (1, .int p2), (2, .int p3), (3, .int p4)]) hx hb dL_two_126 hl (by decide) rfl (fun ls hl => ?_)
        refine lv_sipush (v := (-1003)) hx hb dL_two_128 (by decide) ?_
        refine W.widen (k := 1) (n := 16) (Nat.le_of_ble_eq_true rfl) (Nat.le_of_ble_eq_true rfl) ?_
        exact g_reti hx hb hr hlk hW dL_two_131
  · replace h := ite_t c1 h
    refine lv_aload_n hx hb dL_two_4 rfl (lv_at hl 0 rfl) ?_
    refine lv_iload_n hx hb dL_two_5 rfl (lv_at hl 2 rfl) ?_
    refine lv_iload_n hx hb dL_two_6 rfl (lv_at hl 3 rfl) ?_
    obtain ⟨k, r2, z_K, q1, h⟩ := bnd3_s h
    obtain ⟨v, q2, h⟩ := bnd1_s h
    obtain ⟨e1, e2⟩ := ret2 h
    replace e1 := e1.symm
    replace e2 := e2.symm
    subst e1
    subst e2
    rw [hQ]
    rcases kt13 q2 with ⟨rfl, rfl⟩ | ⟨rfl, rfl⟩ | ⟨rfl, rfl⟩
    · refine x0_vi hx hb hml hown hts hK hN hE hW (g_cw (n := 2) hts wm14_22 wm14_23 wm15_0 wm1_2 wm15_1 ⟨rfl, by decide +kernel, by decide +kernel, by decide +kernel⟩ ⟨rfl, rfl⟩ ⟨Nat.le_of_ble_eq_true rfl, Nat.le_of_ble_eq_true rfl⟩) ⟨10, (RX10, TX10, 13), _, rfl, rfl, rfl⟩ (c_X10_append l hfl D T A ad hok Z x_K p3 p4 0 v z_K q1) rfl hl.1 rfl (Nat.le_of_ble_eq_true rfl) dL_two_7 ⟨Nat.zero_le _, Nat.zero_le _⟩ (fun H locs hW => ?_)
      refine lv_goto (tgt := 119) hx hb dL_two_10 (by decide) ?_
      refine W.widen (k := 1) (n := 16) (Nat.zero_le _) (Nat.zero_le _) ?_
      exact g_reti hx hb hr hlk hW dL_two_119
    · refine xc_vi (k := 1) (by decide) hx hb hml hown hts hK hN hE hW (g_cw (n := 2) hts wm14_22 wm14_23 wm15_0 wm1_2 wm15_1 ⟨rfl, by decide +kernel, by decide +kernel, by decide +kernel⟩ ⟨rfl, rfl⟩ ⟨Nat.le_of_ble_eq_true rfl, Nat.le_of_ble_eq_true rfl⟩) ⟨10, (RX10, TX10, 13), _, rfl, rfl, rfl⟩ (c_X10_append l hfl D T A ad hok Z x_K p3 p4 1 r2 z_K q1) rfl hl.1 rfl (Nat.le_of_ble_eq_true rfl) dL_two_7 ⟨Nat.le_of_ble_eq_true rfl, Nat.le_of_ble_eq_true rfl⟩ (fun ce q9 H locs hW hce hcv hcl => ?_)
      refine vx_catch hown [] ⟨0, 119, 120, 80⟩ [⟨0, 119, 126, 75⟩] (htab.trans rfl) (fun z hz => absurd hz List.not_mem_nil) (by decide) (by decide) (hts _ wm8_17) (va_Nw.use rfl (hE.2.2.1 (exN 1) (by decide))) hce hcv hcl ?_
      refine lv_astore (lv' := [(4, .ref q9), (0, .ref (ad 0 0)), (1, .int p2), (2, .int p3), (3, .int p4)]) hx hb dL_two_120 hl (by decide) rfl (fun ls hl => ?_)
      refine lv_sipush (v := (-1001)) hx hb dL_two_122 (by decide) ?_
      refine W.widen (k := 1) (n := 16) (Nat.le_of_ble_eq_true rfl) (Nat.le_of_ble_eq_true rfl) ?_
      exact g_reti hx hb hr hlk hW dL_two_125
    · refine xc_vi (k := 3) (by decide) hx hb hml hown hts hK hN hE hW (g_cw (n := 2) hts wm14_22 wm14_23 wm15_0 wm1_2 wm15_1 ⟨rfl, by decide +kernel, by decide +kernel, by decide +kernel⟩ ⟨rfl, rfl⟩ ⟨Nat.le_of_ble_eq_true rfl, Nat.le_of_ble_eq_true rfl⟩) ⟨10, (RX10, TX10, 13), _, rfl, rfl, rfl⟩ (c_X10_append l hfl D T A ad hok Z x_K p3 p4 3 r2 z_K q1) rfl hl.1 rfl (Nat.le_of_ble_eq_true rfl) dL_two_7 ⟨Nat.le_of_ble_eq_true rfl, Nat.le_of_ble_eq_true rfl⟩ (fun ce q9 H locs hW hce hcv hcl => ?_)
      refine vx_catch hown [⟨0, 119, 120, 80⟩] ⟨0, 119, 126, 75⟩ [] (htab.trans rfl) (fun z hz => by
        simp only [List.mem_cons, List.not_mem_nil, or_false] at hz
        rcases hz with rfl
        · exact Or.inr ⟨by decide, _, hts _ wm8_17, hC _ (List.mem_of_getElem? (i := 2) rfl)⟩) (by decide) (by decide) (hts _ wm7_18) (va_Nw.use rfl (hE.2.2.1 (exN 3) (by decide))) hce hcv hcl ?_
      refine lv_astore (lv' := [(4, .ref q9), (0, .ref (ad 0 0)), (1, .int p2), (2, .int p3), (3, .int p4)]) hx hb dL_two_126 hl (by decide) rfl (fun ls hl => ?_)
      refine lv_sipush (v := (-1003)) hx hb dL_two_128 (by decide) ?_
      refine W.widen (k := 1) (n := 16) (Nat.le_of_ble_eq_true rfl) (Nat.le_of_ble_eq_true rfl) ?_
      exact g_reti hx hb hr hlk hW dL_two_131
set_option maxHeartbeats 16000000 in
set_option maxRecDepth 100000 in
theorem c_L_one (l : Launch) (hfl : l.stackTraces = false) (D : va_G) (T : Nat → ClassId) (A : Nat → Prop) (ad : Nat → Nat → Nat) (hok : okad ad) (Z : va_W) (x_K : Nat → Ob) (p2 : Int32) (p3 : Int32) (r : Int32) (x_K9 : Nat → Ob) (h : f_L_one x_K p2 p3 = some (r, x_K9)) : Met l yL_one (Cond.codeWith yL_one cL_one 4 (some .int) [(0, 110, 111, 80)] :: wsL_law) (rmL 12 1) (Pl D T A (oc_X10 T (ad 0) (bb ad) (x_K 0) ++ (wkL T ad x_K L18 ++ Z)) [.ref (ad 0 0), .int p2, .int p3]) (Qgi D A (oc_X10 T (ad 0) (bb ad) (x_K9 0) ++ (wkL T ad x_K9 L18 ++ Z)) r) 1 16 A := by
  refine va_MetW (cc := cL_one) (maxL := 4) (ret := (some .int)) (hh := [(0, 110, 111, 80)]) (by decide +kernel) rfl ?_
  intro p e s m args below meth c s₁ B hml hv
  obtain ⟨ha, hP, hK, hD, hN, hE, hC, hA⟩ := hv
  have hx := B.exec
  have hb := B.bytes
  have hr := B.returns
  have hlk := B.notSynchronized
  have hts0 := atoms_spec (ws := Cond.codeWith yL_one cL_one 4 (some .int) [(0, 110, 111, 80)] :: wsL_law) B.pre
  have hts : ∀ w ∈ wsL_law, w.before args s = true := fun w hw => hts0 w (List.mem_cons_of_mem _ hw)
  have htab := vx_table (x := yL_one) B (hts0 _ List.mem_cons_self)
  have hown : s.vm.findClass RL = some m.cls := findClass_of_methodNamed B.named
  have hW : Wd D A s.heap (oc_X10 T (ad 0) (bb ad) (x_K 0) ++ (wkL T ad x_K L18 ++ Z)) s.heap [] := ⟨hP, hD, va_S.rf⟩
  have hl := lv_entry [.ref (ad 0 0), .int p2, .int p3] (n := 4) (Nat.le_of_ble_eq_true rfl)
  refine W.eq (en_eq ha) ?_
  generalize (lg_sl [.ref (ad 0 0), .int p2, .int p3] ++ List.replicate (4 - (lg_sl [.ref (ad 0 0), .int p2, .int p3]).length) Slot.unset).toArray = ls at hl ⊢
  have hl : lv_has ls 4 [(0, .ref (ad 0 0)), (1, .int p2), (2, .int p3)] := hl
  clear hP hD B ha
  obtain ⟨Q, hQ⟩ : ∃ Q, Q = MQ below (Qgi D A (oc_X10 T (ad 0) (bb ad) (x_K9 0) ++ (wkL T ad x_K9 L18 ++ Z)) r) args s 1 16 A := ⟨_, rfl⟩
  rw [← hQ]
  change W p l e (rmL 12 1) s m args below meth c s.heap [] 0 0 Q (F0 m 0 ls [])
  rw [f_L_one] at h
  refine lv_iload_n hx hb dL_one_0 rfl (lv_at hl 1 rfl) ?_
  refine lv_if_ne (tgt := 12) hx hb dL_one_1 (by decide) (fun c1 => ?_) (fun c1 => ?_)
  · replace h := ite_f c1 h
    refine lv_iload_n hx hb dL_one_12 rfl (lv_at hl 1 rfl) ?_
    refine lv_iconst (v := 1) hx hb dL_one_13 (by decide) ?_
    refine lv_icmp_ne (tgt := 25) hx hb dL_one_14 (by decide) (fun c2 => ?_) (fun c2 => ?_)
    · replace h := ite_f c2 h
      refine lv_iload_n hx hb dL_one_25 rfl (lv_at hl 1 rfl) ?_
      refine lv_iconst (v := 2) hx hb dL_one_26 (by decide) ?_
      refine lv_icmp_ne (tgt := 38) hx hb dL_one_27 (by decide) (fun c3 => ?_) (fun c3 => ?_)
      · replace h := ite_f c3 h
        refine lv_iload_n hx hb dL_one_38 rfl (lv_at hl 1 rfl) ?_
        refine lv_iconst (v := 3) hx hb dL_one_39 (by decide) ?_
        refine lv_icmp_ne (tgt := 51) hx hb dL_one_40 (by decide) (fun c4 => ?_) (fun c4 => ?_)
        · replace h := ite_f c4 h
          refine lv_iload_n hx hb dL_one_51 rfl (lv_at hl 1 rfl) ?_
          refine lv_iconst (v := 4) hx hb dL_one_52 (by decide) ?_
          refine lv_icmp_ne (tgt := 64) hx hb dL_one_53 (by decide) (fun c5 => ?_) (fun c5 => ?_)
          · replace h := ite_f c5 h
            refine lv_iload_n hx hb dL_one_64 rfl (lv_at hl 1 rfl) ?_
            refine lv_iconst (v := 5) hx hb dL_one_65 (by decide) ?_
            refine lv_icmp_ne (tgt := 77) hx hb dL_one_66 (by decide) (fun c6 => ?_) (fun c6 => ?_)
            · replace h := ite_f c6 h
              refine lv_iload_n hx hb dL_one_77 rfl (lv_at hl 1 rfl) ?_
              refine lv_bipush (v := 6) hx hb dL_one_78 (by decide) ?_
              refine lv_icmp_ne (tgt := 91) hx hb dL_one_80 (by decide) (fun c7 => ?_) (fun c7 => ?_)
              · replace h := ite_f c7 h
                refine lv_iload_n hx hb dL_one_91 rfl (lv_at hl 1 rfl) ?_
                refine lv_bipush (v := 7) hx hb dL_one_92 (by decide) ?_
                refine lv_icmp_ne (tgt := 105) hx hb dL_one_94 (by decide) (fun c8 => ?_) (fun c8 => ?_)
                · replace h := ite_f c8 h
                  refine lv_aload_n hx hb dL_one_105 rfl (lv_at hl 0 rfl) ?_
                  refine lv_iload_n hx hb dL_one_106 rfl (lv_at hl 2 rfl) ?_
                  obtain ⟨k, r2, z_K, q1, h⟩ := bnd3_s h
                  obtain ⟨v, q2, h⟩ := bnd1_s h
                  obtain ⟨e1, e2⟩ := ret2 h
                  replace e1 := e1.symm
                  replace e2 := e2.symm
                  subst e1
                  subst e2
                  rw [hQ]
                  rcases kt1 q2 with ⟨rfl, rfl⟩ | ⟨rfl, rfl⟩
                  · refine x0_vi hx hb hml hown hts hK hN hE hW (g_cw (n := 1) hts wm37_16 wm37_17 wm37_18 wm1_2 wm37_19 ⟨rfl, by decide +kernel, by decide +kernel, by decide +kernel⟩ ⟨rfl, rfl⟩ ⟨Nat.le_of_ble_eq_true rfl, Nat.le_of_ble_eq_true rfl⟩) ⟨10, (RX10, TX10, 13), _, rfl, rfl, rfl⟩ (c_X10_styleFaults l hfl D T A ad hok Z x_K p3 0 v z_K q1) rfl hl.1 rfl (Nat.le_of_ble_eq_true rfl) dL_one_107 ⟨Nat.zero_le _, Nat.zero_le _⟩ (fun H locs hW => ?_)
                    refine W.widen (k := 1) (n := 16) (Nat.zero_le _) (Nat.zero_le _) ?_
                    exact g_reti hx hb hr hlk hW dL_one_110
                  · refine xc_vi (k := 1) (by decide) hx hb hml hown hts hK hN hE hW (g_cw (n := 1) hts wm37_16 wm37_17 wm37_18 wm1_2 wm37_19 ⟨rfl, by decide +kernel, by decide +kernel, by decide +kernel⟩ ⟨rfl, rfl⟩ ⟨Nat.le_of_ble_eq_true rfl, Nat.le_of_ble_eq_true rfl⟩) ⟨10, (RX10, TX10, 13), _, rfl, rfl, rfl⟩ (c_X10_styleFaults l hfl D T A ad hok Z x_K p3 1 r2 z_K q1) rfl hl.1 rfl (Nat.le_of_ble_eq_true rfl) dL_one_107 ⟨Nat.le_of_ble_eq_true rfl, Nat.le_of_ble_eq_true rfl⟩ (fun ce q9 H locs hW hce hcv hcl => ?_)
                    refine vx_catch hown [] ⟨0, 110, 111, 80⟩ [] (htab.trans rfl) (fun z hz => absurd hz List.not_mem_nil) (by decide) (by decide) (hts _ wm8_17) (va_Nw.use rfl (hE.2.2.1 (exN 1) (by decide))) hce hcv hcl ?_
                    refine lv_astore_n (lv' := [(3, .ref q9), (0, .ref (ad 0 0)), (1, .int p2), (2, .int p3)]) hx hb dL_one_111 rfl hl (by decide) rfl (fun ls hl => ?_)
                    refine lv_sipush (v := (-1001)) hx hb dL_one_112 (by decide) ?_
                    refine W.widen (k := 1) (n := 16) (Nat.le_of_ble_eq_true rfl) (Nat.le_of_ble_eq_true rfl) ?_
                    exact g_reti hx hb hr hlk hW dL_one_115
                · replace h := ite_t c8 h
                  refine lv_aload_n hx hb dL_one_97 rfl (lv_at hl 0 rfl) ?_
                  refine lv_iload_n hx hb dL_one_98 rfl (lv_at hl 2 rfl) ?_
                  obtain ⟨k, r2, z_K, q1, h⟩ := bnd3_s h
                  obtain ⟨v, q2, h⟩ := bnd1_s h
                  obtain ⟨e1, e2⟩ := ret2 h
                  replace e1 := e1.symm
                  replace e2 := e2.symm
                  subst e1
                  subst e2
                  rw [hQ]
                  rcases kt1 q2 with ⟨rfl, rfl⟩ | ⟨rfl, rfl⟩
                  · refine x0_vi hx hb hml hown hts hK hN hE hW (g_cw (n := 1) hts wm37_12 wm37_13 wm37_14 wm1_2 wm37_15 ⟨rfl, by decide +kernel, by decide +kernel, by decide +kernel⟩ ⟨rfl, rfl⟩ ⟨Nat.le_of_ble_eq_true rfl, Nat.le_of_ble_eq_true rfl⟩) ⟨10, (RX10, TX10, 13), _, rfl, rfl, rfl⟩ (c_X10_mendAll l hfl D T A ad hok Z x_K p3 0 v z_K q1) rfl hl.1 rfl (Nat.le_of_ble_eq_true rfl) dL_one_99 ⟨Nat.zero_le _, Nat.zero_le _⟩ (fun H locs hW => ?_)
                    refine lv_goto (tgt := 110) hx hb dL_one_102 (by decide) ?_
                    refine W.widen (k := 1) (n := 16) (Nat.zero_le _) (Nat.zero_le _) ?_
                    exact g_reti hx hb hr hlk hW dL_one_110
                  · refine xc_vi (k := 1) (by decide) hx hb hml hown hts hK hN hE hW (g_cw (n := 1) hts wm37_12 wm37_13 wm37_14 wm1_2 wm37_15 ⟨rfl, by decide +kernel, by decide +kernel, by decide +kernel⟩ ⟨rfl, rfl⟩ ⟨Nat.le_of_ble_eq_true rfl, Nat.le_of_ble_eq_true rfl⟩) ⟨10, (RX10, TX10, 13), _, rfl, rfl, rfl⟩ (c_X10_mendAll l hfl D T A ad hok Z x_K p3 1 r2 z_K q1) rfl hl.1 rfl (Nat.le_of_ble_eq_true rfl) dL_one_99 ⟨Nat.le_of_ble_eq_true rfl, Nat.le_of_ble_eq_true rfl⟩ (fun ce q9 H locs hW hce hcv hcl => ?_)
                    refine vx_catch hown [] ⟨0, 110, 111, 80⟩ [] (htab.trans rfl) (fun z hz => absurd hz List.not_mem_nil) (by decide) (by decide) (hts _ wm8_17) (va_Nw.use rfl (hE.2.2.1 (exN 1) (by decide))) hce hcv hcl ?_
                    refine lv_astore_n (lv' := [(3, .ref q9), (0, .ref (ad 0 0)), (1, .int p2), (2, .int p3)]) hx hb dL_one_111 rfl hl (by decide) rfl (fun ls hl => ?_)
                    refine lv_sipush (v := (-1001)) hx hb dL_one_112 (by decide) ?_
                    refine W.widen (k := 1) (n := 16) (Nat.le_of_ble_eq_true rfl) (Nat.le_of_ble_eq_true rfl) ?_
                    exact g_reti hx hb hr hlk hW dL_one_115
              · replace h := ite_t c7 h
                refine lv_aload_n hx hb dL_one_83 rfl (lv_at hl 0 rfl) ?_
                refine lv_iload_n hx hb dL_one_84 rfl (lv_at hl 2 rfl) ?_
                obtain ⟨k, r2, z_K, q1, h⟩ := bnd3_s h
                obtain ⟨v, q2, h⟩ := bnd1_s h
                obtain ⟨e1, e2⟩ := ret2 h
                replace e1 := e1.symm
                replace e2 := e2.symm
                subst e1
                subst e2
                rw [hQ]
                rcases kt1 q2 with ⟨rfl, rfl⟩ | ⟨rfl, rfl⟩
                · refine x0_vi hx hb hml hown hts hK hN hE hW (g_cw (n := 1) hts wm36_20 wm36_21 wm36_22 wm1_2 wm36_23 ⟨rfl, by decide +kernel, by decide +kernel, by decide +kernel⟩ ⟨rfl, rfl⟩ ⟨Nat.le_of_ble_eq_true rfl, Nat.le_of_ble_eq_true rfl⟩) ⟨10, (RX10, TX10, 13), _, rfl, rfl, rfl⟩ (c_X10_best l hfl D T A ad hok Z x_K p3 0 v z_K q1) rfl hl.1 rfl (Nat.le_of_ble_eq_true rfl) dL_one_85 ⟨Nat.zero_le _, Nat.zero_le _⟩ (fun H locs hW => ?_)
                  refine lv_goto (tgt := 110) hx hb dL_one_88 (by decide) ?_
                  refine W.widen (k := 1) (n := 16) (Nat.zero_le _) (Nat.zero_le _) ?_
                  exact g_reti hx hb hr hlk hW dL_one_110
                · refine xc_vi (k := 1) (by decide) hx hb hml hown hts hK hN hE hW (g_cw (n := 1) hts wm36_20 wm36_21 wm36_22 wm1_2 wm36_23 ⟨rfl, by decide +kernel, by decide +kernel, by decide +kernel⟩ ⟨rfl, rfl⟩ ⟨Nat.le_of_ble_eq_true rfl, Nat.le_of_ble_eq_true rfl⟩) ⟨10, (RX10, TX10, 13), _, rfl, rfl, rfl⟩ (c_X10_best l hfl D T A ad hok Z x_K p3 1 r2 z_K q1) rfl hl.1 rfl (Nat.le_of_ble_eq_true rfl) dL_one_85 ⟨Nat.le_of_ble_eq_true rfl, Nat.le_of_ble_eq_true rfl⟩ (fun ce q9 H locs hW hce hcv hcl => ?_)
                  refine vx_catch hown [] ⟨0, 110, 111, 80⟩ [] (htab.trans rfl) (fun z hz => absurd hz List.not_mem_nil) (by decide) (by decide) (hts _ wm8_17) (va_Nw.use rfl (hE.2.2.1 (exN 1) (by decide))) hce hcv hcl ?_
                  refine lv_astore_n (lv' := [(3, .ref q9), (0, .ref (ad 0 0)), (1, .int p2), (2, .int p3)]) hx hb dL_one_111 rfl hl (by decide) rfl (fun ls hl => ?_)
                  refine lv_sipush (v := (-1001)) hx hb dL_one_112 (by decide) ?_
                  refine W.widen (k := 1) (n := 16) (Nat.le_of_ble_eq_true rfl) (Nat.le_of_ble_eq_true rfl) ?_
                  exact g_reti hx hb hr hlk hW dL_one_115
            · replace h := ite_t c6 h
              refine lv_aload_n hx hb dL_one_69 rfl (lv_at hl 0 rfl) ?_
              refine lv_iload_n hx hb dL_one_70 rfl (lv_at hl 2 rfl) ?_
              obtain ⟨k, r2, z_K, q1, h⟩ := bnd3_s h
              obtain ⟨v, q2, h⟩ := bnd1_s h
              obtain ⟨e1, e2⟩ := ret2 h
              replace e1 := e1.symm
              replace e2 := e2.symm
              subst e1
              subst e2
              rw [hQ]
              rcases kt1 q2 with ⟨rfl, rfl⟩ | ⟨rfl, rfl⟩
              · refine x0_vi hx hb hml hown hts hK hN hE hW (g_cw (n := 1) hts wm36_16 wm36_17 wm36_18 wm1_2 wm36_19 ⟨rfl, by decide +kernel, by decide +kernel, by decide +kernel⟩ ⟨rfl, rfl⟩ ⟨Nat.le_of_ble_eq_true rfl, Nat.le_of_ble_eq_true rfl⟩) ⟨10, (RX10, TX10, 13), _, rfl, rfl, rfl⟩ (c_X10_fragments l hfl D T A ad hok Z x_K p3 0 v z_K q1) rfl hl.1 rfl (Nat.le_of_ble_eq_true rfl) dL_one_71 ⟨Nat.zero_le _, Nat.zero_le _⟩ (fun H locs hW => ?_)
                refine lv_goto (tgt := 110) hx hb dL_one_74 (by decide) ?_
                refine W.widen (k := 1) (n := 16) (Nat.zero_le _) (Nat.zero_le _) ?_
                exact g_reti hx hb hr hlk hW dL_one_110
              · refine xc_vi (k := 1) (by decide) hx hb hml hown hts hK hN hE hW (g_cw (n := 1) hts wm36_16 wm36_17 wm36_18 wm1_2 wm36_19 ⟨rfl, by decide +kernel, by decide +kernel, by decide +kernel⟩ ⟨rfl, rfl⟩ ⟨Nat.le_of_ble_eq_true rfl, Nat.le_of_ble_eq_true rfl⟩) ⟨10, (RX10, TX10, 13), _, rfl, rfl, rfl⟩ (c_X10_fragments l hfl D T A ad hok Z x_K p3 1 r2 z_K q1) rfl hl.1 rfl (Nat.le_of_ble_eq_true rfl) dL_one_71 ⟨Nat.le_of_ble_eq_true rfl, Nat.le_of_ble_eq_true rfl⟩ (fun ce q9 H locs hW hce hcv hcl => ?_)
                refine vx_catch hown [] ⟨0, 110, 111, 80⟩ [] (htab.trans rfl) (fun z hz => absurd hz List.not_mem_nil) (by decide) (by decide) (hts _ wm8_17) (va_Nw.use rfl (hE.2.2.1 (exN 1) (by decide))) hce hcv hcl ?_
                refine lv_astore_n (lv' := [(3, .ref q9), (0, .ref (ad 0 0)), (1, .int p2), (2, .int p3)]) hx hb dL_one_111 rfl hl (by decide) rfl (fun ls hl => ?_)
                refine lv_sipush (v := (-1001)) hx hb dL_one_112 (by decide) ?_
                refine W.widen (k := 1) (n := 16) (Nat.le_of_ble_eq_true rfl) (Nat.le_of_ble_eq_true rfl) ?_
                exact g_reti hx hb hr hlk hW dL_one_115
          · replace h := ite_t c5 h
            refine lv_aload_n hx hb dL_one_56 rfl (lv_at hl 0 rfl) ?_
            refine lv_iload_n hx hb dL_one_57 rfl (lv_at hl 2 rfl) ?_
            obtain ⟨k, r2, z_K, q1, h⟩ := bnd3_s h
            obtain ⟨v, q2, h⟩ := bnd1_s h
            obtain ⟨e1, e2⟩ := ret2 h
            replace e1 := e1.symm
            replace e2 := e2.symm
            subst e1
            subst e2
            rw [hQ]
            rcases kt1 q2 with ⟨rfl, rfl⟩ | ⟨rfl, rfl⟩
            · refine x0_vi hx hb hml hown hts hK hN hE hW (g_cw (n := 1) hts wm36_8 wm36_9 wm36_10 wm1_2 wm36_11 ⟨rfl, by decide +kernel, by decide +kernel, by decide +kernel⟩ ⟨rfl, rfl⟩ ⟨Nat.le_of_ble_eq_true rfl, Nat.le_of_ble_eq_true rfl⟩) ⟨10, (RX10, TX10, 13), _, rfl, rfl, rfl⟩ (c_X10_faults l hfl D T A ad hok Z x_K p3 0 v z_K q1) rfl hl.1 rfl (Nat.le_of_ble_eq_true rfl) dL_one_58 ⟨Nat.zero_le _, Nat.zero_le _⟩ (fun H locs hW => ?_)
              refine lv_goto (tgt := 110) hx hb dL_one_61 (by decide) ?_
              refine W.widen (k := 1) (n := 16) (Nat.zero_le _) (Nat.zero_le _) ?_
              exact g_reti hx hb hr hlk hW dL_one_110
            · refine xc_vi (k := 1) (by decide) hx hb hml hown hts hK hN hE hW (g_cw (n := 1) hts wm36_8 wm36_9 wm36_10 wm1_2 wm36_11 ⟨rfl, by decide +kernel, by decide +kernel, by decide +kernel⟩ ⟨rfl, rfl⟩ ⟨Nat.le_of_ble_eq_true rfl, Nat.le_of_ble_eq_true rfl⟩) ⟨10, (RX10, TX10, 13), _, rfl, rfl, rfl⟩ (c_X10_faults l hfl D T A ad hok Z x_K p3 1 r2 z_K q1) rfl hl.1 rfl (Nat.le_of_ble_eq_true rfl) dL_one_58 ⟨Nat.le_of_ble_eq_true rfl, Nat.le_of_ble_eq_true rfl⟩ (fun ce q9 H locs hW hce hcv hcl => ?_)
              refine vx_catch hown [] ⟨0, 110, 111, 80⟩ [] (htab.trans rfl) (fun z hz => absurd hz List.not_mem_nil) (by decide) (by decide) (hts _ wm8_17) (va_Nw.use rfl (hE.2.2.1 (exN 1) (by decide))) hce hcv hcl ?_
              refine lv_astore_n (lv' := [(3, .ref q9), (0, .ref (ad 0 0)), (1, .int p2), (2, .int p3)]) hx hb dL_one_111 rfl hl (by decide) rfl (fun ls hl => ?_)
              refine lv_sipush (v := (-1001)) hx hb dL_one_112 (by decide) ?_
              refine W.widen (k := 1) (n := 16) (Nat.le_of_ble_eq_true rfl) (Nat.le_of_ble_eq_true rfl) ?_
              exact g_reti hx hb hr hlk hW dL_one_115
        · replace h := ite_t c4 h
          refine lv_aload_n hx hb dL_one_43 rfl (lv_at hl 0 rfl) ?_
          refine lv_iload_n hx hb dL_one_44 rfl (lv_at hl 2 rfl) ?_
          obtain ⟨k, r2, z_K, q1, h⟩ := bnd3_s h
          obtain ⟨v, q2, h⟩ := bnd1_s h
          obtain ⟨e1, e2⟩ := ret2 h
          replace e1 := e1.symm
          replace e2 := e2.symm
          subst e1
          subst e2
          rw [hQ]
          rcases kt1 q2 with ⟨rfl, rfl⟩ | ⟨rfl, rfl⟩
          · refine x0_vi hx hb hml hown hts hK hN hE hW (g_cw (n := 1) hts wm35_16 wm35_17 wm35_18 wm1_2 wm35_19 ⟨rfl, by decide +kernel, by decide +kernel, by decide +kernel⟩ ⟨rfl, rfl⟩ ⟨Nat.le_of_ble_eq_true rfl, Nat.le_of_ble_eq_true rfl⟩) ⟨10, (RX10, TX10, 13), _, rfl, rfl, rfl⟩ (c_X10_costAnew l hfl D T A ad hok Z x_K p3 0 v z_K q1) rfl hl.1 rfl (Nat.le_of_ble_eq_true rfl) dL_one_45 ⟨Nat.zero_le _, Nat.zero_le _⟩ (fun H locs hW => ?_)
            refine lv_goto (tgt := 110) hx hb dL_one_48 (by decide) ?_
            refine W.widen (k := 1) (n := 16) (Nat.zero_le _) (Nat.zero_le _) ?_
            exact g_reti hx hb hr hlk hW dL_one_110
          · refine xc_vi (k := 1) (by decide) hx hb hml hown hts hK hN hE hW (g_cw (n := 1) hts wm35_16 wm35_17 wm35_18 wm1_2 wm35_19 ⟨rfl, by decide +kernel, by decide +kernel, by decide +kernel⟩ ⟨rfl, rfl⟩ ⟨Nat.le_of_ble_eq_true rfl, Nat.le_of_ble_eq_true rfl⟩) ⟨10, (RX10, TX10, 13), _, rfl, rfl, rfl⟩ (c_X10_costAnew l hfl D T A ad hok Z x_K p3 1 r2 z_K q1) rfl hl.1 rfl (Nat.le_of_ble_eq_true rfl) dL_one_45 ⟨Nat.le_of_ble_eq_true rfl, Nat.le_of_ble_eq_true rfl⟩ (fun ce q9 H locs hW hce hcv hcl => ?_)
            refine vx_catch hown [] ⟨0, 110, 111, 80⟩ [] (htab.trans rfl) (fun z hz => absurd hz List.not_mem_nil) (by decide) (by decide) (hts _ wm8_17) (va_Nw.use rfl (hE.2.2.1 (exN 1) (by decide))) hce hcv hcl ?_
            refine lv_astore_n (lv' := [(3, .ref q9), (0, .ref (ad 0 0)), (1, .int p2), (2, .int p3)]) hx hb dL_one_111 rfl hl (by decide) rfl (fun ls hl => ?_)
            refine lv_sipush (v := (-1001)) hx hb dL_one_112 (by decide) ?_
            refine W.widen (k := 1) (n := 16) (Nat.le_of_ble_eq_true rfl) (Nat.le_of_ble_eq_true rfl) ?_
            exact g_reti hx hb hr hlk hW dL_one_115
      · replace h := ite_t c3 h
        refine lv_aload_n hx hb dL_one_30 rfl (lv_at hl 0 rfl) ?_
        refine lv_iload_n hx hb dL_one_31 rfl (lv_at hl 2 rfl) ?_
        obtain ⟨k, r2, z_K, q1, h⟩ := bnd3_s h
        obtain ⟨v, q2, h⟩ := bnd1_s h
        obtain ⟨e1, e2⟩ := ret2 h
        replace e1 := e1.symm
        replace e2 := e2.symm
        subst e1
        subst e2
        rw [hQ]
        rcases kt1 q2 with ⟨rfl, rfl⟩ | ⟨rfl, rfl⟩
        · refine x0_vi hx hb hml hown hts hK hN hE hW (g_cw (n := 1) hts wm35_12 wm35_13 wm35_14 wm1_2 wm35_15 ⟨rfl, by decide +kernel, by decide +kernel, by decide +kernel⟩ ⟨rfl, rfl⟩ ⟨Nat.le_of_ble_eq_true rfl, Nat.le_of_ble_eq_true rfl⟩) ⟨10, (RX10, TX10, 13), _, rfl, rfl, rfl⟩ (c_X10_cost l hfl D T A ad hok Z x_K p3 0 v z_K q1) rfl hl.1 rfl (Nat.le_of_ble_eq_true rfl) dL_one_32 ⟨Nat.zero_le _, Nat.zero_le _⟩ (fun H locs hW => ?_)
          refine lv_goto (tgt := 110) hx hb dL_one_35 (by decide) ?_
          refine W.widen (k := 1) (n := 16) (Nat.zero_le _) (Nat.zero_le _) ?_
          exact g_reti hx hb hr hlk hW dL_one_110
        · refine xc_vi (k := 1) (by decide) hx hb hml hown hts hK hN hE hW (g_cw (n := 1) hts wm35_12 wm35_13 wm35_14 wm1_2 wm35_15 ⟨rfl, by decide +kernel, by decide +kernel, by decide +kernel⟩ ⟨rfl, rfl⟩ ⟨Nat.le_of_ble_eq_true rfl, Nat.le_of_ble_eq_true rfl⟩) ⟨10, (RX10, TX10, 13), _, rfl, rfl, rfl⟩ (c_X10_cost l hfl D T A ad hok Z x_K p3 1 r2 z_K q1) rfl hl.1 rfl (Nat.le_of_ble_eq_true rfl) dL_one_32 ⟨Nat.le_of_ble_eq_true rfl, Nat.le_of_ble_eq_true rfl⟩ (fun ce q9 H locs hW hce hcv hcl => ?_)
          refine vx_catch hown [] ⟨0, 110, 111, 80⟩ [] (htab.trans rfl) (fun z hz => absurd hz List.not_mem_nil) (by decide) (by decide) (hts _ wm8_17) (va_Nw.use rfl (hE.2.2.1 (exN 1) (by decide))) hce hcv hcl ?_
          refine lv_astore_n (lv' := [(3, .ref q9), (0, .ref (ad 0 0)), (1, .int p2), (2, .int p3)]) hx hb dL_one_111 rfl hl (by decide) rfl (fun ls hl => ?_)
          refine lv_sipush (v := (-1001)) hx hb dL_one_112 (by decide) ?_
          refine W.widen (k := 1) (n := 16) (Nat.le_of_ble_eq_true rfl) (Nat.le_of_ble_eq_true rfl) ?_
          exact g_reti hx hb hr hlk hW dL_one_115
    · replace h := ite_t c2 h
      refine lv_aload_n hx hb dL_one_17 rfl (lv_at hl 0 rfl) ?_
      refine lv_iload_n hx hb dL_one_18 rfl (lv_at hl 2 rfl) ?_
      obtain ⟨k, r2, q1, h⟩ := bnd2_s h
      obtain ⟨v, q2, h⟩ := bnd1_s h
      obtain ⟨e1, e2⟩ := ret2 h
      replace e1 := e1.symm
      replace e2 := e2.symm
      subst e1
      subst e2
      rw [hQ]
      rcases kt1 q2 with ⟨rfl, rfl⟩ | ⟨rfl, rfl⟩
      · refine x0_vi hx hb hml hown hts hK hN hE hW (g_cw (n := 1) hts wm35_8 wm35_9 wm35_10 wm1_2 wm35_11 ⟨rfl, by decide +kernel, by decide +kernel, by decide +kernel⟩ ⟨rfl, rfl⟩ ⟨Nat.le_of_ble_eq_true rfl, Nat.le_of_ble_eq_true rfl⟩) ⟨10, (RX10, TX10, 13), _, rfl, rfl, rfl⟩ (c_X10_length l hfl D T A ad hok Z x_K p3 0 v q1) rfl hl.1 rfl (Nat.le_of_ble_eq_true rfl) dL_one_19 ⟨Nat.zero_le _, Nat.zero_le _⟩ (fun H locs hW => ?_)
        refine lv_goto (tgt := 110) hx hb dL_one_22 (by decide) ?_
        refine W.widen (k := 1) (n := 16) (Nat.zero_le _) (Nat.zero_le _) ?_
        exact g_reti hx hb hr hlk hW dL_one_110
      · refine xc_vi (k := 1) (by decide) hx hb hml hown hts hK hN hE hW (g_cw (n := 1) hts wm35_8 wm35_9 wm35_10 wm1_2 wm35_11 ⟨rfl, by decide +kernel, by decide +kernel, by decide +kernel⟩ ⟨rfl, rfl⟩ ⟨Nat.le_of_ble_eq_true rfl, Nat.le_of_ble_eq_true rfl⟩) ⟨10, (RX10, TX10, 13), _, rfl, rfl, rfl⟩ (c_X10_length l hfl D T A ad hok Z x_K p3 1 r2 q1) rfl hl.1 rfl (Nat.le_of_ble_eq_true rfl) dL_one_19 ⟨Nat.le_of_ble_eq_true rfl, Nat.le_of_ble_eq_true rfl⟩ (fun ce q9 H locs hW hce hcv hcl => ?_)
        refine vx_catch hown [] ⟨0, 110, 111, 80⟩ [] (htab.trans rfl) (fun z hz => absurd hz List.not_mem_nil) (by decide) (by decide) (hts _ wm8_17) (va_Nw.use rfl (hE.2.2.1 (exN 1) (by decide))) hce hcv hcl ?_
        refine lv_astore_n (lv' := [(3, .ref q9), (0, .ref (ad 0 0)), (1, .int p2), (2, .int p3)]) hx hb dL_one_111 rfl hl (by decide) rfl (fun ls hl => ?_)
        refine lv_sipush (v := (-1001)) hx hb dL_one_112 (by decide) ?_
        refine W.widen (k := 1) (n := 16) (Nat.le_of_ble_eq_true rfl) (Nat.le_of_ble_eq_true rfl) ?_
        exact g_reti hx hb hr hlk hW dL_one_115
  · replace h := ite_t c1 h
    refine lv_aload_n hx hb dL_one_4 rfl (lv_at hl 0 rfl) ?_
    refine lv_iload_n hx hb dL_one_5 rfl (lv_at hl 2 rfl) ?_
    obtain ⟨k, r2, q1, h⟩ := bnd2_s h
    obtain ⟨v, q2, h⟩ := bnd1_s h
    obtain ⟨e1, e2⟩ := ret2 h
    replace e1 := e1.symm
    replace e2 := e2.symm
    subst e1
    subst e2
    rw [hQ]
    rcases kt1 q2 with ⟨rfl, rfl⟩ | ⟨rfl, rfl⟩
    · refine x0_vi hx hb hml hown hts hK hN hE hW (g_cw (n := 1) hts wm35_2 wm35_3 wm35_4 wm1_2 wm35_5 ⟨rfl, by decide +kernel, by decide +kernel, by decide +kernel⟩ ⟨rfl, rfl⟩ ⟨Nat.le_of_ble_eq_true rfl, Nat.le_of_ble_eq_true rfl⟩) ⟨10, (RX10, TX10, 13), _, rfl, rfl, rfl⟩ (c_X10_readings l hfl D T A ad hok Z x_K p3 0 v q1) rfl hl.1 rfl (Nat.le_of_ble_eq_true rfl) dL_one_6 ⟨Nat.zero_le _, Nat.zero_le _⟩ (fun H locs hW => ?_)
      refine lv_goto (tgt := 110) hx hb dL_one_9 (by decide) ?_
      refine W.widen (k := 1) (n := 16) (Nat.zero_le _) (Nat.zero_le _) ?_
      exact g_reti hx hb hr hlk hW dL_one_110
    · refine xc_vi (k := 1) (by decide) hx hb hml hown hts hK hN hE hW (g_cw (n := 1) hts wm35_2 wm35_3 wm35_4 wm1_2 wm35_5 ⟨rfl, by decide +kernel, by decide +kernel, by decide +kernel⟩ ⟨rfl, rfl⟩ ⟨Nat.le_of_ble_eq_true rfl, Nat.le_of_ble_eq_true rfl⟩) ⟨10, (RX10, TX10, 13), _, rfl, rfl, rfl⟩ (c_X10_readings l hfl D T A ad hok Z x_K p3 1 r2 q1) rfl hl.1 rfl (Nat.le_of_ble_eq_true rfl) dL_one_6 ⟨Nat.le_of_ble_eq_true rfl, Nat.le_of_ble_eq_true rfl⟩ (fun ce q9 H locs hW hce hcv hcl => ?_)
      refine vx_catch hown [] ⟨0, 110, 111, 80⟩ [] (htab.trans rfl) (fun z hz => absurd hz List.not_mem_nil) (by decide) (by decide) (hts _ wm8_17) (va_Nw.use rfl (hE.2.2.1 (exN 1) (by decide))) hce hcv hcl ?_
      refine lv_astore_n (lv' := [(3, .ref q9), (0, .ref (ad 0 0)), (1, .int p2), (2, .int p3)]) hx hb dL_one_111 rfl hl (by decide) rfl (fun ls hl => ?_)
      refine lv_sipush (v := (-1001)) hx hb dL_one_112 (by decide) ?_
      refine W.widen (k := 1) (n := 16) (Nat.le_of_ble_eq_true rfl) (Nat.le_of_ble_eq_true rfl) ?_
      exact g_reti hx hb hr hlk hW dL_one_115
set_option maxHeartbeats 16000000 in
set_option maxRecDepth 100000 in
theorem c_L_more (l : Launch) (hfl : l.stackTraces = false) (D : va_G) (T : Nat → ClassId) (A : Nat → Prop) (ad : Nat → Nat → Nat) (hok : okad ad) (Z : va_W) (x_K : Nat → Ob) (p2 : Int32) (p3 : Int32) (p4 : Int32) (p5 : Int32) (p6 : Int32) (r : Int32) (x_K9 : Nat → Ob) (h : f_L_more x_K p2 p3 p4 p5 p6 = some (r, x_K9)) : Met l yL_more (Cond.codeWith yL_more cL_more 7 (some .int) [(0, 59, 60, 80)] :: wsL_law) (rmL 11 1) (Pl D T A (oc_X10 T (ad 0) (bb ad) (x_K 0) ++ (wkL T ad x_K L18 ++ Z)) [.ref (ad 0 0), .int p2, .int p3, .int p4, .int p5, .int p6]) (Qgi D A (oc_X10 T (ad 0) (bb ad) (x_K9 0) ++ (wkL T ad x_K9 L18 ++ Z)) r) 1 16 A := by
  refine va_MetW (cc := cL_more) (maxL := 7) (ret := (some .int)) (hh := [(0, 59, 60, 80)]) (by decide +kernel) rfl ?_
  intro p e s m args below meth c s₁ B hml hv
  obtain ⟨ha, hP, hK, hD, hN, hE, hC, hA⟩ := hv
  have hx := B.exec
  have hb := B.bytes
  have hr := B.returns
  have hlk := B.notSynchronized
  have hts0 := atoms_spec (ws := Cond.codeWith yL_more cL_more 7 (some .int) [(0, 59, 60, 80)] :: wsL_law) B.pre
  have hts : ∀ w ∈ wsL_law, w.before args s = true := fun w hw => hts0 w (List.mem_cons_of_mem _ hw)
  have htab := vx_table (x := yL_more) B (hts0 _ List.mem_cons_self)
  have hown : s.vm.findClass RL = some m.cls := findClass_of_methodNamed B.named
  have hW : Wd D A s.heap (oc_X10 T (ad 0) (bb ad) (x_K 0) ++ (wkL T ad x_K L18 ++ Z)) s.heap [] := ⟨hP, hD, va_S.rf⟩
  have hl := lv_entry [.ref (ad 0 0), .int p2, .int p3, .int p4, .int p5, .int p6] (n := 7) (Nat.le_of_ble_eq_true rfl)
  refine W.eq (en_eq ha) ?_
  generalize (lg_sl [.ref (ad 0 0), .int p2, .int p3, .int p4, .int p5, .int p6] ++ List.replicate (7 - (lg_sl [.ref (ad 0 0), .int p2, .int p3, .int p4, .int p5, .int p6]).length) Slot.unset).toArray = ls at hl ⊢
  have hl : lv_has ls 7 [(0, .ref (ad 0 0)), (1, .int p2), (2, .int p3), (3, .int p4), (4, .int p5), (5, .int p6)] := hl
  clear hP hD B ha
  obtain ⟨Q, hQ⟩ : ∃ Q, Q = MQ below (Qgi D A (oc_X10 T (ad 0) (bb ad) (x_K9 0) ++ (wkL T ad x_K9 L18 ++ Z)) r) args s 1 16 A := ⟨_, rfl⟩
  rw [← hQ]
  change W p l e (rmL 11 1) s m args below meth c s.heap [] 0 0 Q (F0 m 0 ls [])
  rw [f_L_more] at h
  refine lv_iload_n hx hb dL_more_0 rfl (lv_at hl 1 rfl) ?_
  refine lv_if_ne (tgt := 15) hx hb dL_more_1 (by decide) (fun c1 => ?_) (fun c1 => ?_)
  · replace h := ite_f c1 h
    refine lv_iload_n hx hb dL_more_15 rfl (lv_at hl 1 rfl) ?_
    refine lv_iconst (v := 1) hx hb dL_more_16 (by decide) ?_
    refine lv_icmp_ne (tgt := 31) hx hb dL_more_17 (by decide) (fun c2 => ?_) (fun c2 => ?_)
    · replace h := ite_f c2 h
      refine lv_iload_n hx hb dL_more_31 rfl (lv_at hl 1 rfl) ?_
      refine lv_iconst (v := 2) hx hb dL_more_32 (by decide) ?_
      refine lv_icmp_ne (tgt := 49) hx hb dL_more_33 (by decide) (fun c3 => ?_) (fun c3 => ?_)
      · replace h := ite_f c3 h
        refine lv_aload_n hx hb dL_more_49 rfl (lv_at hl 0 rfl) ?_
        refine lv_iload_n hx hb dL_more_50 rfl (lv_at hl 2 rfl) ?_
        refine lv_iload_n hx hb dL_more_51 rfl (lv_at hl 3 rfl) ?_
        refine lv_iload hx hb dL_more_52 (lv_at hl 4 rfl) ?_
        refine lv_iload hx hb dL_more_54 (lv_at hl 5 rfl) ?_
        obtain ⟨k, r2, z_K, q1, h⟩ := bnd3_s h
        obtain ⟨v, q2, h⟩ := bnd1_s h
        obtain ⟨e1, e2⟩ := ret2 h
        replace e1 := e1.symm
        replace e2 := e2.symm
        subst e1
        subst e2
        rw [hQ]
        rcases kt1 q2 with ⟨rfl, rfl⟩ | ⟨rfl, rfl⟩
        · refine x0_vi hx hb hml hown hts hK hN hE hW (g_cw (n := 4) hts wm32_15 wm32_16 wm32_17 wm1_2 wm32_18 ⟨rfl, by decide +kernel, by decide +kernel, by decide +kernel⟩ ⟨rfl, rfl⟩ ⟨Nat.le_of_ble_eq_true rfl, Nat.le_of_ble_eq_true rfl⟩) ⟨10, (RX10, TX10, 13), _, rfl, rfl, rfl⟩ (c_X10_edgeCost l hfl D T A ad hok Z x_K p3 p4 p5 p6 0 v z_K q1) rfl hl.1 rfl (Nat.le_of_ble_eq_true rfl) dL_more_56 ⟨Nat.zero_le _, Nat.zero_le _⟩ (fun H locs hW => ?_)
          refine W.widen (k := 1) (n := 16) (Nat.zero_le _) (Nat.zero_le _) ?_
          exact g_reti hx hb hr hlk hW dL_more_59
        · refine xc_vi (k := 1) (by decide) hx hb hml hown hts hK hN hE hW (g_cw (n := 4) hts wm32_15 wm32_16 wm32_17 wm1_2 wm32_18 ⟨rfl, by decide +kernel, by decide +kernel, by decide +kernel⟩ ⟨rfl, rfl⟩ ⟨Nat.le_of_ble_eq_true rfl, Nat.le_of_ble_eq_true rfl⟩) ⟨10, (RX10, TX10, 13), _, rfl, rfl, rfl⟩ (c_X10_edgeCost l hfl D T A ad hok Z x_K p3 p4 p5 p6 1 r2 z_K q1) rfl hl.1 rfl (Nat.le_of_ble_eq_true rfl) dL_more_56 ⟨Nat.le_of_ble_eq_true rfl, Nat.le_of_ble_eq_true rfl⟩ (fun ce q9 H locs hW hce hcv hcl => ?_)
          refine vx_catch hown [] ⟨0, 59, 60, 80⟩ [] (htab.trans rfl) (fun z hz => absurd hz List.not_mem_nil) (by decide) (by decide) (hts _ wm8_17) (va_Nw.use rfl (hE.2.2.1 (exN 1) (by decide))) hce hcv hcl ?_
          refine lv_astore (lv' := [(6, .ref q9), (0, .ref (ad 0 0)), (1, .int p2), (2, .int p3), (3, .int p4), (4, .int p5), (5, .int p6)]) hx hb dL_more_60 hl (by decide) rfl (fun ls hl => ?_)
          refine lv_sipush (v := (-1001)) hx hb dL_more_62 (by decide) ?_
          refine W.widen (k := 1) (n := 16) (Nat.le_of_ble_eq_true rfl) (Nat.le_of_ble_eq_true rfl) ?_
          exact g_reti hx hb hr hlk hW dL_more_65
      · replace h := ite_t c3 h
        refine lv_aload_n hx hb dL_more_36 rfl (lv_at hl 0 rfl) ?_
        refine lv_iload_n hx hb dL_more_37 rfl (lv_at hl 2 rfl) ?_
        refine lv_iload_n hx hb dL_more_38 rfl (lv_at hl 3 rfl) ?_
        refine lv_iload hx hb dL_more_39 (lv_at hl 4 rfl) ?_
        refine lv_iload hx hb dL_more_41 (lv_at hl 5 rfl) ?_
        obtain ⟨k, r2, z_K, q1, h⟩ := bnd3_s h
        obtain ⟨v, q2, h⟩ := bnd1_s h
        obtain ⟨e1, e2⟩ := ret2 h
        replace e1 := e1.symm
        replace e2 := e2.symm
        subst e1
        subst e2
        rw [hQ]
        rcases kt1 q2 with ⟨rfl, rfl⟩ | ⟨rfl, rfl⟩
        · refine x0_vi hx hb hml hown hts hK hN hE hW (g_cw (n := 4) hts wm32_3 wm32_4 wm32_5 wm1_2 wm32_6 ⟨rfl, by decide +kernel, by decide +kernel, by decide +kernel⟩ ⟨rfl, rfl⟩ ⟨Nat.le_of_ble_eq_true rfl, Nat.le_of_ble_eq_true rfl⟩) ⟨10, (RX10, TX10, 13), _, rfl, rfl, rfl⟩ (c_X10_edge l hfl D T A ad hok Z x_K p3 p4 p5 p6 0 v z_K q1) rfl hl.1 rfl (Nat.le_of_ble_eq_true rfl) dL_more_43 ⟨Nat.zero_le _, Nat.zero_le _⟩ (fun H locs hW => ?_)
          refine lv_goto (tgt := 59) hx hb dL_more_46 (by decide) ?_
          refine W.widen (k := 1) (n := 16) (Nat.zero_le _) (Nat.zero_le _) ?_
          exact g_reti hx hb hr hlk hW dL_more_59
        · refine xc_vi (k := 1) (by decide) hx hb hml hown hts hK hN hE hW (g_cw (n := 4) hts wm32_3 wm32_4 wm32_5 wm1_2 wm32_6 ⟨rfl, by decide +kernel, by decide +kernel, by decide +kernel⟩ ⟨rfl, rfl⟩ ⟨Nat.le_of_ble_eq_true rfl, Nat.le_of_ble_eq_true rfl⟩) ⟨10, (RX10, TX10, 13), _, rfl, rfl, rfl⟩ (c_X10_edge l hfl D T A ad hok Z x_K p3 p4 p5 p6 1 r2 z_K q1) rfl hl.1 rfl (Nat.le_of_ble_eq_true rfl) dL_more_43 ⟨Nat.le_of_ble_eq_true rfl, Nat.le_of_ble_eq_true rfl⟩ (fun ce q9 H locs hW hce hcv hcl => ?_)
          refine vx_catch hown [] ⟨0, 59, 60, 80⟩ [] (htab.trans rfl) (fun z hz => absurd hz List.not_mem_nil) (by decide) (by decide) (hts _ wm8_17) (va_Nw.use rfl (hE.2.2.1 (exN 1) (by decide))) hce hcv hcl ?_
          refine lv_astore (lv' := [(6, .ref q9), (0, .ref (ad 0 0)), (1, .int p2), (2, .int p3), (3, .int p4), (4, .int p5), (5, .int p6)]) hx hb dL_more_60 hl (by decide) rfl (fun ls hl => ?_)
          refine lv_sipush (v := (-1001)) hx hb dL_more_62 (by decide) ?_
          refine W.widen (k := 1) (n := 16) (Nat.le_of_ble_eq_true rfl) (Nat.le_of_ble_eq_true rfl) ?_
          exact g_reti hx hb hr hlk hW dL_more_65
    · replace h := ite_t c2 h
      refine lv_aload_n hx hb dL_more_20 rfl (lv_at hl 0 rfl) ?_
      refine lv_iload_n hx hb dL_more_21 rfl (lv_at hl 2 rfl) ?_
      refine lv_iload_n hx hb dL_more_22 rfl (lv_at hl 3 rfl) ?_
      refine lv_iload hx hb dL_more_23 (lv_at hl 4 rfl) ?_
      obtain ⟨k, r2, z_K, q1, h⟩ := bnd3_s h
      obtain ⟨v, q2, h⟩ := bnd1_s h
      obtain ⟨e1, e2⟩ := ret2 h
      replace e1 := e1.symm
      replace e2 := e2.symm
      subst e1
      subst e2
      rw [hQ]
      rcases kt1 q2 with ⟨rfl, rfl⟩ | ⟨rfl, rfl⟩
      · refine x0_vi hx hb hml hown hts hK hN hE hW (g_cw (n := 3) hts wm31_18 wm31_19 wm31_20 wm1_2 wm31_21 ⟨rfl, by decide +kernel, by decide +kernel, by decide +kernel⟩ ⟨rfl, rfl⟩ ⟨Nat.le_of_ble_eq_true rfl, Nat.le_of_ble_eq_true rfl⟩) ⟨10, (RX10, TX10, 13), _, rfl, rfl, rfl⟩ (c_X10_edges l hfl D T A ad hok Z x_K p3 p4 p5 0 v z_K q1) rfl hl.1 rfl (Nat.le_of_ble_eq_true rfl) dL_more_25 ⟨Nat.zero_le _, Nat.zero_le _⟩ (fun H locs hW => ?_)
        refine lv_goto (tgt := 59) hx hb dL_more_28 (by decide) ?_
        refine W.widen (k := 1) (n := 16) (Nat.zero_le _) (Nat.zero_le _) ?_
        exact g_reti hx hb hr hlk hW dL_more_59
      · refine xc_vi (k := 1) (by decide) hx hb hml hown hts hK hN hE hW (g_cw (n := 3) hts wm31_18 wm31_19 wm31_20 wm1_2 wm31_21 ⟨rfl, by decide +kernel, by decide +kernel, by decide +kernel⟩ ⟨rfl, rfl⟩ ⟨Nat.le_of_ble_eq_true rfl, Nat.le_of_ble_eq_true rfl⟩) ⟨10, (RX10, TX10, 13), _, rfl, rfl, rfl⟩ (c_X10_edges l hfl D T A ad hok Z x_K p3 p4 p5 1 r2 z_K q1) rfl hl.1 rfl (Nat.le_of_ble_eq_true rfl) dL_more_25 ⟨Nat.le_of_ble_eq_true rfl, Nat.le_of_ble_eq_true rfl⟩ (fun ce q9 H locs hW hce hcv hcl => ?_)
        refine vx_catch hown [] ⟨0, 59, 60, 80⟩ [] (htab.trans rfl) (fun z hz => absurd hz List.not_mem_nil) (by decide) (by decide) (hts _ wm8_17) (va_Nw.use rfl (hE.2.2.1 (exN 1) (by decide))) hce hcv hcl ?_
        refine lv_astore (lv' := [(6, .ref q9), (0, .ref (ad 0 0)), (1, .int p2), (2, .int p3), (3, .int p4), (4, .int p5), (5, .int p6)]) hx hb dL_more_60 hl (by decide) rfl (fun ls hl => ?_)
        refine lv_sipush (v := (-1001)) hx hb dL_more_62 (by decide) ?_
        refine W.widen (k := 1) (n := 16) (Nat.le_of_ble_eq_true rfl) (Nat.le_of_ble_eq_true rfl) ?_
        exact g_reti hx hb hr hlk hW dL_more_65
  · replace h := ite_t c1 h
    refine lv_aload_n hx hb dL_more_4 rfl (lv_at hl 0 rfl) ?_
    refine lv_iload_n hx hb dL_more_5 rfl (lv_at hl 2 rfl) ?_
    refine lv_iload_n hx hb dL_more_6 rfl (lv_at hl 3 rfl) ?_
    refine lv_iload hx hb dL_more_7 (lv_at hl 4 rfl) ?_
    obtain ⟨k, r2, z_K, q1, h⟩ := bnd3_s h
    obtain ⟨v, q2, h⟩ := bnd1_s h
    obtain ⟨e1, e2⟩ := ret2 h
    replace e1 := e1.symm
    replace e2 := e2.symm
    subst e1
    subst e2
    rw [hQ]
    rcases kt1 q2 with ⟨rfl, rfl⟩ | ⟨rfl, rfl⟩
    · refine x0_vi hx hb hml hown hts hK hN hE hW (g_cw (n := 3) hts wm31_14 wm31_15 wm31_16 wm1_2 wm31_17 ⟨rfl, by decide +kernel, by decide +kernel, by decide +kernel⟩ ⟨rfl, rfl⟩ ⟨Nat.le_of_ble_eq_true rfl, Nat.le_of_ble_eq_true rfl⟩) ⟨10, (RX10, TX10, 13), _, rfl, rfl, rfl⟩ (c_X10_change l hfl D T A ad hok Z x_K p3 p4 p5 0 v z_K q1) rfl hl.1 rfl (Nat.le_of_ble_eq_true rfl) dL_more_9 ⟨Nat.zero_le _, Nat.zero_le _⟩ (fun H locs hW => ?_)
      refine lv_goto (tgt := 59) hx hb dL_more_12 (by decide) ?_
      refine W.widen (k := 1) (n := 16) (Nat.zero_le _) (Nat.zero_le _) ?_
      exact g_reti hx hb hr hlk hW dL_more_59
    · refine xc_vi (k := 1) (by decide) hx hb hml hown hts hK hN hE hW (g_cw (n := 3) hts wm31_14 wm31_15 wm31_16 wm1_2 wm31_17 ⟨rfl, by decide +kernel, by decide +kernel, by decide +kernel⟩ ⟨rfl, rfl⟩ ⟨Nat.le_of_ble_eq_true rfl, Nat.le_of_ble_eq_true rfl⟩) ⟨10, (RX10, TX10, 13), _, rfl, rfl, rfl⟩ (c_X10_change l hfl D T A ad hok Z x_K p3 p4 p5 1 r2 z_K q1) rfl hl.1 rfl (Nat.le_of_ble_eq_true rfl) dL_more_9 ⟨Nat.le_of_ble_eq_true rfl, Nat.le_of_ble_eq_true rfl⟩ (fun ce q9 H locs hW hce hcv hcl => ?_)
      refine vx_catch hown [] ⟨0, 59, 60, 80⟩ [] (htab.trans rfl) (fun z hz => absurd hz List.not_mem_nil) (by decide) (by decide) (hts _ wm8_17) (va_Nw.use rfl (hE.2.2.1 (exN 1) (by decide))) hce hcv hcl ?_
      refine lv_astore (lv' := [(6, .ref q9), (0, .ref (ad 0 0)), (1, .int p2), (2, .int p3), (3, .int p4), (4, .int p5), (5, .int p6)]) hx hb dL_more_60 hl (by decide) rfl (fun ls hl => ?_)
      refine lv_sipush (v := (-1001)) hx hb dL_more_62 (by decide) ?_
      refine W.widen (k := 1) (n := 16) (Nat.le_of_ble_eq_true rfl) (Nat.le_of_ble_eq_true rfl) ?_
      exact g_reti hx hb hr hlk hW dL_more_65
set_option maxHeartbeats 16000000 in
set_option maxRecDepth 100000 in
theorem c_L_offs (l : Launch) (hfl : l.stackTraces = false) (D : va_G) (T : Nat → ClassId) (A : Nat → Prop) (ad : Nat → Nat → Nat) (hok : okad ad) (Z : va_W) (x_K : Nat → Ob) (p2 : Int32) (p3 : Int32) (r : Int32) (x_K9 : Nat → Ob) (h : f_L_offs x_K p2 p3 = some (r, x_K9)) : Met l yL_offs (Cond.codeWith yL_offs cL_offs 4 (some .int) [(0, 14, 15, 80)] :: wsL_law) (rmL 8 1) (Pl D T A (oc_X10 T (ad 0) (bb ad) (x_K 0) ++ (wkL T ad x_K L18 ++ Z)) [.ref (ad 0 0), .int p2, .int p3]) (Qgi D A (oc_X10 T (ad 0) (bb ad) (x_K9 0) ++ (wkL T ad x_K9 L18 ++ Z)) r) 1 16 A := by
  refine va_MetW (cc := cL_offs) (maxL := 4) (ret := (some .int)) (hh := [(0, 14, 15, 80)]) (by decide +kernel) rfl ?_
  intro p e s m args below meth c s₁ B hml hv
  obtain ⟨ha, hP, hK, hD, hN, hE, hC, hA⟩ := hv
  have hx := B.exec
  have hb := B.bytes
  have hr := B.returns
  have hlk := B.notSynchronized
  have hts0 := atoms_spec (ws := Cond.codeWith yL_offs cL_offs 4 (some .int) [(0, 14, 15, 80)] :: wsL_law) B.pre
  have hts : ∀ w ∈ wsL_law, w.before args s = true := fun w hw => hts0 w (List.mem_cons_of_mem _ hw)
  have htab := vx_table (x := yL_offs) B (hts0 _ List.mem_cons_self)
  have hown : s.vm.findClass RL = some m.cls := findClass_of_methodNamed B.named
  have hW : Wd D A s.heap (oc_X10 T (ad 0) (bb ad) (x_K 0) ++ (wkL T ad x_K L18 ++ Z)) s.heap [] := ⟨hP, hD, va_S.rf⟩
  have hl := lv_entry [.ref (ad 0 0), .int p2, .int p3] (n := 4) (Nat.le_of_ble_eq_true rfl)
  refine W.eq (en_eq ha) ?_
  generalize (lg_sl [.ref (ad 0 0), .int p2, .int p3] ++ List.replicate (4 - (lg_sl [.ref (ad 0 0), .int p2, .int p3]).length) Slot.unset).toArray = ls at hl ⊢
  have hl : lv_has ls 4 [(0, .ref (ad 0 0)), (1, .int p2), (2, .int p3)] := hl
  clear hP hD B ha
  obtain ⟨Q, hQ⟩ : ∃ Q, Q = MQ below (Qgi D A (oc_X10 T (ad 0) (bb ad) (x_K9 0) ++ (wkL T ad x_K9 L18 ++ Z)) r) args s 1 16 A := ⟨_, rfl⟩
  rw [← hQ]
  change W p l e (rmL 8 1) s m args below meth c s.heap [] 0 0 Q (F0 m 0 ls [])
  rw [f_L_offs] at h
  refine lv_aload_n hx hb dL_offs_0 rfl (lv_at hl 0 rfl) ?_
  refine lv_iload_n hx hb dL_offs_1 rfl (lv_at hl 1 rfl) ?_
  refine lv_iload_n hx hb dL_offs_2 rfl (lv_at hl 2 rfl) ?_
  obtain ⟨k, r2, z_K, q1, h⟩ := bnd3_s h
  obtain ⟨v, q2, h⟩ := bnd1_s h
  obtain ⟨e1, e2⟩ := ret2 h
  replace e1 := e1.symm
  replace e2 := e2.symm
  subst e1
  subst e2
  rw [hQ]
  rcases kt1 q2 with ⟨rfl, rfl⟩ | ⟨rfl, rfl⟩
  · refine x0_vi hx hb hml hown hts hK hN hE hW (g_cw (n := 2) hts wm33_2 wm33_3 wm33_4 wm1_2 wm33_5 ⟨rfl, by decide +kernel, by decide +kernel, by decide +kernel⟩ ⟨rfl, rfl⟩ ⟨Nat.le_of_ble_eq_true rfl, Nat.le_of_ble_eq_true rfl⟩) ⟨10, (RX10, TX10, 13), _, rfl, rfl, rfl⟩ (c_X10_off l hfl D T A ad hok Z x_K p2 p3 0 r2 z_K q1) rfl hl.1 rfl (Nat.le_of_ble_eq_true rfl) dL_offs_3 ⟨Nat.zero_le _, Nat.zero_le _⟩ (fun H locs hW => ?_)
    refine lv_if_eq (tgt := 13) hx hb dL_offs_6 (by decide) (fun c9 => ?_) (fun c9 => ?_)
    · rw [if_pos c9]
      refine lv_iconst (v := 0) hx hb dL_offs_13 (by decide) ?_
      refine W.widen (k := 1) (n := 16) (Nat.zero_le _) (Nat.zero_le _) ?_
      exact g_reti hx hb hr hlk hW dL_offs_14
    · rw [if_neg c9]
      refine lv_iconst (v := 1) hx hb dL_offs_9 (by decide) ?_
      refine lv_goto (tgt := 14) hx hb dL_offs_10 (by decide) ?_
      refine W.widen (k := 1) (n := 16) (Nat.zero_le _) (Nat.zero_le _) ?_
      exact g_reti hx hb hr hlk hW dL_offs_14
  · refine xc_vi (k := 1) (by decide) hx hb hml hown hts hK hN hE hW (g_cw (n := 2) hts wm33_2 wm33_3 wm33_4 wm1_2 wm33_5 ⟨rfl, by decide +kernel, by decide +kernel, by decide +kernel⟩ ⟨rfl, rfl⟩ ⟨Nat.le_of_ble_eq_true rfl, Nat.le_of_ble_eq_true rfl⟩) ⟨10, (RX10, TX10, 13), _, rfl, rfl, rfl⟩ (c_X10_off l hfl D T A ad hok Z x_K p2 p3 1 r2 z_K q1) rfl hl.1 rfl (Nat.le_of_ble_eq_true rfl) dL_offs_3 ⟨Nat.le_of_ble_eq_true rfl, Nat.le_of_ble_eq_true rfl⟩ (fun ce q9 H locs hW hce hcv hcl => ?_)
    refine vx_catch hown [] ⟨0, 14, 15, 80⟩ [] (htab.trans rfl) (fun z hz => absurd hz List.not_mem_nil) (by decide) (by decide) (hts _ wm8_17) (va_Nw.use rfl (hE.2.2.1 (exN 1) (by decide))) hce hcv hcl ?_
    refine lv_astore_n (lv' := [(3, .ref q9), (0, .ref (ad 0 0)), (1, .int p2), (2, .int p3)]) hx hb dL_offs_15 rfl hl (by decide) rfl (fun ls hl => ?_)
    refine lv_sipush (v := (-1001)) hx hb dL_offs_16 (by decide) ?_
    refine W.widen (k := 1) (n := 16) (Nat.le_of_ble_eq_true rfl) (Nat.le_of_ble_eq_true rfl) ?_
    exact g_reti hx hb hr hlk hW dL_offs_19
