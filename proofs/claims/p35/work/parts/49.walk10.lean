set_option maxHeartbeats 4000000 in
set_option maxRecDepth 100000 in
theorem c_X10_mendToTry (l : Launch) (D : va_G) (T : Nat → ClassId) (A : Nat → Prop) (ad : Nat → Nat → Nat) (hok : okad ad) (Z : va_W) (x_K : Nat → Ob) (q1 : Nat) (p2 : Int32) (p3 : Int32) (hq1 : q1 < 5) (r : Int32) (h : f_X10_mendToTry x_K q1 p2 p3 = some r) : Met l yX10_mendToTry (Cond.code yX10_mendToTry cX10_mendToTry 13 (some .int) :: wsL_law) (rmd 3) (Pg D T A (oc_X10 T (ad 0) (bb ad) (x_K 0) ++ (wkL T ad x_K L18 ++ Z)) [.ref (ad 0 0), .ref (ad (9 + q1) 0), .int p2, .int p3]) (Qgi D A (oc_X10 T (ad 0) (bb ad) (x_K 0) ++ (wkL T ad x_K L18 ++ Z)) r) 0 0 A := by
  refine Met.ofW (cc := cX10_mendToTry) (maxL := 13) (ret := (some .int)) (by decide +kernel) rfl ?_
  intro p e s m args below meth c s₁ B hml hv
  obtain ⟨ha, hP, hK, hD, hN⟩ := hv
  have hx := B.exec
  have hb := B.bytes
  have hr := B.returns
  have hlk := B.notSynchronized
  have hts : ∀ w ∈ wsL_law, w.before args s = true := fun w hw => atoms_spec B.pre w (List.mem_cons_of_mem _ hw)
  have hown : s.vm.findClass RX10 = some m.cls := findClass_of_methodNamed B.named
  obtain ⟨hk0, hk1, hk2, hk3, hk4, hk5, hk6, hk7, hk9, hk10⟩ := id hok
  have hW : Wd D A s.heap (oc_X10 T (ad 0) (bb ad) (x_K 0) ++ (wkL T ad x_K L18 ++ Z)) s.heap [] := ⟨hP, hD, va_S.rf⟩
  have hl := lv_entry [.ref (ad 0 0), .ref (ad (9 + q1) 0), .int p2, .int p3] (n := 13) (Nat.le_of_ble_eq_true rfl)
  refine W.eq (en_eq ha) ?_
  generalize (lg_sl [.ref (ad 0 0), .ref (ad (9 + q1) 0), .int p2, .int p3] ++ List.replicate (13 - (lg_sl [.ref (ad 0 0), .ref (ad (9 + q1) 0), .int p2, .int p3]).length) Slot.unset).toArray = ls at hl ⊢
  have hl : lv_has ls 13 [(0, .ref (ad 0 0)), (1, .ref (ad (9 + q1) 0)), (2, .int p2), (3, .int p3)] := hl
  clear hP hD B ha
  obtain ⟨Q, hQ⟩ : ∃ Q, Q = MQ below (Qgi D A (oc_X10 T (ad 0) (bb ad) (x_K 0) ++ (wkL T ad x_K L18 ++ Z)) r) args s 0 0 A := ⟨_, rfl⟩
  rw [← hQ]
  change W p l e (rmd 3) s m args below meth c s.heap [] 0 0 Q (F0 m 0 ls [])
  have J83 : ∀ (j1_83 : Nat) (v3_83 : Int32) (v4_83 : Int32) (v5_83 : Int32) (v6_83 : Int32) (v7_83 : Int32) (hj1_83 : j1_83 < 5) (H : Heap) (locs : List Loc) (ls : Array Slot), Wd D A s.heap (oc_X10 T (ad 0) (bb ad) (x_K 0) ++ (wkL T ad x_K L18 ++ Z)) H locs → lv_has ls 13 [(0, .ref (ad 0 0)), (1, .ref (ad (9 + j1_83) 0)), (3, .int v3_83), (4, .int v4_83), (5, .int v5_83), (6, .int v6_83), (7, .int v7_83)] → f_X10_mendToTry_J83 x_K j1_83 v3_83 v4_83 v5_83 v6_83 v7_83 = some r → W p l e (rmd 3) s m args below meth c H locs 0 0 Q (F0 m 83 ls []) := by
    intro j1_83 v3_83 v4_83 v5_83 v6_83 v7_83 hj1_83 H locs ls hW hl h
    rw [f_X10_mendToTry_J83] at h
    refine lv_iload hx hb dX10_mendToTry_83 (lv_at hl 6 rfl) ?_
    refine lv_iconst (v := (-1)) hx hb dX10_mendToTry_85 (by decide) ?_
    refine lv_icmp_ne (tgt := 91) hx hb dX10_mendToTry_86 (by decide) (fun c11 => ?_) (fun c11 => ?_)
    · replace h := ite_f c11 h
      refine lv_aload_n hx hb dX10_mendToTry_91 rfl (lv_at hl 1 rfl) ?_
      refine fg_X10_426 (v := .ref (ad (14 + j1_83) 0)) hx hb hts hN hown hK (hW.perm (fo1 (k1 := (9 + j1_83)) (mS hj1_83) (cS hj1_83))) 0 rfl (by rw [← hk10 _ hj1_83]; rfl) dX10_mendToTry_92 ?_
      refine lv_aload_n hx hb dX10_mendToTry_95 rfl (lv_at hl 1 rfl) ?_
      refine fg_X10_426 (v := .ref (ad (14 + j1_83) 0)) hx hb hts hN hown hK (hW.perm (fo1 (k1 := (9 + j1_83)) (mS hj1_83) (cS hj1_83))) 0 rfl (by rw [← hk10 _ hj1_83]; rfl) dX10_mendToTry_96 ?_
      refine lv_iload hx hb dX10_mendToTry_99 (lv_at hl 3 rfl) ?_
      refine lv_iload_n hx hb dX10_mendToTry_101 rfl (lv_at hl 2 rfl) ?_
      obtain ⟨r12, qq13, h⟩ := bnd1_s h
      replace hW := hW.perm (fo1 (k1 := (14 + j1_83)) (mC hj1_83) (cC hj1_83))
      refine cl_X10_449 hx hb hml hown hts hK hN hW (c_X0_partOf l D T A (ad (14 + j1_83)) (oc_X10 T (ad 0) (bb ad) (x_K 0) ++ (wkL T ad x_K (L18.erase (14 + j1_83)) ++ Z)) (x_K (14 + j1_83)) v4_83 v3_83 r12 qq13) ⟨Nat.le_of_ble_eq_true rfl, Nat.le_of_ble_eq_true rfl⟩ hl.1 rfl (Nat.le_of_ble_eq_true rfl) dX10_mendToTry_102 ⟨Nat.zero_le _, Nat.zero_le _⟩ rfl (fun H locs hW => ?_)
      replace hW := hW.perm (fo1 (k1 := (14 + j1_83)) (mC hj1_83) (cC hj1_83)).symm
      refine lv_aload_n hx hb dX10_mendToTry_105 rfl (lv_at hl 0 rfl) ?_
      refine fg_X10_26 (v := .ref (ad 3 0)) hx hb hts hown hK hW 0 rfl (by rw [← hk2]; rfl) dX10_mendToTry_106 ?_
      obtain ⟨r14, qq15, h⟩ := bnd1_s h
      replace hW := hW.perm (fo2 (k1 := (14 + j1_83)) (k2 := 3) (mC hj1_83) (by decide) (by omega) (cC hj1_83) rfl)
      refine cl_X10_452 hx hb hml hown hts hK hN hW (c_X0_headOf l D T A (ad (14 + j1_83)) (ad 3) (oc_X10 T (ad 0) (bb ad) (x_K 0) ++ (wkL T ad x_K ((L18.erase (14 + j1_83)).erase 3) ++ Z)) (x_K (14 + j1_83)) (x_K 3) r12 r14 qq15) ⟨Nat.le_of_ble_eq_true rfl, Nat.le_of_ble_eq_true rfl⟩ hl.1 rfl (Nat.le_of_ble_eq_true rfl) dX10_mendToTry_109 ⟨Nat.zero_le _, Nat.zero_le _⟩ rfl (fun H locs hW => ?_)
      replace hW := hW.perm (fo2 (k1 := (14 + j1_83)) (k2 := 3) (mC hj1_83) (by decide) (by omega) (cC hj1_83) rfl).symm
      refine lv_istore (lv' := [(8, .int r14), (0, .ref (ad 0 0)), (1, .ref (ad (9 + j1_83) 0)), (3, .int v3_83), (4, .int v4_83), (5, .int v5_83), (6, .int v6_83), (7, .int v7_83)]) hx hb dX10_mendToTry_112 hl (by decide) rfl (fun ls hl => ?_)
      refine lv_iload hx hb dX10_mendToTry_114 (lv_at hl 0 rfl) ?_
      obtain ⟨r16, qq17, h⟩ := bnd1_s h
      refine cl_X10_303 hx hb hml hown hts hK hN hW (c_X10_placeOfEdge l D T A (oc_X10 T (ad 0) (bb ad) (x_K 0) ++ (wkL T ad x_K L18 ++ Z)) r14 r16 qq17) ⟨Nat.le_of_ble_eq_true rfl, Nat.le_of_ble_eq_true rfl⟩ hl.1 rfl (Nat.le_of_ble_eq_true rfl) dX10_mendToTry_116 ⟨Nat.zero_le _, Nat.zero_le _⟩ rfl (fun H locs hW => ?_)
      refine lv_istore (lv' := [(9, .int r16), (8, .int r14), (0, .ref (ad 0 0)), (1, .ref (ad (9 + j1_83) 0)), (3, .int v3_83), (4, .int v4_83), (5, .int v5_83), (6, .int v6_83), (7, .int v7_83)]) hx hb dX10_mendToTry_119 hl (by decide) rfl (fun ls hl => ?_)
      refine lv_aload_n hx hb dX10_mendToTry_121 rfl (lv_at hl 3 rfl) ?_
      refine fg_X10_426 (v := .ref (ad (14 + j1_83) 0)) hx hb hts hN hown hK (hW.perm (fo1 (k1 := (9 + j1_83)) (mS hj1_83) (cS hj1_83))) 0 rfl (by rw [← hk10 _ hj1_83]; rfl) dX10_mendToTry_122 ?_
      refine lv_iload hx hb dX10_mendToTry_125 (lv_at hl 1 rfl) ?_
      obtain ⟨r18, qq19, h⟩ := bnd1_s h
      replace hW := hW.perm (fo1 (k1 := (14 + j1_83)) (mC hj1_83) (cC hj1_83))
      refine cl_X10_456 hx hb hml hown hts hK hN hW (c_X0_readingOf l D T A (ad (14 + j1_83)) (oc_X10 T (ad 0) (bb ad) (x_K 0) ++ (wkL T ad x_K (L18.erase (14 + j1_83)) ++ Z)) (x_K (14 + j1_83)) r14 r18 qq19) ⟨Nat.le_of_ble_eq_true rfl, Nat.le_of_ble_eq_true rfl⟩ hl.1 rfl (Nat.le_of_ble_eq_true rfl) dX10_mendToTry_127 ⟨Nat.zero_le _, Nat.zero_le _⟩ rfl (fun H locs hW => ?_)
      replace hW := hW.perm (fo1 (k1 := (14 + j1_83)) (mC hj1_83) (cC hj1_83)).symm
      refine lv_istore (lv' := [(10, .int r18), (9, .int r16), (8, .int r14), (0, .ref (ad 0 0)), (1, .ref (ad (9 + j1_83) 0)), (3, .int v3_83), (4, .int v4_83), (5, .int v5_83), (6, .int v6_83), (7, .int v7_83)]) hx hb dX10_mendToTry_130 hl (by decide) rfl (fun ls hl => ?_)
      refine lv_aload_n hx hb dX10_mendToTry_132 rfl (lv_at hl 4 rfl) ?_
      refine lv_iload hx hb dX10_mendToTry_133 (lv_at hl 1 rfl) ?_
      refine lv_iload hx hb dX10_mendToTry_135 (lv_at hl 0 rfl) ?_
      obtain ⟨r20, qq21, h⟩ := bnd1_s h
      replace hW := hW.perm (fo1 (k1 := (9 + j1_83)) (mS hj1_83) (cS hj1_83))
      refine cl_X10_398 hx hb hml hown hts hK hN hW (c_X6_featuresOf l D T A (ad (9 + j1_83)) (oc_X10 T (ad 0) (bb ad) (x_K 0) ++ (wkL T ad x_K (L18.erase (9 + j1_83)) ++ Z)) (x_K (9 + j1_83)) r16 r18 r20 qq21) ⟨Nat.le_of_ble_eq_true rfl, Nat.le_of_ble_eq_true rfl⟩ hl.1 rfl (Nat.le_of_ble_eq_true rfl) dX10_mendToTry_137 ⟨Nat.zero_le _, Nat.zero_le _⟩ rfl (fun H locs hW => ?_)
      replace hW := hW.perm (fo1 (k1 := (9 + j1_83)) (mS hj1_83) (cS hj1_83)).symm
      refine lv_aload_n hx hb dX10_mendToTry_140 rfl (lv_at hl 3 rfl) ?_
      refine fg_X10_26 (v := .ref (ad 3 0)) hx hb hts hown hK hW 0 rfl (by rw [← hk2]; rfl) dX10_mendToTry_141 ?_
      refine lv_iload hx hb dX10_mendToTry_144 (lv_at hl 8 rfl) ?_
      refine lv_iload hx hb dX10_mendToTry_146 (lv_at hl 7 rfl) ?_
      obtain ⟨r22, qq23, h⟩ := bnd1_s h
      replace hW := hW.perm (fo1 (k1 := 3) (by decide) rfl)
      refine cl_X10_459 hx hb hml hown hts hK hN hW (c_X2_featureOf l D T A (ad 3) (oc_X10 T (ad 0) (bb ad) (x_K 0) ++ (wkL T ad x_K (L18.erase 3) ++ Z)) (x_K 3) v6_83 v5_83 r22 qq23) ⟨Nat.le_of_ble_eq_true rfl, Nat.le_of_ble_eq_true rfl⟩ hl.1 rfl (Nat.le_of_ble_eq_true rfl) dX10_mendToTry_148 ⟨Nat.zero_le _, Nat.zero_le _⟩ rfl (fun H locs hW => ?_)
      replace hW := hW.perm (fo1 (k1 := 3) (by decide) rfl).symm
      refine lv_iload hx hb dX10_mendToTry_151 (lv_at hl 9 rfl) ?_
      obtain ⟨r24, qq25, h⟩ := bnd1_s h
      refine cl_X10_462 hx hb hml hown hts hK hN hW (c_X10_withValue l D T A (oc_X10 T (ad 0) (bb ad) (x_K 0) ++ (wkL T ad x_K L18 ++ Z)) r20 r22 v7_83 r24 qq25) ⟨Nat.le_of_ble_eq_true rfl, Nat.le_of_ble_eq_true rfl⟩ hl.1 rfl (Nat.le_of_ble_eq_true rfl) dX10_mendToTry_153 ⟨Nat.zero_le _, Nat.zero_le _⟩ rfl (fun H locs hW => ?_)
      refine lv_istore (lv' := [(11, .int r24), (10, .int r18), (9, .int r16), (8, .int r14), (0, .ref (ad 0 0)), (1, .ref (ad (9 + j1_83) 0)), (3, .int v3_83), (4, .int v4_83), (5, .int v5_83), (6, .int v6_83), (7, .int v7_83)]) hx hb dX10_mendToTry_156 hl (by decide) rfl (fun ls hl => ?_)
      refine lv_aload_n hx hb dX10_mendToTry_158 rfl (lv_at hl 4 rfl) ?_
      refine fg_X10_12 (v := .ref (ad 1 0)) hx hb hts hown hK hW 0 rfl (by rw [← hk0]; rfl) dX10_mendToTry_159 ?_
      refine lv_aload_n hx hb dX10_mendToTry_162 rfl (lv_at hl 4 rfl) ?_
      refine fg_X10_12 (v := .ref (ad 1 0)) hx hb hts hown hK hW 0 rfl (by rw [← hk0]; rfl) dX10_mendToTry_163 ?_
      refine lv_aload_n hx hb dX10_mendToTry_166 rfl (lv_at hl 5 rfl) ?_
      refine lv_iload hx hb dX10_mendToTry_167 (lv_at hl 2 rfl) ?_
      obtain ⟨r26, qq27, h⟩ := bnd1_s h
      replace hW := hW.perm (fo1 (k1 := (9 + j1_83)) (mS hj1_83) (cS hj1_83))
      refine cl_X10_217 hx hb hml hown hts hK hN hW (c_X6_wordIn l D T A (ad (9 + j1_83)) (oc_X10 T (ad 0) (bb ad) (x_K 0) ++ (wkL T ad x_K (L18.erase (9 + j1_83)) ++ Z)) (x_K (9 + j1_83)) r16 r26 qq27) ⟨Nat.le_of_ble_eq_true rfl, Nat.le_of_ble_eq_true rfl⟩ hl.1 rfl (Nat.le_of_ble_eq_true rfl) dX10_mendToTry_169 ⟨Nat.zero_le _, Nat.zero_le _⟩ rfl (fun H locs hW => ?_)
      replace hW := hW.perm (fo1 (k1 := (9 + j1_83)) (mS hj1_83) (cS hj1_83)).symm
      refine lv_iload hx hb dX10_mendToTry_172 (lv_at hl 1 rfl) ?_
      obtain ⟨r28, qq29, h⟩ := bnd1_s h
      replace hW := hW.perm (fo1 (k1 := 1) (by decide) rfl)
      refine cl_X10_465 hx hb hml hown hts hK hN hW (c_X3_lemmaOf l D T A (ad 1) (oc_X10 T (ad 0) (bb ad) (x_K 0) ++ (wkL T ad x_K (L18.erase 1) ++ Z)) (x_K 1) r26 r18 r28 qq29) ⟨Nat.le_of_ble_eq_true rfl, Nat.le_of_ble_eq_true rfl⟩ hl.1 rfl (Nat.le_of_ble_eq_true rfl) dX10_mendToTry_174 ⟨Nat.zero_le _, Nat.zero_le _⟩ rfl (fun H locs hW => ?_)
      replace hW := hW.perm (fo1 (k1 := 1) (by decide) rfl).symm
      refine lv_aload_n hx hb dX10_mendToTry_177 rfl (lv_at hl 5 rfl) ?_
      refine lv_iload hx hb dX10_mendToTry_178 (lv_at hl 2 rfl) ?_
      refine lv_iload hx hb dX10_mendToTry_180 (lv_at hl 1 rfl) ?_
      obtain ⟨r30, qq31, h⟩ := bnd1_s h
      replace hW := hW.perm (fo1 (k1 := (9 + j1_83)) (mS hj1_83) (cS hj1_83))
      refine cl_X10_468 hx hb hml hown hts hK hN hW (c_X6_categoryOf l D T A (ad (9 + j1_83)) (oc_X10 T (ad 0) (bb ad) (x_K 0) ++ (wkL T ad x_K (L18.erase (9 + j1_83)) ++ Z)) (x_K (9 + j1_83)) r16 r18 r30 qq31) ⟨Nat.le_of_ble_eq_true rfl, Nat.le_of_ble_eq_true rfl⟩ hl.1 rfl (Nat.le_of_ble_eq_true rfl) dX10_mendToTry_182 ⟨Nat.zero_le _, Nat.zero_le _⟩ rfl (fun H locs hW => ?_)
      replace hW := hW.perm (fo1 (k1 := (9 + j1_83)) (mS hj1_83) (cS hj1_83)).symm
      refine lv_iload hx hb dX10_mendToTry_185 (lv_at hl 0 rfl) ?_
      obtain ⟨r32, qq33, h⟩ := bnd1_s h
      replace hW := hW.perm (fo1 (k1 := 1) (by decide) rfl)
      refine cl_X10_470 hx hb hml hown hts hK hN hW (c_X3_lowestTold l D T A (ad 1) (oc_X10 T (ad 0) (bb ad) (x_K 0) ++ (wkL T ad x_K (L18.erase 1) ++ Z)) (x_K 1) r28 r30 r24 r32 qq33) ⟨Nat.le_of_ble_eq_true rfl, Nat.le_of_ble_eq_true rfl⟩ hl.1 rfl (Nat.le_of_ble_eq_true rfl) dX10_mendToTry_187 ⟨Nat.zero_le _, Nat.zero_le _⟩ rfl (fun H locs hW => ?_)
      replace hW := hW.perm (fo1 (k1 := 1) (by decide) rfl).symm
      refine lv_istore (lv' := [(12, .int r32), (11, .int r24), (10, .int r18), (9, .int r16), (8, .int r14), (0, .ref (ad 0 0)), (1, .ref (ad (9 + j1_83) 0)), (3, .int v3_83), (4, .int v4_83), (5, .int v5_83), (6, .int v6_83), (7, .int v7_83)]) hx hb dX10_mendToTry_190 hl (by decide) rfl (fun ls hl => ?_)
      refine lv_iload hx hb dX10_mendToTry_192 (lv_at hl 0 rfl) ?_
      refine lv_iconst (v := (-1)) hx hb dX10_mendToTry_194 (by decide) ?_
      refine lv_icmp_ne (tgt := 202) hx hb dX10_mendToTry_195 (by decide) (fun c34 => ?_) (fun c34 => ?_)
      · replace h := ite_f c34 h
        refine lv_bipush (v := 100) hx hb dX10_mendToTry_202 (by decide) ?_
        refine lv_iload hx hb dX10_mendToTry_204 (lv_at hl 3 rfl) ?_
        refine lv_imul hx hb dX10_mendToTry_206 ?_
        refine lv_iload hx hb dX10_mendToTry_207 (lv_at hl 0 rfl) ?_
        refine lv_iadd hx hb dX10_mendToTry_209 ?_
        have e90 := ret1 h
        subst r
        rw [hQ]
        exact g_reti hx hb hr hlk hW dX10_mendToTry_210
      · replace h := ite_t c34 h
        refine lv_iconst (v := (-1)) hx hb dX10_mendToTry_198 (by decide) ?_
        refine lv_goto (tgt := 210) hx hb dX10_mendToTry_199 (by decide) ?_
        have e90 := ret1 h
        subst r
        rw [hQ]
        exact g_reti hx hb hr hlk hW dX10_mendToTry_210
    · replace h := ite_t c11 h
      refine lv_iconst (v := (-1)) hx hb dX10_mendToTry_89 (by decide) ?_
      have e90 := ret1 h
      subst r
      rw [hQ]
      exact g_reti hx hb hr hlk hW dX10_mendToTry_90
  rw [f_X10_mendToTry] at h
  suffices hm : ∀ (H : Heap) (locs : List Loc), Wd D A s.heap (oc_X10 T (ad 0) (bb ad) (x_K 0) ++ (wkL T ad x_K L18 ++ Z)) H locs → W p l e (rmd 3) s m args below meth c H locs 0 0 Q (F0 m 0 ls []) from hm _ _ hW
  intro H locs hW
  refine lv_iload_n hx hb dX10_mendToTry_0 rfl (lv_at hl 2 rfl) ?_
  refine lv_iconst (v := 3) hx hb dX10_mendToTry_1 (by decide) ?_
  refine lv_idiv hx hb dX10_mendToTry_2 (by decide) ?_
  refine lv_topi (fun w4_1 ew4_1 => ?_)
  replace h := lb_at ew4_1 h
  refine lv_istore (lv' := [(4, .int w4_1), (0, .ref (ad 0 0)), (1, .ref (ad (9 + q1) 0)), (2, .int p2), (3, .int p3)]) hx hb dX10_mendToTry_3 hl (by decide) rfl (fun ls hl => ?_)
  refine lv_iload_n hx hb dX10_mendToTry_5 rfl (lv_at hl 3 rfl) ?_
  refine lv_iconst (v := 3) hx hb dX10_mendToTry_6 (by decide) ?_
  refine lv_irem hx hb dX10_mendToTry_7 (by decide) ?_
  refine lv_topi (fun w5_2 ew5_2 => ?_)
  replace h := lb_at ew5_2 h
  refine lv_istore (lv' := [(5, .int w5_2), (4, .int w4_1), (0, .ref (ad 0 0)), (1, .ref (ad (9 + q1) 0)), (2, .int p2), (3, .int p3)]) hx hb dX10_mendToTry_8 hl (by decide) rfl (fun ls hl => ?_)
  refine lv_aload_n hx hb dX10_mendToTry_10 rfl (lv_at hl 3 rfl) ?_
  refine fg_X10_426 (v := .ref (ad (14 + q1) 0)) hx hb hts hN hown hK (hW.perm (fo1 (k1 := (9 + q1)) (mS hq1) (cS hq1))) 0 rfl (by rw [← hk10 _ hq1]; rfl) dX10_mendToTry_11 ?_
  refine lv_iload hx hb dX10_mendToTry_14 (lv_at hl 1 rfl) ?_
  obtain ⟨r3, qq4, h⟩ := bnd1_s h
  replace hW := hW.perm (fo1 (k1 := (14 + q1)) (mC hq1) (cC hq1))
  refine cl_X10_300 hx hb hml hown hts hK hN hW (c_X0_ruleOf l D T A (ad (14 + q1)) (oc_X10 T (ad 0) (bb ad) (x_K 0) ++ (wkL T ad x_K (L18.erase (14 + q1)) ++ Z)) (x_K (14 + q1)) w4_1 r3 qq4) ⟨Nat.le_of_ble_eq_true rfl, Nat.le_of_ble_eq_true rfl⟩ hl.1 rfl (Nat.le_of_ble_eq_true rfl) dX10_mendToTry_16 ⟨Nat.zero_le _, Nat.zero_le _⟩ rfl (fun H locs hW => ?_)
  replace hW := hW.perm (fo1 (k1 := (14 + q1)) (mC hq1) (cC hq1)).symm
  refine lv_istore (lv' := [(6, .int r3), (5, .int w5_2), (4, .int w4_1), (0, .ref (ad 0 0)), (1, .ref (ad (9 + q1) 0)), (2, .int p2), (3, .int p3)]) hx hb dX10_mendToTry_19 hl (by decide) rfl (fun ls hl => ?_)
  refine lv_iconst (v := (-1)) hx hb dX10_mendToTry_21 (by decide) ?_
  refine lv_istore (lv' := [(7, .int (-1)), (6, .int r3), (5, .int w5_2), (4, .int w4_1), (0, .ref (ad 0 0)), (1, .ref (ad (9 + q1) 0)), (2, .int p2), (3, .int p3)]) hx hb dX10_mendToTry_22 hl (by decide) rfl (fun ls hl => ?_)
  refine lv_aload_n hx hb dX10_mendToTry_24 rfl (lv_at hl 4 rfl) ?_
  refine fg_X10_26 (v := .ref (ad 3 0)) hx hb hts hown hK hW 0 rfl (by rw [← hk2]; rfl) dX10_mendToTry_25 ?_
  refine lv_iload hx hb dX10_mendToTry_28 (lv_at hl 1 rfl) ?_
  refine lv_iload hx hb dX10_mendToTry_30 (lv_at hl 2 rfl) ?_
  obtain ⟨r5, qq6, h⟩ := bnd1_s h
  replace hW := hW.perm (fo1 (k1 := 3) (by decide) rfl)
  refine cl_X10_437 hx hb hml hown hts hK hN hW (c_X2_oneOf l D T A (ad 3) (oc_X10 T (ad 0) (bb ad) (x_K 0) ++ (wkL T ad x_K (L18.erase 3) ++ Z)) (x_K 3) r3 w5_2 r5 qq6) ⟨Nat.le_of_ble_eq_true rfl, Nat.le_of_ble_eq_true rfl⟩ hl.1 rfl (Nat.le_of_ble_eq_true rfl) dX10_mendToTry_32 ⟨Nat.zero_le _, Nat.zero_le _⟩ rfl (fun H locs hW => ?_)
  replace hW := hW.perm (fo1 (k1 := 3) (by decide) rfl).symm
  refine lv_iload_n hx hb dX10_mendToTry_35 rfl (lv_at hl 7 rfl) ?_
  refine lv_icmp_ne (tgt := 55) hx hb dX10_mendToTry_36 (by decide) (fun c7 => ?_) (fun c7 => ?_)
  · replace h := ite_f c7 h
    refine lv_aload_n hx hb dX10_mendToTry_55 rfl (lv_at hl 4 rfl) ?_
    refine fg_X10_26 (v := .ref (ad 3 0)) hx hb hts hown hK hW 0 rfl (by rw [← hk2]; rfl) dX10_mendToTry_56 ?_
    refine lv_iload hx hb dX10_mendToTry_59 (lv_at hl 1 rfl) ?_
    refine lv_iload hx hb dX10_mendToTry_61 (lv_at hl 2 rfl) ?_
    obtain ⟨r8, qq9, h⟩ := bnd1_s h
    replace hW := hW.perm (fo1 (k1 := 3) (by decide) rfl)
    refine cl_X10_443 hx hb hml hown hts hK hN hW (c_X2_otherOf l D T A (ad 3) (oc_X10 T (ad 0) (bb ad) (x_K 0) ++ (wkL T ad x_K (L18.erase 3) ++ Z)) (x_K 3) r3 w5_2 r8 qq9) ⟨Nat.le_of_ble_eq_true rfl, Nat.le_of_ble_eq_true rfl⟩ hl.1 rfl (Nat.le_of_ble_eq_true rfl) dX10_mendToTry_63 ⟨Nat.zero_le _, Nat.zero_le _⟩ rfl (fun H locs hW => ?_)
    replace hW := hW.perm (fo1 (k1 := 3) (by decide) rfl).symm
    refine lv_iload_n hx hb dX10_mendToTry_66 rfl (lv_at hl 7 rfl) ?_
    refine lv_icmp_ne (tgt := 83) hx hb dX10_mendToTry_67 (by decide) (fun c10 => ?_) (fun c10 => ?_)
    · replace h := ite_f c10 h
      exact J83 _ _ _ _ _ _ hq1 H locs ls hW (lv_sub hl [4, 5, 7, 3, 2, 1, 0] rfl) h
    · replace h := ite_t c10 h
      refine lv_aload_n hx hb dX10_mendToTry_70 rfl (lv_at hl 5 rfl) ?_
      refine fg_X10_426 (v := .ref (ad (14 + q1) 0)) hx hb hts hN hown hK (hW.perm (fo1 (k1 := (9 + q1)) (mS hq1) (cS hq1))) 0 rfl (by rw [← hk10 _ hq1]; rfl) dX10_mendToTry_71 ?_
      refine lv_iload hx hb dX10_mendToTry_74 (lv_at hl 3 rfl) ?_
      refine lv_iload hx hb dX10_mendToTry_76 (lv_at hl 2 rfl) ?_
      obtain ⟨r35, qq36, h⟩ := bnd1_s h
      replace hW := hW.perm (fo1 (k1 := (14 + q1)) (mC hq1) (cC hq1))
      refine cl_X10_446 hx hb hml hown hts hK hN hW (c_X0_oneThen l D T A (ad (14 + q1)) (oc_X10 T (ad 0) (bb ad) (x_K 0) ++ (wkL T ad x_K (L18.erase (14 + q1)) ++ Z)) (x_K (14 + q1)) w4_1 w5_2 r35 qq36) ⟨Nat.le_of_ble_eq_true rfl, Nat.le_of_ble_eq_true rfl⟩ hl.1 rfl (Nat.le_of_ble_eq_true rfl) dX10_mendToTry_78 ⟨Nat.zero_le _, Nat.zero_le _⟩ rfl (fun H locs hW => ?_)
      replace hW := hW.perm (fo1 (k1 := (14 + q1)) (mC hq1) (cC hq1)).symm
      refine lv_istore (lv' := [(7, .int r35), (6, .int r3), (5, .int w5_2), (4, .int w4_1), (0, .ref (ad 0 0)), (1, .ref (ad (9 + q1) 0)), (2, .int p2), (3, .int p3)]) hx hb dX10_mendToTry_81 hl (by decide) rfl (fun ls hl => ?_)
      exact J83 _ _ _ _ _ _ hq1 H locs ls hW (lv_sub hl [4, 5, 7, 3, 2, 1, 0] rfl) h
  · replace h := ite_t c7 h
    refine lv_aload_n hx hb dX10_mendToTry_39 rfl (lv_at hl 5 rfl) ?_
    refine fg_X10_426 (v := .ref (ad (14 + q1) 0)) hx hb hts hN hown hK (hW.perm (fo1 (k1 := (9 + q1)) (mS hq1) (cS hq1))) 0 rfl (by rw [← hk10 _ hq1]; rfl) dX10_mendToTry_40 ?_
    refine lv_iload hx hb dX10_mendToTry_43 (lv_at hl 3 rfl) ?_
    refine lv_iload hx hb dX10_mendToTry_45 (lv_at hl 2 rfl) ?_
    obtain ⟨r37, qq38, h⟩ := bnd1_s h
    replace hW := hW.perm (fo1 (k1 := (14 + q1)) (mC hq1) (cC hq1))
    refine cl_X10_440 hx hb hml hown hts hK hN hW (c_X0_otherThen l D T A (ad (14 + q1)) (oc_X10 T (ad 0) (bb ad) (x_K 0) ++ (wkL T ad x_K (L18.erase (14 + q1)) ++ Z)) (x_K (14 + q1)) w4_1 w5_2 r37 qq38) ⟨Nat.le_of_ble_eq_true rfl, Nat.le_of_ble_eq_true rfl⟩ hl.1 rfl (Nat.le_of_ble_eq_true rfl) dX10_mendToTry_47 ⟨Nat.zero_le _, Nat.zero_le _⟩ rfl (fun H locs hW => ?_)
    replace hW := hW.perm (fo1 (k1 := (14 + q1)) (mC hq1) (cC hq1)).symm
    refine lv_istore (lv' := [(7, .int r37), (6, .int r3), (5, .int w5_2), (4, .int w4_1), (0, .ref (ad 0 0)), (1, .ref (ad (9 + q1) 0)), (2, .int p2), (3, .int p3)]) hx hb dX10_mendToTry_50 hl (by decide) rfl (fun ls hl => ?_)
    refine lv_goto (tgt := 83) hx hb dX10_mendToTry_52 (by decide) ?_
    exact J83 _ _ _ _ _ _ hq1 H locs ls hW (lv_sub hl [4, 5, 7, 3, 2, 1, 0] rfl) h
set_option maxHeartbeats 4000000 in
set_option maxRecDepth 100000 in
theorem c_X10_priceWith (l : Launch) (hfl : l.stackTraces = false) (D : va_G) (T : Nat → ClassId) (A : Nat → Prop) (ad : Nat → Nat → Nat) (hok : okad ad) (Z : va_W) (x_K : Nat → Ob) (p1 : Int32) (p2 : Int32) (p3 : Int32)  (k : Nat) (r : Int32) (x_K9 : Nat → Ob) (h : f_X10_priceWith x_K p1 p2 p3 = some (k, r, x_K9)) : vx_Met l yX10_priceWith (Cond.code yX10_priceWith cX10_priceWith 4 (some .int) :: wsL_law) (rmx 9 k) (Px D T A (oc_X10 T (ad 0) (bb ad) (x_K 0) ++ (wkL T ad x_K L18 ++ Z)) [.ref (ad 0 0), .int p1, .int p2, .int p3]) (Qxi D A (oc_X10 T (ad 0) (bb ad) (x_K9 0) ++ (wkL T ad x_K9 L18 ++ Z)) k r) (XCx D A (oc_X10 T (ad 0) (bb ad) (x_K9 0) ++ (wkL T ad x_K9 L18 ++ Z)) k) (ex1 k) (ex6 k) A := by
  refine vx_ofW (cc := cX10_priceWith) (maxL := 4) (ret := (some .int)) (by decide +kernel) rfl ?_
  intro p e s m args below meth c s₁ B hml hout hv
  obtain ⟨ha, hP, hK, hD, hN, hE⟩ := hv
  have hx := B.exec
  have hb := B.bytes
  have hr := B.returns
  have hlk := B.notSynchronized
  have hts : ∀ w ∈ wsL_law, w.before args s = true := fun w hw => atoms_spec B.pre w (List.mem_cons_of_mem _ hw)
  have hown : s.vm.findClass RX10 = some m.cls := findClass_of_methodNamed B.named
  obtain ⟨hk0, hk1, hk2, hk3, hk4, hk5, hk6, hk7, hk9, hk10⟩ := id hok
  have hW : Wd D A s.heap (oc_X10 T (ad 0) (bb ad) (x_K 0) ++ (wkL T ad x_K L18 ++ Z)) s.heap [] := ⟨hP, hD, va_S.rf⟩
  have hl := lv_entry [.ref (ad 0 0), .int p1, .int p2, .int p3] (n := 4) (Nat.le_of_ble_eq_true rfl)
  refine W.eq (en_eq ha) ?_
  generalize (lg_sl [.ref (ad 0 0), .int p1, .int p2, .int p3] ++ List.replicate (4 - (lg_sl [.ref (ad 0 0), .int p1, .int p2, .int p3]).length) Slot.unset).toArray = ls at hl ⊢
  have hl : lv_has ls 4 [(0, .ref (ad 0 0)), (1, .int p1), (2, .int p2), (3, .int p3)] := hl
  clear hP hD B ha
  obtain ⟨Q, hQ⟩ : ∃ Q, Q = vx_MQ below (Qxi D A (oc_X10 T (ad 0) (bb ad) (x_K9 0) ++ (wkL T ad x_K9 L18 ++ Z)) k r) (XCx D A (oc_X10 T (ad 0) (bb ad) (x_K9 0) ++ (wkL T ad x_K9 L18 ++ Z)) k) args s (ex1 k) (ex6 k) A := ⟨_, rfl⟩
  rw [← hQ]
  change W p l e (rmx 9 k) s m args below meth c s.heap [] 0 0 Q (F0 m 0 ls [])
  rw [f_X10_priceWith] at h
  suffices hm : ∀ (H : Heap) (locs : List Loc), Wd D A s.heap (oc_X10 T (ad 0) (bb ad) (x_K 0) ++ (wkL T ad x_K L18 ++ Z)) H locs → W p l e (rmx 9 k) s m args below meth c H locs 0 0 Q (F0 m 0 ls []) from hm _ _ hW
  intro H locs hW
  refine lv_aload_n hx hb dX10_priceWith_0 rfl (lv_at hl 0 rfl) ?_
  refine fg_X10_72 (v := .ref (ad (9 + 4) 0)) hx hb hts hown hK hW 0 rfl (show _ = some (Value.ref (ad 13 0)) by rw [← hk9]; rfl) dX10_priceWith_1 ?_
  refine lv_aload_n hx hb dX10_priceWith_4 rfl (lv_at hl 0 rfl) ?_
  refine lv_iload_n hx hb dX10_priceWith_5 rfl (lv_at hl 1 rfl) ?_
  obtain ⟨k1, r2, qq3, h⟩ := bnd2_s h
  by_cases hk : k1 = 0
  case neg =>
    replace h := ite_f hk h
    obtain ⟨e90, e91, e92⟩ := ret3 h
    subst k
    subst x_K9
    rw [hQ]
    exact xcx_X10_198 hk hout hlk (List.Perm.refl _) hx hb hml hown hts hK hN hE hW (c_X10_sentenceAt l hfl D T A ad hok Z x_K p1 k1 r2 qq3) ⟨Nat.le_of_ble_eq_true rfl, Nat.le_of_ble_eq_true rfl⟩ rfl hl.1 rfl (Nat.le_of_ble_eq_true rfl) dX10_priceWith_6
  replace h := ite_t hk h
  subst hk
  refine xc0_X10_198 hx hb hml hown hts hK hN hE hW (c_X10_sentenceAt l hfl D T A ad hok Z x_K p1 0 r2 qq3) ⟨Nat.le_of_ble_eq_true rfl, Nat.le_of_ble_eq_true rfl⟩ rfl hl.1 rfl (Nat.le_of_ble_eq_true rfl) dX10_priceWith_6 ⟨Nat.zero_le _, Nat.zero_le _⟩ (fun H locs hW => ?_)
  obtain ⟨g4, h⟩ := grd_s h
  have h4hs5 : r2 < 4 := of_decide_eq_true g4
  have hs5 : r2 < 5 := by omega
  obtain ⟨y_o6, qq7, h⟩ := bnd1_s h
  replace hW := hW.perm (fo2 (k1 := (9 + 4)) (k2 := (9 + r2)) (mS (by decide)) (mS hs5) (by omega) (cS (by decide)) (cS hs5))
  refine cl_X10_473 hx hb hml hown hts hK hN hW (c_X6_copyWords l D T A (ad (9 + 4)) (ad (9 + r2)) (oc_X10 T (ad 0) (bb ad) (x_K 0) ++ (wkL T ad x_K ((L18.erase (9 + 4)).erase (9 + r2)) ++ Z)) (x_K (9 + 4)) (x_K (9 + r2)) y_o6 qq7) ⟨Nat.le_of_ble_eq_true rfl, Nat.le_of_ble_eq_true rfl⟩ hl.1 rfl (Nat.le_of_ble_eq_true rfl) dX10_priceWith_9 ⟨Nat.zero_le _, Nat.zero_le _⟩ rfl (fun H locs hW => ?_)
  obtain ⟨z_K8, ez_K8⟩ : ∃ y : Nat → Ob, y = va_up x_K (9 + 4) y_o6 := ⟨_, rfl⟩
  replace h := lb_at ez_K8 h
  replace hW := hW.perm (ba2 (K' := z_K8) (k1 := (9 + 4)) (k2 := (9 + r2)) (mS (by decide)) (mS hs5) (by omega) (by rw [ez_K8, va_up_ne _ _ (by omega)]) (fun k9 _ n0 n1 => by rw [ez_K8, va_up_ne _ _ n0]) (by rw [ez_K8, va_up_self]; exact (cS (by decide))) (by rw [ez_K8, va_up_ne _ _ (by omega)]; exact (cS hs5)))
  refine lv_aload_n hx hb dX10_priceWith_12 rfl (lv_at hl 0 rfl) ?_
  refine fg_X10_72 (v := .ref (ad (9 + 4) 0)) hx hb hts hown hK hW 0 rfl (show _ = some (Value.ref (ad 13 0)) by rw [← hk9]; rfl) dX10_priceWith_13 ?_
  refine lv_iload_n hx hb dX10_priceWith_16 rfl (lv_at hl 2 rfl) ?_
  obtain ⟨y_q19, qq10, h⟩ := bnd1_s h
  replace hW := hW.perm (fo1 (k1 := (9 + 4)) (mS (by decide)) (cS (by decide)))
  refine cl_X10_335 hx hb hml hown hts hK hN hW (c_X10_putMend l D T A (ad (9 + 4)) (oc_X10 T (ad 0) (bb ad) (z_K8 0) ++ (wkL T ad z_K8 (L18.erase (9 + 4)) ++ Z)) (z_K8 (9 + 4)) p2 y_q19 qq10) ⟨Nat.le_of_ble_eq_true rfl, Nat.le_of_ble_eq_true rfl⟩ hl.1 rfl (Nat.le_of_ble_eq_true rfl) dX10_priceWith_17 ⟨Nat.zero_le _, Nat.zero_le _⟩ rfl (fun H locs hW => ?_)
  obtain ⟨z_K11, ez_K11⟩ : ∃ y : Nat → Ob, y = va_up z_K8 (9 + 4) y_q19 := ⟨_, rfl⟩
  replace h := lb_at ez_K11 h
  replace hW := hW.perm (ba1 (K' := z_K11) (k1 := (9 + 4)) (mS (by decide)) (by rw [ez_K11, va_up_ne _ _ (by omega)]) (fun k9 _ n0 => by rw [ez_K11, va_up_ne _ _ n0]) (by rw [ez_K11, va_up_self]; exact (cS (by decide))))
  refine lv_aload_n hx hb dX10_priceWith_20 rfl (lv_at hl 0 rfl) ?_
  refine fg_X10_72 (v := .ref (ad (9 + 4) 0)) hx hb hts hown hK hW 0 rfl (show _ = some (Value.ref (ad 13 0)) by rw [← hk9]; rfl) dX10_priceWith_21 ?_
  refine lv_iload_n hx hb dX10_priceWith_24 rfl (lv_at hl 3 rfl) ?_
  obtain ⟨y_q112, qq13, h⟩ := bnd1_s h
  replace hW := hW.perm (fo1 (k1 := (9 + 4)) (mS (by decide)) (cS (by decide)))
  refine cl_X10_335 hx hb hml hown hts hK hN hW (c_X10_putMend l D T A (ad (9 + 4)) (oc_X10 T (ad 0) (bb ad) (z_K11 0) ++ (wkL T ad z_K11 (L18.erase (9 + 4)) ++ Z)) (z_K11 (9 + 4)) p3 y_q112 qq13) ⟨Nat.le_of_ble_eq_true rfl, Nat.le_of_ble_eq_true rfl⟩ hl.1 rfl (Nat.le_of_ble_eq_true rfl) dX10_priceWith_25 ⟨Nat.zero_le _, Nat.zero_le _⟩ rfl (fun H locs hW => ?_)
  obtain ⟨z_K14, ez_K14⟩ : ∃ y : Nat → Ob, y = va_up z_K11 (9 + 4) y_q112 := ⟨_, rfl⟩
  replace h := lb_at ez_K14 h
  replace hW := hW.perm (ba1 (K' := z_K14) (k1 := (9 + 4)) (mS (by decide)) (by rw [ez_K14, va_up_ne _ _ (by omega)]) (fun k9 _ n0 => by rw [ez_K14, va_up_ne _ _ n0]) (by rw [ez_K14, va_up_self]; exact (cS (by decide))))
  refine lv_aload_n hx hb dX10_priceWith_28 rfl (lv_at hl 0 rfl) ?_
  refine fg_X10_19 (v := .ref (ad 2 0)) hx hb hts hown hK hW 0 rfl (by rw [← hk1]; rfl) dX10_priceWith_29 ?_
  refine lv_aload_n hx hb dX10_priceWith_32 rfl (lv_at hl 0 rfl) ?_
  refine fg_X10_12 (v := .ref (ad 1 0)) hx hb hts hown hK hW 0 rfl (by rw [← hk0]; rfl) dX10_priceWith_33 ?_
  refine lv_aload_n hx hb dX10_priceWith_36 rfl (lv_at hl 0 rfl) ?_
  refine fg_X10_72 (v := .ref (ad (9 + 4) 0)) hx hb hts hown hK hW 0 rfl (show _ = some (Value.ref (ad 13 0)) by rw [← hk9]; rfl) dX10_priceWith_37 ?_
  obtain ⟨y_q215, qq16, h⟩ := bnd1_s h
  replace hW := hW.perm (fo3 (k1 := 2) (k2 := 1) (k3 := (9 + 4)) (by decide) (by decide) (mS (by decide)) (by omega) (by omega) (by omega) rfl rfl (cS (by decide)))
  refine cl_X10_386 hx hb hml hown hts hK hN hW (c_X7_strike l D T A (ad 2) (ad 1) (ad (9 + 4)) (oc_X10 T (ad 0) (bb ad) (z_K14 0) ++ (wkL T ad z_K14 (((L18.erase 2).erase 1).erase (9 + 4)) ++ Z)) (z_K14 2) (z_K14 1) (z_K14 (9 + 4)) y_q215 qq16) ⟨Nat.le_of_ble_eq_true rfl, Nat.le_of_ble_eq_true rfl⟩ hl.1 rfl (Nat.le_of_ble_eq_true rfl) dX10_priceWith_40 ⟨Nat.zero_le _, Nat.zero_le _⟩ rfl (fun H locs hW => ?_)
  obtain ⟨z_K17, ez_K17⟩ : ∃ y : Nat → Ob, y = va_up z_K14 (9 + 4) y_q215 := ⟨_, rfl⟩
  replace h := lb_at ez_K17 h
  replace hW := hW.perm (ba3 (K' := z_K17) (k1 := 2) (k2 := 1) (k3 := (9 + 4)) (by decide) (by decide) (mS (by decide)) (by omega) (by omega) (by omega) (by rw [ez_K17, va_up_ne _ _ (by omega)]) (fun k9 _ n0 n1 n2 => by rw [ez_K17, va_up_ne _ _ n2]) (by rw [ez_K17, va_up_ne _ _ (by omega)]; exact rfl) (by rw [ez_K17, va_up_ne _ _ (by omega)]; exact rfl) (by rw [ez_K17, va_up_self]; exact (cS (by decide))))
  refine lv_aload_n hx hb dX10_priceWith_43 rfl (lv_at hl 0 rfl) ?_
  refine lv_iload_n hx hb dX10_priceWith_44 rfl (lv_at hl 1 rfl) ?_
  refine lv_aload_n hx hb dX10_priceWith_45 rfl (lv_at hl 0 rfl) ?_
  refine fg_X10_72 (v := .ref (ad (9 + 4) 0)) hx hb hts hown hK hW 0 rfl (show _ = some (Value.ref (ad 13 0)) by rw [← hk9]; rfl) dX10_priceWith_46 ?_
  obtain ⟨k18, z_K19, qq20, h⟩ := bnd2_s h
  by_cases hk : k18 = 0
  case neg =>
    replace h := ite_f hk h
    obtain ⟨e90, e91, e92⟩ := ret3 h
    subst k
    subst x_K9
    rw [hQ]
    exact xcx_X10_407 hk hout hlk (List.Perm.refl _) hx hb hml hown hts hK hN hE hW (c_X10_findGiven l hfl D T A ad hok Z z_K17 p1 4 (by decide) k18 z_K19 qq20) ⟨Nat.le_of_ble_eq_true rfl, Nat.le_of_ble_eq_true rfl⟩ rfl hl.1 rfl (Nat.le_of_ble_eq_true rfl) dX10_priceWith_49
  replace h := ite_t hk h
  subst hk
  refine xc0_X10_407 hx hb hml hown hts hK hN hE hW (c_X10_findGiven l hfl D T A ad hok Z z_K17 p1 4 (by decide) 0 z_K19 qq20) ⟨Nat.le_of_ble_eq_true rfl, Nat.le_of_ble_eq_true rfl⟩ rfl hl.1 rfl (Nat.le_of_ble_eq_true rfl) dX10_priceWith_49 ⟨Nat.zero_le _, Nat.zero_le _⟩ (fun H locs hW => ?_)
  refine lv_aload_n hx hb dX10_priceWith_52 rfl (lv_at hl 0 rfl) ?_
  refine fg_X10_72 (v := .ref (ad (9 + 4) 0)) hx hb hts hown hK hW 0 rfl (show _ = some (Value.ref (ad 13 0)) by rw [← hk9]; rfl) dX10_priceWith_53 ?_
  refine lv_aload_n hx hb dX10_priceWith_56 rfl (lv_at hl 0 rfl) ?_
  refine fg_X10_76 (v := .ref (ad 0 2)) hx hb hts hown hK hW 0 rfl rfl dX10_priceWith_57 ?_
  obtain ⟨y_o21, qq22, h⟩ := bnd1_s h
  replace hW := hW.perm (fo1 (k1 := (9 + 4)) (mS (by decide)) (cS (by decide)))
  replace hW := hW.perm (List.Perm.append_left (oc_X6 T (ad (9 + 4)) ((z_K19 (9 + 4)))) rws)
  refine cl_X10_418 hx hb hml hown hts hK hN hW (c_X6_giveAll l D T A (ad (9 + 4)) (fun _ => ad 0 2) (oc_X10m T (ad 0) (bb ad) (z_K19 0) ++ (wkL T ad z_K19 (L18.erase (9 + 4)) ++ Z)) (z_K19 (9 + 4)) (fun _ => z_K19 0 10) y_o21 qq22) ⟨Nat.le_of_ble_eq_true rfl, Nat.le_of_ble_eq_true rfl⟩ hl.1 rfl (Nat.le_of_ble_eq_true rfl) dX10_priceWith_60 ⟨Nat.zero_le _, Nat.zero_le _⟩ rfl (fun H locs hW => ?_)
  replace hW := hW.perm (List.Perm.append_left _ rws.symm)
  obtain ⟨z_K23, ez_K23⟩ : ∃ y : Nat → Ob, y = va_up z_K19 (9 + 4) y_o21 := ⟨_, rfl⟩
  replace h := lb_at ez_K23 h
  replace hW := hW.perm (ba1 (K' := z_K23) (k1 := (9 + 4)) (mS (by decide)) (by rw [ez_K23, va_up_ne _ _ (by omega)]) (fun k9 _ n0 => by rw [ez_K23, va_up_ne _ _ n0]) (by rw [ez_K23, va_up_self]; exact (cS (by decide))))
  refine lv_aload_n hx hb dX10_priceWith_63 rfl (lv_at hl 0 rfl) ?_
  refine fg_X10_40 (v := .ref (ad 8 0)) hx hb hts hown hK hW 0 rfl (by rw [← hk4]; rfl) dX10_priceWith_64 ?_
  refine lv_aload_n hx hb dX10_priceWith_67 rfl (lv_at hl 0 rfl) ?_
  refine fg_X10_26 (v := .ref (ad 3 0)) hx hb hts hown hK hW 0 rfl (by rw [← hk2]; rfl) dX10_priceWith_68 ?_
  refine lv_aload_n hx hb dX10_priceWith_71 rfl (lv_at hl 0 rfl) ?_
  refine fg_X10_72 (v := .ref (ad (9 + 4) 0)) hx hb hts hown hK hW 0 rfl (show _ = some (Value.ref (ad 13 0)) by rw [← hk9]; rfl) dX10_priceWith_72 ?_
  obtain ⟨y_q124, y_q225, y_q2c26, qq27, h⟩ := bnd3_s h
  replace hW := hW.perm (fo4 (k1 := 8) (k2 := 3) (k3 := (9 + 4)) (k4 := (14 + 4)) (by decide) (by decide) (mS (by decide)) (mC (by decide)) (by omega) (by omega) (by omega) (by omega) (by omega) (by omega) rfl rfl (cS (by decide)) (cC (by decide)))
  refine cl_X10_422 hx hb hml hown hts hK hN hW (c_X4_read l D T A (ad 8) (ad 3) (ad (9 + 4)) (ad (14 + 4)) (oc_X10 T (ad 0) (bb ad) (z_K23 0) ++ (wkL T ad z_K23 ((((L18.erase 8).erase 3).erase (9 + 4)).erase (14 + 4)) ++ Z)) (hk10 _ (by decide)) (z_K23 3) (z_K23 (9 + 4)) (z_K23 (14 + 4)) y_q124 y_q225 y_q2c26 qq27) ⟨Nat.le_of_ble_eq_true rfl, Nat.le_of_ble_eq_true rfl⟩ hl.1 rfl (Nat.le_of_ble_eq_true rfl) dX10_priceWith_75 ⟨Nat.zero_le _, Nat.zero_le _⟩ rfl (fun H locs hW => ?_)
  obtain ⟨z_K28, ez_K28⟩ : ∃ y : Nat → Ob, y = va_up (va_up (va_up z_K23 3 y_q124) (9 + 4) y_q225) (14 + 4) y_q2c26 := ⟨_, rfl⟩
  replace h := lb_at ez_K28 h
  replace hW := hW.perm (ba4 (K' := z_K28) (k1 := 8) (k2 := 3) (k3 := (9 + 4)) (k4 := (14 + 4)) (by decide) (by decide) (mS (by decide)) (mC (by decide)) (by omega) (by omega) (by omega) (by omega) (by omega) (by omega) (by rw [ez_K28, va_up_ne _ _ (by omega), va_up_ne _ _ (by omega), va_up_ne _ _ (by omega)]) (fun k9 _ n0 n1 n2 n3 => by rw [ez_K28, va_up_ne _ _ n3, va_up_ne _ _ n2, va_up_ne _ _ n1]) (by rw [ez_K28, va_up_ne _ _ (by omega), va_up_ne _ _ (by omega), va_up_ne _ _ (by omega)]; exact rfl) (by rw [ez_K28, va_up_ne _ _ (by omega), va_up_ne _ _ (by omega), va_up_self]; exact rfl) (by rw [ez_K28, va_up_ne _ _ (by omega), va_up_self]; exact (cS (by decide))) (by rw [ez_K28, va_up_self]; exact (cC (by decide))))
  refine lv_aload_n hx hb dX10_priceWith_78 rfl (lv_at hl 0 rfl) ?_
  refine fg_X10_72 (v := .ref (ad (9 + 4) 0)) hx hb hts hown hK hW 0 rfl (show _ = some (Value.ref (ad 13 0)) by rw [← hk9]; rfl) dX10_priceWith_79 ?_
  refine fg_X10_426 (v := .ref (ad (14 + 4) 0)) hx hb hts hN hown hK (hW.perm (fo1 (k1 := (9 + 4)) (mS (by decide)) (cS (by decide)))) 0 rfl (by rw [← hk10 _ (by decide)]; rfl) dX10_priceWith_82 ?_
  obtain ⟨r29, qq30, h⟩ := bnd1_s h
  replace hW := hW.perm (fo1 (k1 := (14 + 4)) (mC (by decide)) (cC (by decide)))
  refine cl_X10_280 hx hb hml hown hts hK hN hW (c_X0_wholePrice l D T A (ad (14 + 4)) (oc_X10 T (ad 0) (bb ad) (z_K28 0) ++ (wkL T ad z_K28 (L18.erase (14 + 4)) ++ Z)) (z_K28 (14 + 4)) r29 qq30) ⟨Nat.le_of_ble_eq_true rfl, Nat.le_of_ble_eq_true rfl⟩ hl.1 rfl (Nat.le_of_ble_eq_true rfl) dX10_priceWith_85 ⟨Nat.zero_le _, Nat.zero_le _⟩ rfl (fun H locs hW => ?_)
  replace hW := hW.perm (fo1 (k1 := (14 + 4)) (mC (by decide)) (cC (by decide))).symm
  obtain ⟨e90, e91, e92⟩ := ret3 h
  subst k
  subst r
  subst x_K9
  rw [hQ]
  exact x_reti hx hb hr hlk hW dX10_priceWith_88
set_option maxHeartbeats 4000000 in
set_option maxRecDepth 100000 in
theorem c_X10_mendOf (l : Launch) (hfl : l.stackTraces = false) (D : va_G) (T : Nat → ClassId) (A : Nat → Prop) (ad : Nat → Nat → Nat) (hok : okad ad) (Z : va_W) (x_K : Nat → Ob) (p1 : Int32) (p2 : Int32)  (k : Nat) (r : Int32) (x_K9 : Nat → Ob) (h : f_X10_mendOf x_K p1 p2 = some (k, r, x_K9)) : vx_Met l yX10_mendOf (Cond.code yX10_mendOf cX10_mendOf 5 (some .int) :: wsL_law) (rmx 10 k) (Px D T A (oc_X10 T (ad 0) (bb ad) (x_K 0) ++ (wkL T ad x_K L18 ++ Z)) [.ref (ad 0 0), .int p1, .int p2]) (Qxi D A (oc_X10 T (ad 0) (bb ad) (x_K9 0) ++ (wkL T ad x_K9 L18 ++ Z)) k r) (XCx D A (oc_X10 T (ad 0) (bb ad) (x_K9 0) ++ (wkL T ad x_K9 L18 ++ Z)) k) (ex1 k) (ex6 k) A := by
  refine vx_ofW (cc := cX10_mendOf) (maxL := 5) (ret := (some .int)) (by decide +kernel) rfl ?_
  intro p e s m args below meth c s₁ B hml hout hv
  obtain ⟨ha, hP, hK, hD, hN, hE⟩ := hv
  have hx := B.exec
  have hb := B.bytes
  have hr := B.returns
  have hlk := B.notSynchronized
  have hts : ∀ w ∈ wsL_law, w.before args s = true := fun w hw => atoms_spec B.pre w (List.mem_cons_of_mem _ hw)
  have hown : s.vm.findClass RX10 = some m.cls := findClass_of_methodNamed B.named
  obtain ⟨hk0, hk1, hk2, hk3, hk4, hk5, hk6, hk7, hk9, hk10⟩ := id hok
  have hW : Wd D A s.heap (oc_X10 T (ad 0) (bb ad) (x_K 0) ++ (wkL T ad x_K L18 ++ Z)) s.heap [] := ⟨hP, hD, va_S.rf⟩
  have hl := lv_entry [.ref (ad 0 0), .int p1, .int p2] (n := 5) (Nat.le_of_ble_eq_true rfl)
  refine W.eq (en_eq ha) ?_
  generalize (lg_sl [.ref (ad 0 0), .int p1, .int p2] ++ List.replicate (5 - (lg_sl [.ref (ad 0 0), .int p1, .int p2]).length) Slot.unset).toArray = ls at hl ⊢
  have hl : lv_has ls 5 [(0, .ref (ad 0 0)), (1, .int p1), (2, .int p2)] := hl
  clear hP hD B ha
  obtain ⟨Q, hQ⟩ : ∃ Q, Q = vx_MQ below (Qxi D A (oc_X10 T (ad 0) (bb ad) (x_K9 0) ++ (wkL T ad x_K9 L18 ++ Z)) k r) (XCx D A (oc_X10 T (ad 0) (bb ad) (x_K9 0) ++ (wkL T ad x_K9 L18 ++ Z)) k) args s (ex1 k) (ex6 k) A := ⟨_, rfl⟩
  rw [← hQ]
  change W p l e (rmx 10 k) s m args below meth c s.heap [] 0 0 Q (F0 m 0 ls [])
  have L2 : ∀ (n : Nat) (x_K_2 : Nat → Ob) (v1_2 : Int32) (v2_2 : Int32) (v3_2 : Int32) (H : Heap) (locs : List Loc) (ls : Array Slot) (code : Nat) (o3_2r : Int32) (o4_2r : Int32) (y_K_2r : Nat → Ob), Wd D A s.heap (oc_X10 T (ad 0) (bb ad) (x_K_2 0) ++ (wkL T ad x_K_2 L18 ++ Z)) H locs → lv_has ls 5 [(0, .ref (ad 0 0)), (1, .int v1_2), (2, .int v2_2), (3, .int v3_2)] → f_X10_mendOf_L2 n x_K_2 v1_2 v2_2 v3_2 = some (code, o3_2r, o4_2r, y_K_2r) → (code = 1 → ∀ (H : Heap) (locs : List Loc) (ls : Array Slot), Wd D A s.heap (oc_X10 T (ad 0) (bb ad) (y_K_2r 0) ++ (wkL T ad y_K_2r L18 ++ Z)) H locs → lv_has ls 5 [] → W p l e (rmx 10 k) s m args below meth c H locs 0 0 Q (F0 m 62 ls [])) → (code = 2 → ∀ (H : Heap) (locs : List Loc) (ls : Array Slot), Wd D A s.heap (oc_X10 T (ad 0) (bb ad) (y_K_2r 0) ++ (wkL T ad y_K_2r L18 ++ Z)) H locs → lv_has ls 5 [(4, .int o4_2r)] → W p l e (rmx 10 k) s m args below meth c H locs 0 0 Q (F0 m 53 ls [])) → (∀ k1 : Nat, code = 100 + k1 → k = k1 ∧ x_K9 = y_K_2r) → W p l e (rmx 10 k) s m args below meth c H locs 0 0 Q (F0 m 2 ls []) := by
    intro n
    induction n with
    | zero =>
      intro x_K_2 v1_2 v2_2 v3_2 H locs ls code o3_2r o4_2r y_K_2r hW hl h k1 k2 kx
      rw [f_X10_mendOf_L2] at h
      cases h
    | succ n ih =>
      intro x_K_2 v1_2 v2_2 v3_2 H locs ls code o3_2r o4_2r y_K_2r hW hl h k1 k2 kx
      rw [f_X10_mendOf_L2] at h
      refine lv_iload_n hx hb dX10_mendOf_2 rfl (lv_at hl 2 rfl) ?_
      refine lv_iconst (v := (-1)) hx hb dX10_mendOf_3 (by decide) ?_
      refine lv_icmp_eq (tgt := 62) hx hb dX10_mendOf_4 (by decide) (fun c1 => ?_) (fun c1 => ?_)
      · replace h := ite_t c1 h
        obtain ⟨rfl, rfl, rfl, rfl⟩ := ret4 h
        exact k1 rfl H locs ls hW (lv_sub hl [] rfl)
      · replace h := ite_f c1 h
        refine lv_iload_n hx hb dX10_mendOf_7 rfl (lv_at hl 3 rfl) ?_
        refine lv_iconst (v := 1) hx hb dX10_mendOf_8 (by decide) ?_
        refine lv_icmp_lt (tgt := 62) hx hb dX10_mendOf_9 (by decide) (fun c2 => ?_) (fun c2 => ?_)
        · replace h := ite_t c2 h
          obtain ⟨rfl, rfl, rfl, rfl⟩ := ret4 h
          exact k1 rfl H locs ls hW (lv_sub hl [] rfl)
        · replace h := ite_f c2 h
          refine lv_aload_n hx hb dX10_mendOf_12 rfl (lv_at hl 0 rfl) ?_
          refine lv_aload_n hx hb dX10_mendOf_13 rfl (lv_at hl 0 rfl) ?_
          refine lv_iload_n hx hb dX10_mendOf_14 rfl (lv_at hl 1 rfl) ?_
          obtain ⟨k3, r4, qq5, h⟩ := bnd2_s h
          by_cases hk : k3 = 0
          case neg =>
            replace h := ite_f hk h
            obtain ⟨e90, e91, e92, e93⟩ := ret4 h
            obtain ⟨e9k, e9x⟩ := kx k3 e90
            subst k
            subst x_K9
            subst y_K_2r
            rw [hQ]
            exact xcx_X10_198 hk hout hlk (List.Perm.refl _) hx hb hml hown hts hK hN hE hW (c_X10_sentenceAt l hfl D T A ad hok Z x_K_2 v1_2 k3 r4 qq5) ⟨Nat.le_of_ble_eq_true rfl, Nat.le_of_ble_eq_true rfl⟩ rfl hl.1 rfl (Nat.le_of_ble_eq_true rfl) dX10_mendOf_15
          replace h := ite_t hk h
          subst hk
          refine xc0_X10_198 hx hb hml hown hts hK hN hE hW (c_X10_sentenceAt l hfl D T A ad hok Z x_K_2 v1_2 0 r4 qq5) ⟨Nat.le_of_ble_eq_true rfl, Nat.le_of_ble_eq_true rfl⟩ rfl hl.1 rfl (Nat.le_of_ble_eq_true rfl) dX10_mendOf_15 ⟨Nat.zero_le _, Nat.zero_le _⟩ (fun H locs hW => ?_)
          obtain ⟨g6, h⟩ := grd_s h
          have h4hs7 : r4 < 4 := of_decide_eq_true g6
          have hs7 : r4 < 5 := by omega
          refine lv_iload_n hx hb dX10_mendOf_18 rfl (lv_at hl 2 rfl) ?_
          refine lv_iload_n hx hb dX10_mendOf_19 rfl (lv_at hl 3 rfl) ?_
          obtain ⟨r8, qq9, h⟩ := bnd1_s h
          refine cl_X10_430 hx hb hml hown hts hK hN hW (c_X10_mendToTry l D T A ad hok Z x_K_2 r4 v2_2 v3_2 hs7 r8 qq9) ⟨Nat.le_of_ble_eq_true rfl, Nat.le_of_ble_eq_true rfl⟩ hl.1 rfl (Nat.le_of_ble_eq_true rfl) dX10_mendOf_20 ⟨Nat.zero_le _, Nat.zero_le _⟩ rfl (fun H locs hW => ?_)
          refine lv_istore (lv' := [(4, .int r8), (0, .ref (ad 0 0)), (1, .int v1_2), (2, .int v2_2), (3, .int v3_2)]) hx hb dX10_mendOf_23 hl (by decide) rfl (fun ls hl => ?_)
          refine lv_iload hx hb dX10_mendOf_25 (lv_at hl 0 rfl) ?_
          refine lv_iconst (v := (-1)) hx hb dX10_mendOf_27 (by decide) ?_
          refine lv_icmp_eq (tgt := 56) hx hb dX10_mendOf_28 (by decide) (fun c10 => ?_) (fun c10 => ?_)
          · replace h := ite_t c10 h
            obtain ⟨w3_11, ew3_11⟩ : ∃ y : Int32, y = v3_2 + (-1) := ⟨_, rfl⟩
            replace h := lb_at ew3_11 h
            refine lv_iinc (v := w3_11) (lv' := [(3, .int w3_11), (4, .int r8), (0, .ref (ad 0 0)), (1, .int v1_2), (2, .int v2_2)]) hx hb dX10_mendOf_56 hl (k := 4) rfl (by rw [ew3_11]; rfl) (by decide) rfl (fun ls hl => ?_)
            refine lv_goto (tgt := 2) hx hb dX10_mendOf_59 (by decide) ?_
            exact ih _ _ _ _ H locs ls _ _ _ _ hW (lv_sub hl [2, 3, 4, 0] rfl) h k1 k2 kx
          · replace h := ite_f c10 h
            refine lv_aload_n hx hb dX10_mendOf_31 rfl (lv_at hl 1 rfl) ?_
            refine lv_iload_n hx hb dX10_mendOf_32 rfl (lv_at hl 2 rfl) ?_
            refine lv_iload hx hb dX10_mendOf_33 (lv_at hl 0 rfl) ?_
            refine lv_iconst (v := (-1)) hx hb dX10_mendOf_35 (by decide) ?_
            obtain ⟨k12, r13, z_K14, qq15, h⟩ := bnd3_s h
            by_cases hk : k12 = 0
            case neg =>
              replace h := ite_f hk h
              obtain ⟨e90, e91, e92, e93⟩ := ret4 h
              obtain ⟨e9k, e9x⟩ := kx k12 e90
              subst k
              subst x_K9
              subst y_K_2r
              rw [hQ]
              exact xcx_X10_434 hk hout hlk (List.Perm.refl _) hx hb hml hown hts hK hN hE hW (c_X10_priceWith l hfl D T A ad hok Z x_K_2 v1_2 r8 (-1) k12 r13 z_K14 qq15) ⟨Nat.le_of_ble_eq_true rfl, Nat.le_of_ble_eq_true rfl⟩ rfl hl.1 rfl (Nat.le_of_ble_eq_true rfl) dX10_mendOf_36
            replace h := ite_t hk h
            subst hk
            refine xc0_X10_434 hx hb hml hown hts hK hN hE hW (c_X10_priceWith l hfl D T A ad hok Z x_K_2 v1_2 r8 (-1) 0 r13 z_K14 qq15) ⟨Nat.le_of_ble_eq_true rfl, Nat.le_of_ble_eq_true rfl⟩ rfl hl.1 rfl (Nat.le_of_ble_eq_true rfl) dX10_mendOf_36 ⟨Nat.zero_le _, Nat.zero_le _⟩ (fun H locs hW => ?_)
            refine lv_aload_n hx hb dX10_mendOf_39 rfl (lv_at hl 1 rfl) ?_
            refine lv_iload_n hx hb dX10_mendOf_40 rfl (lv_at hl 2 rfl) ?_
            obtain ⟨k16, r17, qq18, h⟩ := bnd2_s h
            by_cases hk : k16 = 0
            case neg =>
              replace h := ite_f hk h
              obtain ⟨e90, e91, e92, e93⟩ := ret4 h
              obtain ⟨e9k, e9x⟩ := kx k16 e90
              subst k
              subst x_K9
              subst y_K_2r
              rw [hQ]
              exact xcx_X10_198 hk hout hlk (List.Perm.refl _) hx hb hml hown hts hK hN hE hW (c_X10_sentenceAt l hfl D T A ad hok Z z_K14 v1_2 k16 r17 qq18) ⟨Nat.le_of_ble_eq_true rfl, Nat.le_of_ble_eq_true rfl⟩ rfl hl.1 rfl (Nat.le_of_ble_eq_true rfl) dX10_mendOf_41
            replace h := ite_t hk h
            subst hk
            refine xc0_X10_198 hx hb hml hown hts hK hN hE hW (c_X10_sentenceAt l hfl D T A ad hok Z z_K14 v1_2 0 r17 qq18) ⟨Nat.le_of_ble_eq_true rfl, Nat.le_of_ble_eq_true rfl⟩ rfl hl.1 rfl (Nat.le_of_ble_eq_true rfl) dX10_mendOf_41 ⟨Nat.zero_le _, Nat.zero_le _⟩ (fun H locs hW => ?_)
            obtain ⟨g19, h⟩ := grd_s h
            have h4hs20 : r17 < 4 := of_decide_eq_true g19
            have hs20 : r17 < 5 := by omega
            refine fg_X10_426 (v := .ref (ad (14 + r17) 0)) hx hb hts hN hown hK (hW.perm (fo1 (k1 := (9 + r17)) (mS hs20) (cS hs20))) 0 rfl (by rw [← hk10 _ hs20]; rfl) dX10_mendOf_44 ?_
            obtain ⟨r21, qq22, h⟩ := bnd1_s h
            replace hW := hW.perm (fo1 (k1 := (14 + r17)) (mC hs20) (cC hs20))
            refine cl_X10_280 hx hb hml hown hts hK hN hW (c_X0_wholePrice l D T A (ad (14 + r17)) (oc_X10 T (ad 0) (bb ad) (z_K14 0) ++ (wkL T ad z_K14 (L18.erase (14 + r17)) ++ Z)) (z_K14 (14 + r17)) r21 qq22) ⟨Nat.le_of_ble_eq_true rfl, Nat.le_of_ble_eq_true rfl⟩ hl.1 rfl (Nat.le_of_ble_eq_true rfl) dX10_mendOf_47 ⟨Nat.zero_le _, Nat.zero_le _⟩ rfl (fun H locs hW => ?_)
            replace hW := hW.perm (fo1 (k1 := (14 + r17)) (mC hs20) (cC hs20)).symm
            refine lv_icmp_ge (tgt := 56) hx hb dX10_mendOf_50 (by decide) (fun c23 => ?_) (fun c23 => ?_)
            · replace h := ite_t c23 h
              obtain ⟨w3_24, ew3_24⟩ : ∃ y : Int32, y = v3_2 + (-1) := ⟨_, rfl⟩
              replace h := lb_at ew3_24 h
              refine lv_iinc (v := w3_24) (lv' := [(3, .int w3_24), (4, .int r8), (0, .ref (ad 0 0)), (1, .int v1_2), (2, .int v2_2)]) hx hb dX10_mendOf_56 hl (k := 4) rfl (by rw [ew3_24]; rfl) (by decide) rfl (fun ls hl => ?_)
              refine lv_goto (tgt := 2) hx hb dX10_mendOf_59 (by decide) ?_
              exact ih _ _ _ _ H locs ls _ _ _ _ hW (lv_sub hl [2, 3, 4, 0] rfl) h k1 k2 kx
            · replace h := ite_f c23 h
              obtain ⟨rfl, rfl, rfl, rfl⟩ := ret4 h
              exact k2 rfl H locs ls hW (lv_sub hl [0] rfl)
  rw [f_X10_mendOf] at h
  suffices hm : ∀ (H : Heap) (locs : List Loc), Wd D A s.heap (oc_X10 T (ad 0) (bb ad) (x_K 0) ++ (wkL T ad x_K L18 ++ Z)) H locs → W p l e (rmx 10 k) s m args below meth c H locs 0 0 Q (F0 m 0 ls []) from hm _ _ hW
  intro H locs hW
  refine lv_iconst (v := 2) hx hb dX10_mendOf_0 (by decide) ?_
  refine lv_istore_n (lv' := [(3, .int 2), (0, .ref (ad 0 0)), (1, .int p1), (2, .int p2)]) hx hb dX10_mendOf_1 rfl hl (by decide) rfl (fun ls hl => ?_)
  obtain ⟨code26, o3_u25, o4_u25, y_K_u25, qq27, h⟩ := bnd4_s h
  refine L2 200 _ _ _ _ H locs ls code26 o3_u25 o4_u25 y_K_u25 hW (lv_sub hl [1, 2, 3, 0] rfl) qq27 (fun hc H locs ls hW hl => ?_) (fun hc H locs ls hW hl => ?_) (fun k1 hc => ?_)
  · replace h := ite_f (by omega) h
    replace h := ite_t hc h
    refine lv_iconst (v := (-1)) hx hb dX10_mendOf_62 (by decide) ?_
    obtain ⟨e90, e91, e92⟩ := ret3 h
    subst k
    subst r
    subst x_K9
    rw [hQ]
    exact x_reti hx hb hr hlk hW dX10_mendOf_63
  · replace h := ite_f (by omega) h
    replace h := ite_f (by rw [hc]; decide) h
    refine lv_iload hx hb dX10_mendOf_53 (lv_at hl 0 rfl) ?_
    obtain ⟨e90, e91, e92⟩ := ret3 h
    subst k
    subst r
    subst x_K9
    rw [hQ]
    exact x_reti hx hb hr hlk hW dX10_mendOf_55
  · replace h := ite_t (by omega) h
    obtain ⟨e90, e91, e92⟩ := ret3 h
    exact ⟨by omega, e92⟩
set_option maxHeartbeats 4000000 in
set_option maxRecDepth 100000 in
theorem c_X10_mend (l : Launch) (hfl : l.stackTraces = false) (D : va_G) (T : Nat → ClassId) (A : Nat → Prop) (ad : Nat → Nat → Nat) (hok : okad ad) (Z : va_W) (x_K : Nat → Ob) (p1 : Int32) (p2 : Int32)  (k : Nat) (r : Int32) (x_K9 : Nat → Ob) (h : f_X10_mend x_K p1 p2 = some (k, r, x_K9)) : vx_Met l yX10_mend (Cond.code yX10_mend cX10_mend 4 (some .int) :: wsL_law) (rmx 11 k) (Px D T A (oc_X10 T (ad 0) (bb ad) (x_K 0) ++ (wkL T ad x_K L18 ++ Z)) [.ref (ad 0 0), .int p1, .int p2]) (Qxi D A (oc_X10 T (ad 0) (bb ad) (x_K9 0) ++ (wkL T ad x_K9 L18 ++ Z)) k r) (XCx D A (oc_X10 T (ad 0) (bb ad) (x_K9 0) ++ (wkL T ad x_K9 L18 ++ Z)) k) (ex1 k) (ex6 k) A := by
  refine vx_ofW (cc := cX10_mend) (maxL := 4) (ret := (some .int)) (by decide +kernel) rfl ?_
  intro p e s m args below meth c s₁ B hml hout hv
  obtain ⟨ha, hP, hK, hD, hN, hE⟩ := hv
  have hx := B.exec
  have hb := B.bytes
  have hr := B.returns
  have hlk := B.notSynchronized
  have hts : ∀ w ∈ wsL_law, w.before args s = true := fun w hw => atoms_spec B.pre w (List.mem_cons_of_mem _ hw)
  have hown : s.vm.findClass RX10 = some m.cls := findClass_of_methodNamed B.named
  obtain ⟨hk0, hk1, hk2, hk3, hk4, hk5, hk6, hk7, hk9, hk10⟩ := id hok
  have hW : Wd D A s.heap (oc_X10 T (ad 0) (bb ad) (x_K 0) ++ (wkL T ad x_K L18 ++ Z)) s.heap [] := ⟨hP, hD, va_S.rf⟩
  have hl := lv_entry [.ref (ad 0 0), .int p1, .int p2] (n := 4) (Nat.le_of_ble_eq_true rfl)
  refine W.eq (en_eq ha) ?_
  generalize (lg_sl [.ref (ad 0 0), .int p1, .int p2] ++ List.replicate (4 - (lg_sl [.ref (ad 0 0), .int p1, .int p2]).length) Slot.unset).toArray = ls at hl ⊢
  have hl : lv_has ls 4 [(0, .ref (ad 0 0)), (1, .int p1), (2, .int p2)] := hl
  clear hP hD B ha
  obtain ⟨Q, hQ⟩ : ∃ Q, Q = vx_MQ below (Qxi D A (oc_X10 T (ad 0) (bb ad) (x_K9 0) ++ (wkL T ad x_K9 L18 ++ Z)) k r) (XCx D A (oc_X10 T (ad 0) (bb ad) (x_K9 0) ++ (wkL T ad x_K9 L18 ++ Z)) k) args s (ex1 k) (ex6 k) A := ⟨_, rfl⟩
  rw [← hQ]
  change W p l e (rmx 11 k) s m args below meth c s.heap [] 0 0 Q (F0 m 0 ls [])
  rw [f_X10_mend] at h
  suffices hm : ∀ (H : Heap) (locs : List Loc), Wd D A s.heap (oc_X10 T (ad 0) (bb ad) (x_K 0) ++ (wkL T ad x_K L18 ++ Z)) H locs → W p l e (rmx 11 k) s m args below meth c H locs 0 0 Q (F0 m 0 ls []) from hm _ _ hW
  intro H locs hW
  refine lv_aload_n hx hb dX10_mend_0 rfl (lv_at hl 0 rfl) ?_
  refine lv_iload_n hx hb dX10_mend_1 rfl (lv_at hl 1 rfl) ?_
  obtain ⟨k1, r2, z_K3, qq4, h⟩ := bnd3_s h
  by_cases hk : k1 = 0
  case neg =>
    replace h := ite_f hk h
    obtain ⟨e90, e91, e92⟩ := ret3 h
    subst k
    subst x_K9
    rw [hQ]
    exact xcx_X10_251 hk hout hlk (List.Perm.refl _) hx hb hml hown hts hK hN hE hW (c_X10_readAsNeeded l hfl D T A ad hok Z x_K p1 k1 r2 z_K3 qq4) ⟨Nat.le_of_ble_eq_true rfl, Nat.le_of_ble_eq_true rfl⟩ rfl hl.1 rfl (Nat.le_of_ble_eq_true rfl) dX10_mend_2
  replace h := ite_t hk h
  subst hk
  refine xc0_X10_251 hx hb hml hown hts hK hN hE hW (c_X10_readAsNeeded l hfl D T A ad hok Z x_K p1 0 r2 z_K3 qq4) ⟨Nat.le_of_ble_eq_true rfl, Nat.le_of_ble_eq_true rfl⟩ rfl hl.1 rfl (Nat.le_of_ble_eq_true rfl) dX10_mend_2 ⟨Nat.zero_le _, Nat.zero_le _⟩ (fun H locs hW => ?_)
  obtain ⟨g5, h⟩ := grd_s h
  have h4hs6 : r2 < 4 := of_decide_eq_true g5
  have hs6 : r2 < 5 := by omega
  refine lv_astore_n (lv' := [(3, .ref (ad (14 + r2) 0)), (0, .ref (ad 0 0)), (1, .int p1), (2, .int p2)]) hx hb dX10_mend_5 rfl hl (by decide) rfl (fun ls hl => ?_)
  refine lv_aload_n hx hb dX10_mend_6 rfl (lv_at hl 1 rfl) ?_
  refine lv_iload_n hx hb dX10_mend_7 rfl (lv_at hl 2 rfl) ?_
  refine lv_aload_n hx hb dX10_mend_8 rfl (lv_at hl 1 rfl) ?_
  refine lv_aload_n hx hb dX10_mend_9 rfl (lv_at hl 0 rfl) ?_
  refine lv_iload_n hx hb dX10_mend_10 rfl (lv_at hl 3 rfl) ?_
  obtain ⟨k7, r8, z_K9, qq10, h⟩ := bnd3_s h
  by_cases hk : k7 = 0
  case neg =>
    replace h := ite_f hk h
    obtain ⟨e90, e91, e92⟩ := ret3 h
    subst k
    subst x_K9
    rw [hQ]
    exact xcx_X10_296 hk hout hlk (List.Perm.refl _) hx hb hml hown hts hK hN hE hW (c_X10_faultAt l hfl D T A ad hok Z z_K3 r2 p2 hs6 k7 r8 z_K9 qq10) ⟨Nat.le_of_ble_eq_true rfl, Nat.le_of_ble_eq_true rfl⟩ rfl hl.1 rfl (Nat.le_of_ble_eq_true rfl) dX10_mend_11
  replace h := ite_t hk h
  subst hk
  refine xc0_X10_296 hx hb hml hown hts hK hN hE hW (c_X10_faultAt l hfl D T A ad hok Z z_K3 r2 p2 hs6 0 r8 z_K9 qq10) ⟨Nat.le_of_ble_eq_true rfl, Nat.le_of_ble_eq_true rfl⟩ rfl hl.1 rfl (Nat.le_of_ble_eq_true rfl) dX10_mend_11 ⟨Nat.zero_le _, Nat.zero_le _⟩ (fun H locs hW => ?_)
  obtain ⟨k11, r12, z_K13, qq14, h⟩ := bnd3_s h
  by_cases hk : k11 = 0
  case neg =>
    replace h := ite_f hk h
    obtain ⟨e90, e91, e92⟩ := ret3 h
    subst k
    subst x_K9
    rw [hQ]
    exact xcx_X10_323 hk hout hlk (List.Perm.refl _) hx hb hml hown hts hK hN hE hW (c_X10_mendOf l hfl D T A ad hok Z z_K9 p1 r8 k11 r12 z_K13 qq14) ⟨Nat.le_of_ble_eq_true rfl, Nat.le_of_ble_eq_true rfl⟩ rfl hl.1 rfl (Nat.le_of_ble_eq_true rfl) dX10_mend_14
  replace h := ite_t hk h
  subst hk
  refine xc0_X10_323 hx hb hml hown hts hK hN hE hW (c_X10_mendOf l hfl D T A ad hok Z z_K9 p1 r8 0 r12 z_K13 qq14) ⟨Nat.le_of_ble_eq_true rfl, Nat.le_of_ble_eq_true rfl⟩ rfl hl.1 rfl (Nat.le_of_ble_eq_true rfl) dX10_mend_14 ⟨Nat.zero_le _, Nat.zero_le _⟩ (fun H locs hW => ?_)
  obtain ⟨e90, e91, e92⟩ := ret3 h
  subst k
  subst r
  subst x_K9
  rw [hQ]
  exact x_reti hx hb hr hlk hW dX10_mend_17
set_option maxHeartbeats 4000000 in
set_option maxRecDepth 100000 in
theorem c_X10_canBePut (l : Launch) (D : va_G) (T : Nat → ClassId) (A : Nat → Prop) (ad : Nat → Nat → Nat) (hok : okad ad) (Z : va_W) (x_K : Nat → Ob) (p1 : Int32)  (r : Int32) (h : f_X10_canBePut x_K p1 = some r) : Met l yX10_canBePut (Cond.code yX10_canBePut cX10_canBePut 3 (some .boolean) :: wsL_law) (rmd 0) (Pg D T A (oc_X10 T (ad 0) (bb ad) (x_K 0) ++ (wkL T ad x_K L18 ++ Z)) [.ref (ad 0 0), .int p1]) (Qgi D A (oc_X10 T (ad 0) (bb ad) (x_K 0) ++ (wkL T ad x_K L18 ++ Z)) r) 0 0 A := by
  refine Met.ofW (cc := cX10_canBePut) (maxL := 3) (ret := (some .boolean)) (by decide +kernel) rfl ?_
  intro p e s m args below meth c s₁ B hml hv
  obtain ⟨ha, hP, hK, hD, hN⟩ := hv
  have hx := B.exec
  have hb := B.bytes
  have hr := B.returns
  have hlk := B.notSynchronized
  have hts : ∀ w ∈ wsL_law, w.before args s = true := fun w hw => atoms_spec B.pre w (List.mem_cons_of_mem _ hw)
  have hown : s.vm.findClass RX10 = some m.cls := findClass_of_methodNamed B.named
  obtain ⟨hk0, hk1, hk2, hk3, hk4, hk5, hk6, hk7, hk9, hk10⟩ := id hok
  have hW : Wd D A s.heap (oc_X10 T (ad 0) (bb ad) (x_K 0) ++ (wkL T ad x_K L18 ++ Z)) s.heap [] := ⟨hP, hD, va_S.rf⟩
  have hl := lv_entry [.ref (ad 0 0), .int p1] (n := 3) (Nat.le_of_ble_eq_true rfl)
  refine W.eq (en_eq ha) ?_
  generalize (lg_sl [.ref (ad 0 0), .int p1] ++ List.replicate (3 - (lg_sl [.ref (ad 0 0), .int p1]).length) Slot.unset).toArray = ls at hl ⊢
  have hl : lv_has ls 3 [(0, .ref (ad 0 0)), (1, .int p1)] := hl
  clear hP hD B ha
  obtain ⟨Q, hQ⟩ : ∃ Q, Q = MQ below (Qgi D A (oc_X10 T (ad 0) (bb ad) (x_K 0) ++ (wkL T ad x_K L18 ++ Z)) r) args s 0 0 A := ⟨_, rfl⟩
  rw [← hQ]
  change W p l e (rmd 0) s m args below meth c s.heap [] 0 0 Q (F0 m 0 ls [])
  have L2 : ∀ (n : Nat) (v1_2 : Int32) (v2_2 : Int32) (H : Heap) (locs : List Loc) (ls : Array Slot) (code : Nat) (o2_2r : Int32), Wd D A s.heap (oc_X10 T (ad 0) (bb ad) (x_K 0) ++ (wkL T ad x_K L18 ++ Z)) H locs → lv_has ls 3 [(0, .ref (ad 0 0)), (1, .int v1_2), (2, .int v2_2)] → f_X10_canBePut_L2 n x_K v1_2 v2_2 = some (code, o2_2r) → (code = 1 → ∀ (H : Heap) (locs : List Loc) (ls : Array Slot), Wd D A s.heap (oc_X10 T (ad 0) (bb ad) (x_K 0) ++ (wkL T ad x_K L18 ++ Z)) H locs → lv_has ls 3 [(0, .ref (ad 0 0)), (1, .int v1_2)] → W p l e (rmd 0) s m args below meth c H locs 0 0 Q (F0 m 37 ls [])) → (code = 2 → ∀ (H : Heap) (locs : List Loc) (ls : Array Slot), Wd D A s.heap (oc_X10 T (ad 0) (bb ad) (x_K 0) ++ (wkL T ad x_K L18 ++ Z)) H locs → lv_has ls 3 [] → W p l e (rmd 0) s m args below meth c H locs 0 0 Q (F0 m 29 ls [])) → W p l e (rmd 0) s m args below meth c H locs 0 0 Q (F0 m 2 ls []) := by
    intro n
    induction n with
    | zero =>
      intro v1_2 v2_2 H locs ls code o2_2r hW hl h k1 k2
      rw [f_X10_canBePut_L2] at h
      cases h
    | succ n ih =>
      intro v1_2 v2_2 H locs ls code o2_2r hW hl h k1 k2
      rw [f_X10_canBePut_L2] at h
      refine lv_iload_n hx hb dX10_canBePut_2 rfl (lv_at hl 2 rfl) ?_
      refine lv_aload_n hx hb dX10_canBePut_3 rfl (lv_at hl 0 rfl) ?_
      refine fg_X10_80 (v := .ref (ad 0 3)) hx hb hts hown hK hW 0 rfl rfl dX10_canBePut_4 ?_
      refine g_alen (v := 2) hx hb hK hW 3 0 rfl rfl rfl dX10_canBePut_7 ?_
      refine lv_icmp_ge (tgt := 37) hx hb dX10_canBePut_8 (by decide) (fun c1 => ?_) (fun c1 => ?_)
      · replace h := ite_t c1 h
        obtain ⟨rfl, rfl⟩ := ret2 h
        exact k1 rfl H locs ls hW (lv_sub hl [0, 1] rfl)
      · replace h := ite_f c1 h
        refine lv_iload_n hx hb dX10_canBePut_11 rfl (lv_at hl 1 rfl) ?_
        refine lv_iload_n hx hb dX10_canBePut_12 rfl (lv_at hl 2 rfl) ?_
        refine lv_ishr hx hb dX10_canBePut_13 ?_
        refine lv_iconst (v := 1) hx hb dX10_canBePut_14 (by decide) ?_
        refine lv_iand hx hb dX10_canBePut_15 ?_
        refine lv_if_eq (tgt := 31) hx hb dX10_canBePut_16 (by decide) (fun c2 => ?_) (fun c2 => ?_)
        · replace h := ite_t c2 h
          obtain ⟨w2_3, ew2_3⟩ : ∃ y : Int32, y = v2_2 + 1 := ⟨_, rfl⟩
          replace h := lb_at ew2_3 h
          refine lv_iinc (v := w2_3) (lv' := [(2, .int w2_3), (0, .ref (ad 0 0)), (1, .int v1_2)]) hx hb dX10_canBePut_31 hl (k := 2) rfl (by rw [ew2_3]; rfl) (by decide) rfl (fun ls hl => ?_)
          refine lv_goto (tgt := 2) hx hb dX10_canBePut_34 (by decide) ?_
          exact ih _ _ H locs ls _ _ hW (lv_sub hl [1, 2, 0] rfl) h k1 k2
        · replace h := ite_f c2 h
          refine lv_aload_n hx hb dX10_canBePut_19 rfl (lv_at hl 0 rfl) ?_
          refine fg_X10_80 (v := .ref (ad 0 3)) hx hb hts hown hK hW 0 rfl rfl dX10_canBePut_20 ?_
          refine lv_iload_n hx hb dX10_canBePut_23 rfl (lv_at hl 2 rfl) ?_
          obtain ⟨g4, h⟩ := grd_s h
          refine g_iald hx hb hK hW 3 rfl g4 dX10_canBePut_24 ?_
          refine lv_iconst (v := (-1)) hx hb dX10_canBePut_25 (by decide) ?_
          refine lv_icmp_ne (tgt := 31) hx hb dX10_canBePut_26 (by decide) (fun c5 => ?_) (fun c5 => ?_)
          · replace h := ite_f c5 h
            obtain ⟨w2_6, ew2_6⟩ : ∃ y : Int32, y = v2_2 + 1 := ⟨_, rfl⟩
            replace h := lb_at ew2_6 h
            refine lv_iinc (v := w2_6) (lv' := [(2, .int w2_6), (0, .ref (ad 0 0)), (1, .int v1_2)]) hx hb dX10_canBePut_31 hl (k := 2) rfl (by rw [ew2_6]; rfl) (by decide) rfl (fun ls hl => ?_)
            refine lv_goto (tgt := 2) hx hb dX10_canBePut_34 (by decide) ?_
            exact ih _ _ H locs ls _ _ hW (lv_sub hl [1, 2, 0] rfl) h k1 k2
          · replace h := ite_t c5 h
            obtain ⟨rfl, rfl⟩ := ret2 h
            exact k2 rfl H locs ls hW (lv_sub hl [] rfl)
  rw [f_X10_canBePut] at h
  suffices hm : ∀ (H : Heap) (locs : List Loc), Wd D A s.heap (oc_X10 T (ad 0) (bb ad) (x_K 0) ++ (wkL T ad x_K L18 ++ Z)) H locs → W p l e (rmd 0) s m args below meth c H locs 0 0 Q (F0 m 0 ls []) from hm _ _ hW
  intro H locs hW
  refine lv_iconst (v := 0) hx hb dX10_canBePut_0 (by decide) ?_
  refine lv_istore_n (lv' := [(2, .int 0), (0, .ref (ad 0 0)), (1, .int p1)]) hx hb dX10_canBePut_1 rfl hl (by decide) rfl (fun ls hl => ?_)
  obtain ⟨code8, o2_u7, qq9, h⟩ := bnd2_s h
  refine L2 200 _ _ H locs ls code8 o2_u7 hW (lv_sub hl [1, 2, 0] rfl) qq9 (fun hc H locs ls hW hl => ?_) (fun hc H locs ls hW hl => ?_)
  · replace h := ite_t hc h
    refine lv_iload_n hx hb dX10_canBePut_37 rfl (lv_at hl 1 rfl) ?_
    refine lv_iconst (v := 3) hx hb dX10_canBePut_38 (by decide) ?_
    refine lv_icmp_ne (tgt := 63) hx hb dX10_canBePut_39 (by decide) (fun c10 => ?_) (fun c10 => ?_)
    · replace h := ite_f c10 h
      refine lv_iconst (v := 1) hx hb dX10_canBePut_63 (by decide) ?_
      refine lv_goto (tgt := 68) hx hb dX10_canBePut_64 (by decide) ?_
      have e90 := ret1 h
      subst r
      rw [hQ]
      exact g_retz hx hb hr hlk hW (by decide) dX10_canBePut_68
    · replace h := ite_t c10 h
      refine lv_aload_n hx hb dX10_canBePut_42 rfl (lv_at hl 0 rfl) ?_
      refine fg_X10_80 (v := .ref (ad 0 3)) hx hb hts hown hK hW 0 rfl rfl dX10_canBePut_43 ?_
      refine lv_iconst (v := 0) hx hb dX10_canBePut_46 (by decide) ?_
      refine g_iald hx hb hK hW 3 rfl (by decide) dX10_canBePut_47 ?_
      refine lv_bipush (v := 100) hx hb dX10_canBePut_48 (by decide) ?_
      refine lv_idiv hx hb dX10_canBePut_50 (by decide) ?_
      refine lv_aload_n hx hb dX10_canBePut_51 rfl (lv_at hl 0 rfl) ?_
      refine fg_X10_80 (v := .ref (ad 0 3)) hx hb hts hown hK hW 0 rfl rfl dX10_canBePut_52 ?_
      refine lv_iconst (v := 1) hx hb dX10_canBePut_55 (by decide) ?_
      refine g_iald hx hb hK hW 3 rfl (by decide) dX10_canBePut_56 ?_
      refine lv_bipush (v := 100) hx hb dX10_canBePut_57 (by decide) ?_
      refine lv_idiv hx hb dX10_canBePut_59 (by decide) ?_
      refine lv_icmp_eq (tgt := 67) hx hb dX10_canBePut_60 (by decide) (fun c11 => ?_) (fun c11 => ?_)
      · replace h := ite_t c11 h
        refine lv_iconst (v := 0) hx hb dX10_canBePut_67 (by decide) ?_
        have e90 := ret1 h
        subst r
        rw [hQ]
        exact g_retz hx hb hr hlk hW (by decide) dX10_canBePut_68
      · replace h := ite_f c11 h
        refine lv_iconst (v := 1) hx hb dX10_canBePut_63 (by decide) ?_
        refine lv_goto (tgt := 68) hx hb dX10_canBePut_64 (by decide) ?_
        have e90 := ret1 h
        subst r
        rw [hQ]
        exact g_retz hx hb hr hlk hW (by decide) dX10_canBePut_68
  · replace h := ite_f (by rw [hc]; decide) h
    refine lv_iconst (v := 0) hx hb dX10_canBePut_29 (by decide) ?_
    have e90 := ret1 h
    subst r
    rw [hQ]
    exact g_retz hx hb hr hlk hW (by decide) dX10_canBePut_30
set_option maxHeartbeats 4000000 in
set_option maxRecDepth 100000 in
theorem c_X10_mendIn (l : Launch) (D : va_G) (T : Nat → ClassId) (A : Nat → Prop) (ad : Nat → Nat → Nat) (hok : okad ad) (Z : va_W) (x_K : Nat → Ob) (p1 : Int32) (p2 : Int32)  (r : Int32) (h : f_X10_mendIn x_K p1 p2 = some r) : Met l yX10_mendIn (Cond.code yX10_mendIn cX10_mendIn 3 (some .int) :: wsL_law) (rmd 1) (Pg D T A (oc_X10 T (ad 0) (bb ad) (x_K 0) ++ (wkL T ad x_K L18 ++ Z)) [.ref (ad 0 0), .int p1, .int p2]) (Qgi D A (oc_X10 T (ad 0) (bb ad) (x_K 0) ++ (wkL T ad x_K L18 ++ Z)) r) 0 0 A := by
  refine Met.ofW (cc := cX10_mendIn) (maxL := 3) (ret := (some .int)) (by decide +kernel) rfl ?_
  intro p e s m args below meth c s₁ B hml hv
  obtain ⟨ha, hP, hK, hD, hN⟩ := hv
  have hx := B.exec
  have hb := B.bytes
  have hr := B.returns
  have hlk := B.notSynchronized
  have hts : ∀ w ∈ wsL_law, w.before args s = true := fun w hw => atoms_spec B.pre w (List.mem_cons_of_mem _ hw)
  have hown : s.vm.findClass RX10 = some m.cls := findClass_of_methodNamed B.named
  obtain ⟨hk0, hk1, hk2, hk3, hk4, hk5, hk6, hk7, hk9, hk10⟩ := id hok
  have hW : Wd D A s.heap (oc_X10 T (ad 0) (bb ad) (x_K 0) ++ (wkL T ad x_K L18 ++ Z)) s.heap [] := ⟨hP, hD, va_S.rf⟩
  have hl := lv_entry [.ref (ad 0 0), .int p1, .int p2] (n := 3) (Nat.le_of_ble_eq_true rfl)
  refine W.eq (en_eq ha) ?_
  generalize (lg_sl [.ref (ad 0 0), .int p1, .int p2] ++ List.replicate (3 - (lg_sl [.ref (ad 0 0), .int p1, .int p2]).length) Slot.unset).toArray = ls at hl ⊢
  have hl : lv_has ls 3 [(0, .ref (ad 0 0)), (1, .int p1), (2, .int p2)] := hl
  clear hP hD B ha
  obtain ⟨Q, hQ⟩ : ∃ Q, Q = MQ below (Qgi D A (oc_X10 T (ad 0) (bb ad) (x_K 0) ++ (wkL T ad x_K L18 ++ Z)) r) args s 0 0 A := ⟨_, rfl⟩
  rw [← hQ]
  change W p l e (rmd 1) s m args below meth c s.heap [] 0 0 Q (F0 m 0 ls [])
  rw [f_X10_mendIn] at h
  suffices hm : ∀ (H : Heap) (locs : List Loc), Wd D A s.heap (oc_X10 T (ad 0) (bb ad) (x_K 0) ++ (wkL T ad x_K L18 ++ Z)) H locs → W p l e (rmd 1) s m args below meth c H locs 0 0 Q (F0 m 0 ls []) from hm _ _ hW
  intro H locs hW
  refine lv_iload_n hx hb dX10_mendIn_0 rfl (lv_at hl 2 rfl) ?_
  refine lv_aload_n hx hb dX10_mendIn_1 rfl (lv_at hl 0 rfl) ?_
  refine fg_X10_80 (v := .ref (ad 0 3)) hx hb hts hown hK hW 0 rfl rfl dX10_mendIn_2 ?_
  refine g_alen (v := 2) hx hb hK hW 3 0 rfl rfl rfl dX10_mendIn_5 ?_
  obtain ⟨r1, qq2, h⟩ := bnd1_s h
  refine cl_X10_87 hx hb hml hown hts hK hN hW (c_X10_isBelow l D T A (oc_X10 T (ad 0) (bb ad) (x_K 0) ++ (wkL T ad x_K L18 ++ Z)) p2 2 r1 qq2) ⟨Nat.le_of_ble_eq_true rfl, Nat.le_of_ble_eq_true rfl⟩ hl.1 rfl (Nat.le_of_ble_eq_true rfl) dX10_mendIn_6 ⟨Nat.zero_le _, Nat.zero_le _⟩ rfl (fun H locs hW => ?_)
  refine lv_if_eq (tgt := 29) hx hb dX10_mendIn_9 (by decide) (fun c3 => ?_) (fun c3 => ?_)
  · replace h := ite_t c3 h
    refine lv_iconst (v := (-1)) hx hb dX10_mendIn_29 (by decide) ?_
    have e90 := ret1 h
    subst r
    rw [hQ]
    exact g_reti hx hb hr hlk hW dX10_mendIn_30
  · replace h := ite_f c3 h
    refine lv_iload_n hx hb dX10_mendIn_12 rfl (lv_at hl 1 rfl) ?_
    refine lv_iload_n hx hb dX10_mendIn_13 rfl (lv_at hl 2 rfl) ?_
    refine lv_ishr hx hb dX10_mendIn_14 ?_
    refine lv_iconst (v := 1) hx hb dX10_mendIn_15 (by decide) ?_
    refine lv_iand hx hb dX10_mendIn_16 ?_
    refine lv_if_eq (tgt := 29) hx hb dX10_mendIn_17 (by decide) (fun c4 => ?_) (fun c4 => ?_)
    · replace h := ite_t c4 h
      refine lv_iconst (v := (-1)) hx hb dX10_mendIn_29 (by decide) ?_
      have e90 := ret1 h
      subst r
      rw [hQ]
      exact g_reti hx hb hr hlk hW dX10_mendIn_30
    · replace h := ite_f c4 h
      refine lv_aload_n hx hb dX10_mendIn_20 rfl (lv_at hl 0 rfl) ?_
      refine fg_X10_80 (v := .ref (ad 0 3)) hx hb hts hown hK hW 0 rfl rfl dX10_mendIn_21 ?_
      refine lv_iload_n hx hb dX10_mendIn_24 rfl (lv_at hl 2 rfl) ?_
      obtain ⟨g5, h⟩ := grd_s h
      refine g_iald hx hb hK hW 3 rfl g5 dX10_mendIn_25 ?_
      refine lv_goto (tgt := 30) hx hb dX10_mendIn_26 (by decide) ?_
      have e90 := ret1 h
      subst r
      rw [hQ]
      exact g_reti hx hb hr hlk hW dX10_mendIn_30
set_option maxHeartbeats 4000000 in
set_option maxRecDepth 100000 in
theorem c_X10_chosenOf (l : Launch) (hfl : l.stackTraces = false) (D : va_G) (T : Nat → ClassId) (A : Nat → Prop) (ad : Nat → Nat → Nat) (hok : okad ad) (Z : va_W) (x_K : Nat → Ob) (p1 : Int32)  (k : Nat) (r : Int32) (x_K9 : Nat → Ob) (h : f_X10_chosenOf x_K p1 = some (k, r, x_K9)) : vx_Met l yX10_chosenOf (Cond.code yX10_chosenOf cX10_chosenOf 6 (some .int) :: wsL_law) (rmx 10 k) (Px D T A (oc_X10 T (ad 0) (bb ad) (x_K 0) ++ (wkL T ad x_K L18 ++ Z)) [.ref (ad 0 0), .int p1]) (Qxi D A (oc_X10 T (ad 0) (bb ad) (x_K9 0) ++ (wkL T ad x_K9 L18 ++ Z)) k r) (XCx D A (oc_X10 T (ad 0) (bb ad) (x_K9 0) ++ (wkL T ad x_K9 L18 ++ Z)) k) (ex1 k) (ex6 k) A := by
  refine vx_ofW (cc := cX10_chosenOf) (maxL := 6) (ret := (some .int)) (by decide +kernel) rfl ?_
  intro p e s m args below meth c s₁ B hml hout hv
  obtain ⟨ha, hP, hK, hD, hN, hE⟩ := hv
  have hx := B.exec
  have hb := B.bytes
  have hr := B.returns
  have hlk := B.notSynchronized
  have hts : ∀ w ∈ wsL_law, w.before args s = true := fun w hw => atoms_spec B.pre w (List.mem_cons_of_mem _ hw)
  have hown : s.vm.findClass RX10 = some m.cls := findClass_of_methodNamed B.named
  obtain ⟨hk0, hk1, hk2, hk3, hk4, hk5, hk6, hk7, hk9, hk10⟩ := id hok
  have hW : Wd D A s.heap (oc_X10 T (ad 0) (bb ad) (x_K 0) ++ (wkL T ad x_K L18 ++ Z)) s.heap [] := ⟨hP, hD, va_S.rf⟩
  have hl := lv_entry [.ref (ad 0 0), .int p1] (n := 6) (Nat.le_of_ble_eq_true rfl)
  refine W.eq (en_eq ha) ?_
  generalize (lg_sl [.ref (ad 0 0), .int p1] ++ List.replicate (6 - (lg_sl [.ref (ad 0 0), .int p1]).length) Slot.unset).toArray = ls at hl ⊢
  have hl : lv_has ls 6 [(0, .ref (ad 0 0)), (1, .int p1)] := hl
  clear hP hD B ha
  obtain ⟨Q, hQ⟩ : ∃ Q, Q = vx_MQ below (Qxi D A (oc_X10 T (ad 0) (bb ad) (x_K9 0) ++ (wkL T ad x_K9 L18 ++ Z)) k r) (XCx D A (oc_X10 T (ad 0) (bb ad) (x_K9 0) ++ (wkL T ad x_K9 L18 ++ Z)) k) args s (ex1 k) (ex6 k) A := ⟨_, rfl⟩
  rw [← hQ]
  change W p l e (rmx 10 k) s m args below meth c s.heap [] 0 0 Q (F0 m 0 ls [])
  have L17 : ∀ (n : Nat) (x_K_17 : Nat → Ob) (v1_17 : Int32) (v2_17 : Int32) (v3_17 : Int32) (v4_17 : Int32) (H : Heap) (locs : List Loc) (ls : Array Slot) (code : Nat) (o2_17r : Int32) (o3_17r : Int32) (o4_17r : Int32) (y_K_17r : Nat → Ob), Wd D A s.heap (oc_X10 T (ad 0) (bb ad) (x_K_17 0) ++ (wkL T ad x_K_17 L18 ++ Z)) H locs → lv_has ls 6 [(0, .ref (ad 0 0)), (1, .int v1_17), (2, .int v2_17), (3, .int v3_17), (4, .int v4_17)] → f_X10_chosenOf_L17 n x_K_17 v1_17 v2_17 v3_17 v4_17 = some (code, o2_17r, o3_17r, o4_17r, y_K_17r) → (code = 1 → ∀ (H : Heap) (locs : List Loc) (ls : Array Slot), Wd D A s.heap (oc_X10 T (ad 0) (bb ad) (y_K_17r 0) ++ (wkL T ad y_K_17r L18 ++ Z)) H locs → lv_has ls 6 [(3, .int o3_17r)] → W p l e (rmx 10 k) s m args below meth c H locs 0 0 Q (F0 m 71 ls [])) → (∀ k1 : Nat, code = 100 + k1 → k = k1 ∧ x_K9 = y_K_17r) → W p l e (rmx 10 k) s m args below meth c H locs 0 0 Q (F0 m 17 ls []) := by
    intro n
    induction n with
    | zero =>
      intro x_K_17 v1_17 v2_17 v3_17 v4_17 H locs ls code o2_17r o3_17r o4_17r y_K_17r hW hl h k1 kx
      rw [f_X10_chosenOf_L17] at h
      cases h
    | succ n ih =>
      intro x_K_17 v1_17 v2_17 v3_17 v4_17 H locs ls code o2_17r o3_17r o4_17r y_K_17r hW hl h k1 kx
      rw [f_X10_chosenOf_L17] at h
      refine lv_iload hx hb dX10_chosenOf_17 (lv_at hl 4 rfl) ?_
      refine lv_iconst (v := 3) hx hb dX10_chosenOf_19 (by decide) ?_
      refine lv_icmp_gt (tgt := 71) hx hb dX10_chosenOf_20 (by decide) (fun c8 => ?_) (fun c8 => ?_)
      · replace h := ite_t c8 h
        obtain ⟨rfl, rfl, rfl, rfl, rfl⟩ := ret5 h
        exact k1 rfl H locs ls hW (lv_sub hl [3] rfl)
      · replace h := ite_f c8 h
        refine lv_aload_n hx hb dX10_chosenOf_23 rfl (lv_at hl 0 rfl) ?_
        refine lv_iload hx hb dX10_chosenOf_24 (lv_at hl 4 rfl) ?_
        obtain ⟨r9, qq10, h⟩ := bnd1_s h
        refine cl_X10_476 hx hb hml hown hts hK hN hW (c_X10_canBePut l D T A ad hok Z x_K_17 v4_17 r9 qq10) ⟨Nat.le_of_ble_eq_true rfl, Nat.le_of_ble_eq_true rfl⟩ hl.1 rfl (Nat.le_of_ble_eq_true rfl) dX10_chosenOf_26 ⟨Nat.zero_le _, Nat.zero_le _⟩ rfl (fun H locs hW => ?_)
        refine lv_if_eq (tgt := 65) hx hb dX10_chosenOf_29 (by decide) (fun c11 => ?_) (fun c11 => ?_)
        · replace h := ite_t c11 h
          obtain ⟨w4_12, ew4_12⟩ : ∃ y : Int32, y = v4_17 + 1 := ⟨_, rfl⟩
          replace h := lb_at ew4_12 h
          refine lv_iinc (v := w4_12) (lv' := [(4, .int w4_12), (0, .ref (ad 0 0)), (1, .int v1_17), (2, .int v2_17), (3, .int v3_17)]) hx hb dX10_chosenOf_65 hl (k := 4) rfl (by rw [ew4_12]; rfl) (by decide) rfl (fun ls hl => ?_)
          refine lv_goto (tgt := 17) hx hb dX10_chosenOf_68 (by decide) ?_
          exact ih _ _ _ _ _ H locs ls _ _ _ _ _ hW (lv_sub hl [1, 2, 3, 4, 0] rfl) h k1 kx
        · replace h := ite_f c11 h
          refine lv_aload_n hx hb dX10_chosenOf_32 rfl (lv_at hl 0 rfl) ?_
          refine lv_iload_n hx hb dX10_chosenOf_33 rfl (lv_at hl 1 rfl) ?_
          refine lv_aload_n hx hb dX10_chosenOf_34 rfl (lv_at hl 0 rfl) ?_
          refine lv_iload hx hb dX10_chosenOf_35 (lv_at hl 4 rfl) ?_
          refine lv_iconst (v := 0) hx hb dX10_chosenOf_37 (by decide) ?_
          obtain ⟨r13, qq14, h⟩ := bnd1_s h
          refine cl_X10_332 hx hb hml hown hts hK hN hW (c_X10_mendIn l D T A ad hok Z x_K_17 v4_17 0 r13 qq14) ⟨Nat.le_of_ble_eq_true rfl, Nat.le_of_ble_eq_true rfl⟩ hl.1 rfl (Nat.le_of_ble_eq_true rfl) dX10_chosenOf_38 ⟨Nat.zero_le _, Nat.zero_le _⟩ rfl (fun H locs hW => ?_)
          refine lv_aload_n hx hb dX10_chosenOf_41 rfl (lv_at hl 0 rfl) ?_
          refine lv_iload hx hb dX10_chosenOf_42 (lv_at hl 4 rfl) ?_
          refine lv_iconst (v := 1) hx hb dX10_chosenOf_44 (by decide) ?_
          obtain ⟨r15, qq16, h⟩ := bnd1_s h
          refine cl_X10_332 hx hb hml hown hts hK hN hW (c_X10_mendIn l D T A ad hok Z x_K_17 v4_17 1 r15 qq16) ⟨Nat.le_of_ble_eq_true rfl, Nat.le_of_ble_eq_true rfl⟩ hl.1 rfl (Nat.le_of_ble_eq_true rfl) dX10_chosenOf_45 ⟨Nat.zero_le _, Nat.zero_le _⟩ rfl (fun H locs hW => ?_)
          obtain ⟨k17, r18, z_K19, qq20, h⟩ := bnd3_s h
          by_cases hk : k17 = 0
          case neg =>
            replace h := ite_f hk h
            obtain ⟨e90, e91, e92, e93, e94⟩ := ret5 h
            obtain ⟨e9k, e9x⟩ := kx k17 e90
            subst k
            subst x_K9
            subst y_K_17r
            rw [hQ]
            exact xcx_X10_434 hk hout hlk (List.Perm.refl _) hx hb hml hown hts hK hN hE hW (c_X10_priceWith l hfl D T A ad hok Z x_K_17 v1_17 r13 r15 k17 r18 z_K19 qq20) ⟨Nat.le_of_ble_eq_true rfl, Nat.le_of_ble_eq_true rfl⟩ rfl hl.1 rfl (Nat.le_of_ble_eq_true rfl) dX10_chosenOf_48
          replace h := ite_t hk h
          subst hk
          refine xc0_X10_434 hx hb hml hown hts hK hN hE hW (c_X10_priceWith l hfl D T A ad hok Z x_K_17 v1_17 r13 r15 0 r18 z_K19 qq20) ⟨Nat.le_of_ble_eq_true rfl, Nat.le_of_ble_eq_true rfl⟩ rfl hl.1 rfl (Nat.le_of_ble_eq_true rfl) dX10_chosenOf_48 ⟨Nat.zero_le _, Nat.zero_le _⟩ (fun H locs hW => ?_)
          refine lv_istore (lv' := [(5, .int r18), (0, .ref (ad 0 0)), (1, .int v1_17), (2, .int v2_17), (3, .int v3_17), (4, .int v4_17)]) hx hb dX10_chosenOf_51 hl (by decide) rfl (fun ls hl => ?_)
          refine lv_iload hx hb dX10_chosenOf_53 (lv_at hl 0 rfl) ?_
          refine lv_iload_n hx hb dX10_chosenOf_55 rfl (lv_at hl 3 rfl) ?_
          refine lv_icmp_ge (tgt := 65) hx hb dX10_chosenOf_56 (by decide) (fun c21 => ?_) (fun c21 => ?_)
          · replace h := ite_t c21 h
            obtain ⟨w4_22, ew4_22⟩ : ∃ y : Int32, y = v4_17 + 1 := ⟨_, rfl⟩
            replace h := lb_at ew4_22 h
            refine lv_iinc (v := w4_22) (lv' := [(4, .int w4_22), (5, .int r18), (0, .ref (ad 0 0)), (1, .int v1_17), (2, .int v2_17), (3, .int v3_17)]) hx hb dX10_chosenOf_65 hl (k := 5) rfl (by rw [ew4_22]; rfl) (by decide) rfl (fun ls hl => ?_)
            refine lv_goto (tgt := 17) hx hb dX10_chosenOf_68 (by decide) ?_
            exact ih _ _ _ _ _ H locs ls _ _ _ _ _ hW (lv_sub hl [2, 3, 4, 5, 0] rfl) h k1 kx
          · replace h := ite_f c21 h
            refine lv_iload hx hb dX10_chosenOf_59 (lv_at hl 0 rfl) ?_
            refine lv_istore_n (lv' := [(2, .int r18), (5, .int r18), (0, .ref (ad 0 0)), (1, .int v1_17), (3, .int v3_17), (4, .int v4_17)]) hx hb dX10_chosenOf_61 rfl hl (by decide) rfl (fun ls hl => ?_)
            refine lv_iload hx hb dX10_chosenOf_62 (lv_at hl 5 rfl) ?_
            refine lv_istore_n (lv' := [(3, .int v4_17), (2, .int r18), (5, .int r18), (0, .ref (ad 0 0)), (1, .int v1_17), (4, .int v4_17)]) hx hb dX10_chosenOf_64 rfl hl (by decide) rfl (fun ls hl => ?_)
            obtain ⟨w4_23, ew4_23⟩ : ∃ y : Int32, y = v4_17 + 1 := ⟨_, rfl⟩
            replace h := lb_at ew4_23 h
            refine lv_iinc (v := w4_23) (lv' := [(4, .int w4_23), (3, .int v4_17), (2, .int r18), (5, .int r18), (0, .ref (ad 0 0)), (1, .int v1_17)]) hx hb dX10_chosenOf_65 hl (k := 5) rfl (by rw [ew4_23]; rfl) (by decide) rfl (fun ls hl => ?_)
            refine lv_goto (tgt := 17) hx hb dX10_chosenOf_68 (by decide) ?_
            exact ih _ _ _ _ _ H locs ls _ _ _ _ _ hW (lv_sub hl [4, 5, 2, 1, 0] rfl) h k1 kx
  rw [f_X10_chosenOf] at h
  suffices hm : ∀ (H : Heap) (locs : List Loc), Wd D A s.heap (oc_X10 T (ad 0) (bb ad) (x_K 0) ++ (wkL T ad x_K L18 ++ Z)) H locs → W p l e (rmx 10 k) s m args below meth c H locs 0 0 Q (F0 m 0 ls []) from hm _ _ hW
  intro H locs hW
  refine lv_aload_n hx hb dX10_chosenOf_0 rfl (lv_at hl 0 rfl) ?_
  refine lv_iload_n hx hb dX10_chosenOf_1 rfl (lv_at hl 1 rfl) ?_
  obtain ⟨k1, r2, qq3, h⟩ := bnd2_s h
  by_cases hk : k1 = 0
  case neg =>
    replace h := ite_f hk h
    obtain ⟨e90, e91, e92⟩ := ret3 h
    subst k
    subst x_K9
    rw [hQ]
    exact xcx_X10_198 hk hout hlk (List.Perm.refl _) hx hb hml hown hts hK hN hE hW (c_X10_sentenceAt l hfl D T A ad hok Z x_K p1 k1 r2 qq3) ⟨Nat.le_of_ble_eq_true rfl, Nat.le_of_ble_eq_true rfl⟩ rfl hl.1 rfl (Nat.le_of_ble_eq_true rfl) dX10_chosenOf_2
  replace h := ite_t hk h
  subst hk
  refine xc0_X10_198 hx hb hml hown hts hK hN hE hW (c_X10_sentenceAt l hfl D T A ad hok Z x_K p1 0 r2 qq3) ⟨Nat.le_of_ble_eq_true rfl, Nat.le_of_ble_eq_true rfl⟩ rfl hl.1 rfl (Nat.le_of_ble_eq_true rfl) dX10_chosenOf_2 ⟨Nat.zero_le _, Nat.zero_le _⟩ (fun H locs hW => ?_)
  obtain ⟨g4, h⟩ := grd_s h
  have h4hs5 : r2 < 4 := of_decide_eq_true g4
  have hs5 : r2 < 5 := by omega
  refine fg_X10_426 (v := .ref (ad (14 + r2) 0)) hx hb hts hN hown hK (hW.perm (fo1 (k1 := (9 + r2)) (mS hs5) (cS hs5))) 0 rfl (by rw [← hk10 _ hs5]; rfl) dX10_chosenOf_5 ?_
  obtain ⟨r6, qq7, h⟩ := bnd1_s h
  replace hW := hW.perm (fo1 (k1 := (14 + r2)) (mC hs5) (cC hs5))
  refine cl_X10_280 hx hb hml hown hts hK hN hW (c_X0_wholePrice l D T A (ad (14 + r2)) (oc_X10 T (ad 0) (bb ad) (x_K 0) ++ (wkL T ad x_K (L18.erase (14 + r2)) ++ Z)) (x_K (14 + r2)) r6 qq7) ⟨Nat.le_of_ble_eq_true rfl, Nat.le_of_ble_eq_true rfl⟩ hl.1 rfl (Nat.le_of_ble_eq_true rfl) dX10_chosenOf_8 ⟨Nat.zero_le _, Nat.zero_le _⟩ rfl (fun H locs hW => ?_)
  replace hW := hW.perm (fo1 (k1 := (14 + r2)) (mC hs5) (cC hs5)).symm
  refine lv_istore_n (lv' := [(2, .int r6), (0, .ref (ad 0 0)), (1, .int p1)]) hx hb dX10_chosenOf_11 rfl hl (by decide) rfl (fun ls hl => ?_)
  refine lv_iconst (v := 0) hx hb dX10_chosenOf_12 (by decide) ?_
  refine lv_istore_n (lv' := [(3, .int 0), (2, .int r6), (0, .ref (ad 0 0)), (1, .int p1)]) hx hb dX10_chosenOf_13 rfl hl (by decide) rfl (fun ls hl => ?_)
  refine lv_iconst (v := 1) hx hb dX10_chosenOf_14 (by decide) ?_
  refine lv_istore (lv' := [(4, .int 1), (3, .int 0), (2, .int r6), (0, .ref (ad 0 0)), (1, .int p1)]) hx hb dX10_chosenOf_15 hl (by decide) rfl (fun ls hl => ?_)
  obtain ⟨code25, o2_u24, o3_u24, o4_u24, y_K_u24, qq26, h⟩ := bnd5_s h
  refine L17 200 _ _ _ _ _ H locs ls code25 o2_u24 o3_u24 o4_u24 y_K_u24 hW (lv_sub hl [3, 4, 2, 1, 0] rfl) qq26 (fun hc H locs ls hW hl => ?_) (fun k1 hc => ?_)
  · replace h := ite_f (by omega) h
    refine lv_iload_n hx hb dX10_chosenOf_71 rfl (lv_at hl 0 rfl) ?_
    obtain ⟨e90, e91, e92⟩ := ret3 h
    subst k
    subst r
    subst x_K9
    rw [hQ]
    exact x_reti hx hb hr hlk hW dX10_chosenOf_72
  · replace h := ite_t (by omega) h
    obtain ⟨e90, e91, e92⟩ := ret3 h
    exact ⟨by omega, e92⟩
set_option maxHeartbeats 4000000 in
set_option maxRecDepth 100000 in
theorem c_X10_best (l : Launch) (hfl : l.stackTraces = false) (D : va_G) (T : Nat → ClassId) (A : Nat → Prop) (ad : Nat → Nat → Nat) (hok : okad ad) (Z : va_W) (x_K : Nat → Ob) (p1 : Int32)  (k : Nat) (r : Int32) (x_K9 : Nat → Ob) (h : f_X10_best x_K p1 = some (k, r, x_K9)) : vx_Met l yX10_best (Cond.code yX10_best cX10_best 3 (some .int) :: wsL_law) (rmx 11 k) (Px D T A (oc_X10 T (ad 0) (bb ad) (x_K 0) ++ (wkL T ad x_K L18 ++ Z)) [.ref (ad 0 0), .int p1]) (Qxi D A (oc_X10 T (ad 0) (bb ad) (x_K9 0) ++ (wkL T ad x_K9 L18 ++ Z)) k r) (XCx D A (oc_X10 T (ad 0) (bb ad) (x_K9 0) ++ (wkL T ad x_K9 L18 ++ Z)) k) (ex1 k) (ex6 k) A := by
  refine vx_ofW (cc := cX10_best) (maxL := 3) (ret := (some .int)) (by decide +kernel) rfl ?_
  intro p e s m args below meth c s₁ B hml hout hv
  obtain ⟨ha, hP, hK, hD, hN, hE⟩ := hv
  have hx := B.exec
  have hb := B.bytes
  have hr := B.returns
  have hlk := B.notSynchronized
  have hts : ∀ w ∈ wsL_law, w.before args s = true := fun w hw => atoms_spec B.pre w (List.mem_cons_of_mem _ hw)
  have hown : s.vm.findClass RX10 = some m.cls := findClass_of_methodNamed B.named
  obtain ⟨hk0, hk1, hk2, hk3, hk4, hk5, hk6, hk7, hk9, hk10⟩ := id hok
  have hW : Wd D A s.heap (oc_X10 T (ad 0) (bb ad) (x_K 0) ++ (wkL T ad x_K L18 ++ Z)) s.heap [] := ⟨hP, hD, va_S.rf⟩
  have hl := lv_entry [.ref (ad 0 0), .int p1] (n := 3) (Nat.le_of_ble_eq_true rfl)
  refine W.eq (en_eq ha) ?_
  generalize (lg_sl [.ref (ad 0 0), .int p1] ++ List.replicate (3 - (lg_sl [.ref (ad 0 0), .int p1]).length) Slot.unset).toArray = ls at hl ⊢
  have hl : lv_has ls 3 [(0, .ref (ad 0 0)), (1, .int p1)] := hl
  clear hP hD B ha
  obtain ⟨Q, hQ⟩ : ∃ Q, Q = vx_MQ below (Qxi D A (oc_X10 T (ad 0) (bb ad) (x_K9 0) ++ (wkL T ad x_K9 L18 ++ Z)) k r) (XCx D A (oc_X10 T (ad 0) (bb ad) (x_K9 0) ++ (wkL T ad x_K9 L18 ++ Z)) k) args s (ex1 k) (ex6 k) A := ⟨_, rfl⟩
  rw [← hQ]
  change W p l e (rmx 11 k) s m args below meth c s.heap [] 0 0 Q (F0 m 0 ls [])
  rw [f_X10_best] at h
  suffices hm : ∀ (H : Heap) (locs : List Loc), Wd D A s.heap (oc_X10 T (ad 0) (bb ad) (x_K 0) ++ (wkL T ad x_K L18 ++ Z)) H locs → W p l e (rmx 11 k) s m args below meth c H locs 0 0 Q (F0 m 0 ls []) from hm _ _ hW
  intro H locs hW
  refine lv_aload_n hx hb dX10_best_0 rfl (lv_at hl 0 rfl) ?_
  refine lv_iload_n hx hb dX10_best_1 rfl (lv_at hl 1 rfl) ?_
  obtain ⟨k1, r2, z_K3, qq4, h⟩ := bnd3_s h
  by_cases hk : k1 = 0
  case neg =>
    replace h := ite_f hk h
    obtain ⟨e90, e91, e92⟩ := ret3 h
    subst k
    subst x_K9
    rw [hQ]
    exact xcx_X10_251 hk hout hlk (List.Perm.refl _) hx hb hml hown hts hK hN hE hW (c_X10_readAsNeeded l hfl D T A ad hok Z x_K p1 k1 r2 z_K3 qq4) ⟨Nat.le_of_ble_eq_true rfl, Nat.le_of_ble_eq_true rfl⟩ rfl hl.1 rfl (Nat.le_of_ble_eq_true rfl) dX10_best_2
  replace h := ite_t hk h
  subst hk
  refine xc0_X10_251 hx hb hml hown hts hK hN hE hW (c_X10_readAsNeeded l hfl D T A ad hok Z x_K p1 0 r2 z_K3 qq4) ⟨Nat.le_of_ble_eq_true rfl, Nat.le_of_ble_eq_true rfl⟩ rfl hl.1 rfl (Nat.le_of_ble_eq_true rfl) dX10_best_2 ⟨Nat.zero_le _, Nat.zero_le _⟩ (fun H locs hW => ?_)
  obtain ⟨g5, h⟩ := grd_s h
  have h4hs6 : r2 < 4 := of_decide_eq_true g5
  have hs6 : r2 < 5 := by omega
  refine lv_astore_n (lv' := [(2, .ref (ad (14 + r2) 0)), (0, .ref (ad 0 0)), (1, .int p1)]) hx hb dX10_best_5 rfl hl (by decide) rfl (fun ls hl => ?_)
  refine lv_aload_n hx hb dX10_best_6 rfl (lv_at hl 1 rfl) ?_
  refine fg_X10_47 (v := .ref (ad 5 0)) hx hb hts hown hK hW 0 rfl (by rw [← hk5]; rfl) dX10_best_7 ?_
  refine lv_aload_n hx hb dX10_best_10 rfl (lv_at hl 0 rfl) ?_
  obtain ⟨y_o7, qq8, h⟩ := bnd1_s h
  replace hW := hW.perm (fo2 (k1 := 5) (k2 := (14 + r2)) (by decide) (mC hs6) (by omega) rfl (cC hs6))
  refine cl_X10_284 hx hb hml hown hts hK hN hW (c_X9_grow l D T A (ad 5) (ad (14 + r2)) (oc_X10 T (ad 0) (bb ad) (z_K3 0) ++ (wkL T ad z_K3 ((L18.erase 5).erase (14 + r2)) ++ Z)) (z_K3 5) (z_K3 (14 + r2)) y_o7 qq8) ⟨Nat.le_of_ble_eq_true rfl, Nat.le_of_ble_eq_true rfl⟩ hl.1 rfl (Nat.le_of_ble_eq_true rfl) dX10_best_11 ⟨Nat.zero_le _, Nat.zero_le _⟩ rfl (fun H locs hW => ?_)
  obtain ⟨z_K9, ez_K9⟩ : ∃ y : Nat → Ob, y = va_up z_K3 5 y_o7 := ⟨_, rfl⟩
  replace h := lb_at ez_K9 h
  replace hW := hW.perm (ba2 (K' := z_K9) (k1 := 5) (k2 := (14 + r2)) (by decide) (mC hs6) (by omega) (by rw [ez_K9, va_up_ne _ _ (by omega)]) (fun k9 _ n0 n1 => by rw [ez_K9, va_up_ne _ _ n0]) (by rw [ez_K9, va_up_self]; exact rfl) (by rw [ez_K9, va_up_ne _ _ (by omega)]; exact (cC hs6)))
  refine lv_aload_n hx hb dX10_best_14 rfl (lv_at hl 1 rfl) ?_
  refine fg_X10_80 (v := .ref (ad 0 3)) hx hb hts hown hK hW 0 rfl rfl dX10_best_15 ?_
  refine lv_iconst (v := 0) hx hb dX10_best_18 (by decide) ?_
  refine lv_aload_n hx hb dX10_best_19 rfl (lv_at hl 1 rfl) ?_
  refine lv_iload_n hx hb dX10_best_20 rfl (lv_at hl 2 rfl) ?_
  refine lv_aload_n hx hb dX10_best_21 rfl (lv_at hl 1 rfl) ?_
  refine fg_X10_47 (v := .ref (ad 5 0)) hx hb hts hown hK hW 0 rfl (by rw [← hk5]; rfl) dX10_best_22 ?_
  refine lv_aload_n hx hb dX10_best_25 rfl (lv_at hl 0 rfl) ?_
  refine lv_iconst (v := 0) hx hb dX10_best_26 (by decide) ?_
  obtain ⟨r10, qq11, h⟩ := bnd1_s h
  replace hW := hW.perm (fo2 (k1 := 5) (k2 := (14 + r2)) (by decide) (mC hs6) (by omega) rfl (cC hs6))
  refine cl_X10_326 hx hb hml hown hts hK hN hW (c_X9_findRelaxed l D T A (ad 5) (ad (14 + r2)) (oc_X10 T (ad 0) (bb ad) (z_K9 0) ++ (wkL T ad z_K9 ((L18.erase 5).erase (14 + r2)) ++ Z)) (z_K9 5) (z_K9 (14 + r2)) 0 r10 qq11) ⟨Nat.le_of_ble_eq_true rfl, Nat.le_of_ble_eq_true rfl⟩ hl.1 rfl (Nat.le_of_ble_eq_true rfl) dX10_best_27 ⟨Nat.zero_le _, Nat.zero_le _⟩ rfl (fun H locs hW => ?_)
  replace hW := hW.perm (fo2 (k1 := 5) (k2 := (14 + r2)) (by decide) (mC hs6) (by omega) rfl (cC hs6)).symm
  obtain ⟨k12, r13, z_K14, qq15, h⟩ := bnd3_s h
  by_cases hk : k12 = 0
  case neg =>
    replace h := ite_f hk h
    obtain ⟨e90, e91, e92⟩ := ret3 h
    subst k
    subst x_K9
    rw [hQ]
    exact xcx_X10_323 hk hout hlk (List.Perm.refl _) hx hb hml hown hts hK hN hE hW (c_X10_mendOf l hfl D T A ad hok Z z_K9 p1 r10 k12 r13 z_K14 qq15) ⟨Nat.le_of_ble_eq_true rfl, Nat.le_of_ble_eq_true rfl⟩ rfl hl.1 rfl (Nat.le_of_ble_eq_true rfl) dX10_best_30
  replace h := ite_t hk h
  subst hk
  refine xc0_X10_323 hx hb hml hown hts hK hN hE hW (c_X10_mendOf l hfl D T A ad hok Z z_K9 p1 r10 0 r13 z_K14 qq15) ⟨Nat.le_of_ble_eq_true rfl, Nat.le_of_ble_eq_true rfl⟩ rfl hl.1 rfl (Nat.le_of_ble_eq_true rfl) dX10_best_30 ⟨Nat.zero_le _, Nat.zero_le _⟩ (fun H locs hW => ?_)
  refine g_iast (ws9 := oc_X10 T (ad 0) (bb ad) (((va_up z_K14 0 (upo (z_K14 0) 11 (0 : Int32).toNatClampNeg r13))) 0) ++ (wkL T ad ((va_up z_K14 0 (upo (z_K14 0) 11 (0 : Int32).toNatClampNeg r13))) L18 ++ Z)) hx hb hK hW 3 rfl (by decide) s10b dX10_best_33 (fun H locs hW => ?_)
  obtain ⟨z_K16, ez_K16⟩ : ∃ y : Nat → Ob, y = va_up z_K14 0 (upo (z_K14 0) 11 (0 : Int32).toNatClampNeg r13) := ⟨_, rfl⟩
  replace h := lb_at ez_K16 h
  rw [← ez_K16] at hW
  refine lv_aload_n hx hb dX10_best_34 rfl (lv_at hl 1 rfl) ?_
  refine fg_X10_80 (v := .ref (ad 0 3)) hx hb hts hown hK hW 0 rfl rfl dX10_best_35 ?_
  refine lv_iconst (v := 1) hx hb dX10_best_38 (by decide) ?_
  refine lv_aload_n hx hb dX10_best_39 rfl (lv_at hl 1 rfl) ?_
  refine lv_iload_n hx hb dX10_best_40 rfl (lv_at hl 2 rfl) ?_
  refine lv_aload_n hx hb dX10_best_41 rfl (lv_at hl 1 rfl) ?_
  refine fg_X10_47 (v := .ref (ad 5 0)) hx hb hts hown hK hW 0 rfl (by rw [← hk5]; rfl) dX10_best_42 ?_
  refine lv_aload_n hx hb dX10_best_45 rfl (lv_at hl 0 rfl) ?_
  refine lv_iconst (v := 1) hx hb dX10_best_46 (by decide) ?_
  obtain ⟨r17, qq18, h⟩ := bnd1_s h
  replace hW := hW.perm (fo2 (k1 := 5) (k2 := (14 + r2)) (by decide) (mC hs6) (by omega) rfl (cC hs6))
  refine cl_X10_326 hx hb hml hown hts hK hN hW (c_X9_findRelaxed l D T A (ad 5) (ad (14 + r2)) (oc_X10 T (ad 0) (bb ad) (z_K16 0) ++ (wkL T ad z_K16 ((L18.erase 5).erase (14 + r2)) ++ Z)) (z_K16 5) (z_K16 (14 + r2)) 1 r17 qq18) ⟨Nat.le_of_ble_eq_true rfl, Nat.le_of_ble_eq_true rfl⟩ hl.1 rfl (Nat.le_of_ble_eq_true rfl) dX10_best_47 ⟨Nat.zero_le _, Nat.zero_le _⟩ rfl (fun H locs hW => ?_)
  replace hW := hW.perm (fo2 (k1 := 5) (k2 := (14 + r2)) (by decide) (mC hs6) (by omega) rfl (cC hs6)).symm
  obtain ⟨k19, r20, z_K21, qq22, h⟩ := bnd3_s h
  by_cases hk : k19 = 0
  case neg =>
    replace h := ite_f hk h
    obtain ⟨e90, e91, e92⟩ := ret3 h
    subst k
    subst x_K9
    rw [hQ]
    exact xcx_X10_323 hk hout hlk (List.Perm.refl _) hx hb hml hown hts hK hN hE hW (c_X10_mendOf l hfl D T A ad hok Z z_K16 p1 r17 k19 r20 z_K21 qq22) ⟨Nat.le_of_ble_eq_true rfl, Nat.le_of_ble_eq_true rfl⟩ rfl hl.1 rfl (Nat.le_of_ble_eq_true rfl) dX10_best_50
  replace h := ite_t hk h
  subst hk
  refine xc0_X10_323 hx hb hml hown hts hK hN hE hW (c_X10_mendOf l hfl D T A ad hok Z z_K16 p1 r17 0 r20 z_K21 qq22) ⟨Nat.le_of_ble_eq_true rfl, Nat.le_of_ble_eq_true rfl⟩ rfl hl.1 rfl (Nat.le_of_ble_eq_true rfl) dX10_best_50 ⟨Nat.zero_le _, Nat.zero_le _⟩ (fun H locs hW => ?_)
  refine g_iast (ws9 := oc_X10 T (ad 0) (bb ad) (((va_up z_K21 0 (upo (z_K21 0) 11 (1 : Int32).toNatClampNeg r20))) 0) ++ (wkL T ad ((va_up z_K21 0 (upo (z_K21 0) 11 (1 : Int32).toNatClampNeg r20))) L18 ++ Z)) hx hb hK hW 3 rfl (by decide) s10b dX10_best_53 (fun H locs hW => ?_)
  obtain ⟨z_K23, ez_K23⟩ : ∃ y : Nat → Ob, y = va_up z_K21 0 (upo (z_K21 0) 11 (1 : Int32).toNatClampNeg r20) := ⟨_, rfl⟩
  replace h := lb_at ez_K23 h
  rw [← ez_K23] at hW
  refine lv_aload_n hx hb dX10_best_54 rfl (lv_at hl 1 rfl) ?_
  refine lv_iload_n hx hb dX10_best_55 rfl (lv_at hl 2 rfl) ?_
  obtain ⟨k24, r25, z_K26, qq27, h⟩ := bnd3_s h
  by_cases hk : k24 = 0
  case neg =>
    replace h := ite_f hk h
    obtain ⟨e90, e91, e92⟩ := ret3 h
    subst k
    subst x_K9
    rw [hQ]
    exact xcx_X10_329 hk hout hlk (List.Perm.refl _) hx hb hml hown hts hK hN hE hW (c_X10_chosenOf l hfl D T A ad hok Z z_K23 p1 k24 r25 z_K26 qq27) ⟨Nat.le_of_ble_eq_true rfl, Nat.le_of_ble_eq_true rfl⟩ rfl hl.1 rfl (Nat.le_of_ble_eq_true rfl) dX10_best_56
  replace h := ite_t hk h
  subst hk
  refine xc0_X10_329 hx hb hml hown hts hK hN hE hW (c_X10_chosenOf l hfl D T A ad hok Z z_K23 p1 0 r25 z_K26 qq27) ⟨Nat.le_of_ble_eq_true rfl, Nat.le_of_ble_eq_true rfl⟩ rfl hl.1 rfl (Nat.le_of_ble_eq_true rfl) dX10_best_56 ⟨Nat.zero_le _, Nat.zero_le _⟩ (fun H locs hW => ?_)
  obtain ⟨e90, e91, e92⟩ := ret3 h
  subst k
  subst r
  subst x_K9
  rw [hQ]
  exact x_reti hx hb hr hlk hW dX10_best_59
set_option maxHeartbeats 4000000 in
set_option maxRecDepth 100000 in
theorem c_X10_mendAll (l : Launch) (hfl : l.stackTraces = false) (D : va_G) (T : Nat → ClassId) (A : Nat → Prop) (ad : Nat → Nat → Nat) (hok : okad ad) (Z : va_W) (x_K : Nat → Ob) (p1 : Int32)  (k : Nat) (r : Int32) (x_K9 : Nat → Ob) (h : f_X10_mendAll x_K p1 = some (k, r, x_K9)) : vx_Met l yX10_mendAll (Cond.code yX10_mendAll cX10_mendAll 5 (some .int) :: wsL_law) (rmx 11 k) (Px D T A (oc_X10 T (ad 0) (bb ad) (x_K 0) ++ (wkL T ad x_K L18 ++ Z)) [.ref (ad 0 0), .int p1]) (Qxi D A (oc_X10 T (ad 0) (bb ad) (x_K9 0) ++ (wkL T ad x_K9 L18 ++ Z)) k r) (XCx D A (oc_X10 T (ad 0) (bb ad) (x_K9 0) ++ (wkL T ad x_K9 L18 ++ Z)) k) (ex1 k) (ex6 k) A := by
  refine vx_ofW (cc := cX10_mendAll) (maxL := 5) (ret := (some .int)) (by decide +kernel) rfl ?_
  intro p e s m args below meth c s₁ B hml hout hv
  obtain ⟨ha, hP, hK, hD, hN, hE⟩ := hv
  have hx := B.exec
  have hb := B.bytes
  have hr := B.returns
  have hlk := B.notSynchronized
  have hts : ∀ w ∈ wsL_law, w.before args s = true := fun w hw => atoms_spec B.pre w (List.mem_cons_of_mem _ hw)
  have hown : s.vm.findClass RX10 = some m.cls := findClass_of_methodNamed B.named
  obtain ⟨hk0, hk1, hk2, hk3, hk4, hk5, hk6, hk7, hk9, hk10⟩ := id hok
  have hW : Wd D A s.heap (oc_X10 T (ad 0) (bb ad) (x_K 0) ++ (wkL T ad x_K L18 ++ Z)) s.heap [] := ⟨hP, hD, va_S.rf⟩
  have hl := lv_entry [.ref (ad 0 0), .int p1] (n := 5) (Nat.le_of_ble_eq_true rfl)
  refine W.eq (en_eq ha) ?_
  generalize (lg_sl [.ref (ad 0 0), .int p1] ++ List.replicate (5 - (lg_sl [.ref (ad 0 0), .int p1]).length) Slot.unset).toArray = ls at hl ⊢
  have hl : lv_has ls 5 [(0, .ref (ad 0 0)), (1, .int p1)] := hl
  clear hP hD B ha
  obtain ⟨Q, hQ⟩ : ∃ Q, Q = vx_MQ below (Qxi D A (oc_X10 T (ad 0) (bb ad) (x_K9 0) ++ (wkL T ad x_K9 L18 ++ Z)) k r) (XCx D A (oc_X10 T (ad 0) (bb ad) (x_K9 0) ++ (wkL T ad x_K9 L18 ++ Z)) k) args s (ex1 k) (ex6 k) A := ⟨_, rfl⟩
  rw [← hQ]
  change W p l e (rmx 11 k) s m args below meth c s.heap [] 0 0 Q (F0 m 0 ls [])
  rw [f_X10_mendAll] at h
  suffices hm : ∀ (H : Heap) (locs : List Loc), Wd D A s.heap (oc_X10 T (ad 0) (bb ad) (x_K 0) ++ (wkL T ad x_K L18 ++ Z)) H locs → W p l e (rmx 11 k) s m args below meth c H locs 0 0 Q (F0 m 0 ls []) from hm _ _ hW
  intro H locs hW
  refine lv_aload_n hx hb dX10_mendAll_0 rfl (lv_at hl 0 rfl) ?_
  refine lv_iload_n hx hb dX10_mendAll_1 rfl (lv_at hl 1 rfl) ?_
  obtain ⟨k1, r2, z_K3, qq4, h⟩ := bnd3_s h
  by_cases hk : k1 = 0
  case neg =>
    replace h := ite_f hk h
    obtain ⟨e90, e91, e92⟩ := ret3 h
    subst k
    subst x_K9
    rw [hQ]
    exact xcx_X10_251 hk hout hlk (List.Perm.refl _) hx hb hml hown hts hK hN hE hW (c_X10_readAsNeeded l hfl D T A ad hok Z x_K p1 k1 r2 z_K3 qq4) ⟨Nat.le_of_ble_eq_true rfl, Nat.le_of_ble_eq_true rfl⟩ rfl hl.1 rfl (Nat.le_of_ble_eq_true rfl) dX10_mendAll_2
  replace h := ite_t hk h
  subst hk
  refine xc0_X10_251 hx hb hml hown hts hK hN hE hW (c_X10_readAsNeeded l hfl D T A ad hok Z x_K p1 0 r2 z_K3 qq4) ⟨Nat.le_of_ble_eq_true rfl, Nat.le_of_ble_eq_true rfl⟩ rfl hl.1 rfl (Nat.le_of_ble_eq_true rfl) dX10_mendAll_2 ⟨Nat.zero_le _, Nat.zero_le _⟩ (fun H locs hW => ?_)
  obtain ⟨g5, h⟩ := grd_s h
  have h4hs6 : r2 < 4 := of_decide_eq_true g5
  have hs6 : r2 < 5 := by omega
  refine lv_astore_n (lv' := [(2, .ref (ad (14 + r2) 0)), (0, .ref (ad 0 0)), (1, .int p1)]) hx hb dX10_mendAll_5 rfl hl (by decide) rfl (fun ls hl => ?_)
  refine lv_aload_n hx hb dX10_mendAll_6 rfl (lv_at hl 1 rfl) ?_
  refine fg_X10_47 (v := .ref (ad 5 0)) hx hb hts hown hK hW 0 rfl (by rw [← hk5]; rfl) dX10_mendAll_7 ?_
  refine lv_aload_n hx hb dX10_mendAll_10 rfl (lv_at hl 0 rfl) ?_
  obtain ⟨y_o7, qq8, h⟩ := bnd1_s h
  replace hW := hW.perm (fo2 (k1 := 5) (k2 := (14 + r2)) (by decide) (mC hs6) (by omega) rfl (cC hs6))
  refine cl_X10_284 hx hb hml hown hts hK hN hW (c_X9_grow l D T A (ad 5) (ad (14 + r2)) (oc_X10 T (ad 0) (bb ad) (z_K3 0) ++ (wkL T ad z_K3 ((L18.erase 5).erase (14 + r2)) ++ Z)) (z_K3 5) (z_K3 (14 + r2)) y_o7 qq8) ⟨Nat.le_of_ble_eq_true rfl, Nat.le_of_ble_eq_true rfl⟩ hl.1 rfl (Nat.le_of_ble_eq_true rfl) dX10_mendAll_11 ⟨Nat.zero_le _, Nat.zero_le _⟩ rfl (fun H locs hW => ?_)
  obtain ⟨z_K9, ez_K9⟩ : ∃ y : Nat → Ob, y = va_up z_K3 5 y_o7 := ⟨_, rfl⟩
  replace h := lb_at ez_K9 h
  replace hW := hW.perm (ba2 (K' := z_K9) (k1 := 5) (k2 := (14 + r2)) (by decide) (mC hs6) (by omega) (by rw [ez_K9, va_up_ne _ _ (by omega)]) (fun k9 _ n0 n1 => by rw [ez_K9, va_up_ne _ _ n0]) (by rw [ez_K9, va_up_self]; exact rfl) (by rw [ez_K9, va_up_ne _ _ (by omega)]; exact (cC hs6)))
  refine lv_aload_n hx hb dX10_mendAll_14 rfl (lv_at hl 1 rfl) ?_
  refine fg_X10_80 (v := .ref (ad 0 3)) hx hb hts hown hK hW 0 rfl rfl dX10_mendAll_15 ?_
  refine lv_iconst (v := 0) hx hb dX10_mendAll_18 (by decide) ?_
  refine lv_aload_n hx hb dX10_mendAll_19 rfl (lv_at hl 1 rfl) ?_
  refine lv_iload_n hx hb dX10_mendAll_20 rfl (lv_at hl 2 rfl) ?_
  refine lv_aload_n hx hb dX10_mendAll_21 rfl (lv_at hl 1 rfl) ?_
  refine fg_X10_47 (v := .ref (ad 5 0)) hx hb hts hown hK hW 0 rfl (by rw [← hk5]; rfl) dX10_mendAll_22 ?_
  refine lv_aload_n hx hb dX10_mendAll_25 rfl (lv_at hl 0 rfl) ?_
  refine lv_iconst (v := 0) hx hb dX10_mendAll_26 (by decide) ?_
  obtain ⟨r10, qq11, h⟩ := bnd1_s h
  replace hW := hW.perm (fo2 (k1 := 5) (k2 := (14 + r2)) (by decide) (mC hs6) (by omega) rfl (cC hs6))
  refine cl_X10_326 hx hb hml hown hts hK hN hW (c_X9_findRelaxed l D T A (ad 5) (ad (14 + r2)) (oc_X10 T (ad 0) (bb ad) (z_K9 0) ++ (wkL T ad z_K9 ((L18.erase 5).erase (14 + r2)) ++ Z)) (z_K9 5) (z_K9 (14 + r2)) 0 r10 qq11) ⟨Nat.le_of_ble_eq_true rfl, Nat.le_of_ble_eq_true rfl⟩ hl.1 rfl (Nat.le_of_ble_eq_true rfl) dX10_mendAll_27 ⟨Nat.zero_le _, Nat.zero_le _⟩ rfl (fun H locs hW => ?_)
  replace hW := hW.perm (fo2 (k1 := 5) (k2 := (14 + r2)) (by decide) (mC hs6) (by omega) rfl (cC hs6)).symm
  obtain ⟨k12, r13, z_K14, qq15, h⟩ := bnd3_s h
  by_cases hk : k12 = 0
  case neg =>
    replace h := ite_f hk h
    obtain ⟨e90, e91, e92⟩ := ret3 h
    subst k
    subst x_K9
    rw [hQ]
    exact xcx_X10_323 hk hout hlk (List.Perm.refl _) hx hb hml hown hts hK hN hE hW (c_X10_mendOf l hfl D T A ad hok Z z_K9 p1 r10 k12 r13 z_K14 qq15) ⟨Nat.le_of_ble_eq_true rfl, Nat.le_of_ble_eq_true rfl⟩ rfl hl.1 rfl (Nat.le_of_ble_eq_true rfl) dX10_mendAll_30
  replace h := ite_t hk h
  subst hk
  refine xc0_X10_323 hx hb hml hown hts hK hN hE hW (c_X10_mendOf l hfl D T A ad hok Z z_K9 p1 r10 0 r13 z_K14 qq15) ⟨Nat.le_of_ble_eq_true rfl, Nat.le_of_ble_eq_true rfl⟩ rfl hl.1 rfl (Nat.le_of_ble_eq_true rfl) dX10_mendAll_30 ⟨Nat.zero_le _, Nat.zero_le _⟩ (fun H locs hW => ?_)
  refine g_iast (ws9 := oc_X10 T (ad 0) (bb ad) (((va_up z_K14 0 (upo (z_K14 0) 11 (0 : Int32).toNatClampNeg r13))) 0) ++ (wkL T ad ((va_up z_K14 0 (upo (z_K14 0) 11 (0 : Int32).toNatClampNeg r13))) L18 ++ Z)) hx hb hK hW 3 rfl (by decide) s10b dX10_mendAll_33 (fun H locs hW => ?_)
  obtain ⟨z_K16, ez_K16⟩ : ∃ y : Nat → Ob, y = va_up z_K14 0 (upo (z_K14 0) 11 (0 : Int32).toNatClampNeg r13) := ⟨_, rfl⟩
  replace h := lb_at ez_K16 h
  rw [← ez_K16] at hW
  refine lv_aload_n hx hb dX10_mendAll_34 rfl (lv_at hl 1 rfl) ?_
  refine fg_X10_80 (v := .ref (ad 0 3)) hx hb hts hown hK hW 0 rfl rfl dX10_mendAll_35 ?_
  refine lv_iconst (v := 1) hx hb dX10_mendAll_38 (by decide) ?_
  refine lv_aload_n hx hb dX10_mendAll_39 rfl (lv_at hl 1 rfl) ?_
  refine lv_iload_n hx hb dX10_mendAll_40 rfl (lv_at hl 2 rfl) ?_
  refine lv_aload_n hx hb dX10_mendAll_41 rfl (lv_at hl 1 rfl) ?_
  refine fg_X10_47 (v := .ref (ad 5 0)) hx hb hts hown hK hW 0 rfl (by rw [← hk5]; rfl) dX10_mendAll_42 ?_
  refine lv_aload_n hx hb dX10_mendAll_45 rfl (lv_at hl 0 rfl) ?_
  refine lv_iconst (v := 1) hx hb dX10_mendAll_46 (by decide) ?_
  obtain ⟨r17, qq18, h⟩ := bnd1_s h
  replace hW := hW.perm (fo2 (k1 := 5) (k2 := (14 + r2)) (by decide) (mC hs6) (by omega) rfl (cC hs6))
  refine cl_X10_326 hx hb hml hown hts hK hN hW (c_X9_findRelaxed l D T A (ad 5) (ad (14 + r2)) (oc_X10 T (ad 0) (bb ad) (z_K16 0) ++ (wkL T ad z_K16 ((L18.erase 5).erase (14 + r2)) ++ Z)) (z_K16 5) (z_K16 (14 + r2)) 1 r17 qq18) ⟨Nat.le_of_ble_eq_true rfl, Nat.le_of_ble_eq_true rfl⟩ hl.1 rfl (Nat.le_of_ble_eq_true rfl) dX10_mendAll_47 ⟨Nat.zero_le _, Nat.zero_le _⟩ rfl (fun H locs hW => ?_)
  replace hW := hW.perm (fo2 (k1 := 5) (k2 := (14 + r2)) (by decide) (mC hs6) (by omega) rfl (cC hs6)).symm
  obtain ⟨k19, r20, z_K21, qq22, h⟩ := bnd3_s h
  by_cases hk : k19 = 0
  case neg =>
    replace h := ite_f hk h
    obtain ⟨e90, e91, e92⟩ := ret3 h
    subst k
    subst x_K9
    rw [hQ]
    exact xcx_X10_323 hk hout hlk (List.Perm.refl _) hx hb hml hown hts hK hN hE hW (c_X10_mendOf l hfl D T A ad hok Z z_K16 p1 r17 k19 r20 z_K21 qq22) ⟨Nat.le_of_ble_eq_true rfl, Nat.le_of_ble_eq_true rfl⟩ rfl hl.1 rfl (Nat.le_of_ble_eq_true rfl) dX10_mendAll_50
  replace h := ite_t hk h
  subst hk
  refine xc0_X10_323 hx hb hml hown hts hK hN hE hW (c_X10_mendOf l hfl D T A ad hok Z z_K16 p1 r17 0 r20 z_K21 qq22) ⟨Nat.le_of_ble_eq_true rfl, Nat.le_of_ble_eq_true rfl⟩ rfl hl.1 rfl (Nat.le_of_ble_eq_true rfl) dX10_mendAll_50 ⟨Nat.zero_le _, Nat.zero_le _⟩ (fun H locs hW => ?_)
  refine g_iast (ws9 := oc_X10 T (ad 0) (bb ad) (((va_up z_K21 0 (upo (z_K21 0) 11 (1 : Int32).toNatClampNeg r20))) 0) ++ (wkL T ad ((va_up z_K21 0 (upo (z_K21 0) 11 (1 : Int32).toNatClampNeg r20))) L18 ++ Z)) hx hb hK hW 3 rfl (by decide) s10b dX10_mendAll_53 (fun H locs hW => ?_)
  obtain ⟨z_K23, ez_K23⟩ : ∃ y : Nat → Ob, y = va_up z_K21 0 (upo (z_K21 0) 11 (1 : Int32).toNatClampNeg r20) := ⟨_, rfl⟩
  replace h := lb_at ez_K23 h
  rw [← ez_K23] at hW
  refine lv_aload_n hx hb dX10_mendAll_54 rfl (lv_at hl 1 rfl) ?_
  refine lv_iload_n hx hb dX10_mendAll_55 rfl (lv_at hl 2 rfl) ?_
  obtain ⟨k24, r25, z_K26, qq27, h⟩ := bnd3_s h
  by_cases hk : k24 = 0
  case neg =>
    replace h := ite_f hk h
    obtain ⟨e90, e91, e92⟩ := ret3 h
    subst k
    subst x_K9
    rw [hQ]
    exact xcx_X10_329 hk hout hlk (List.Perm.refl _) hx hb hml hown hts hK hN hE hW (c_X10_chosenOf l hfl D T A ad hok Z z_K23 p1 k24 r25 z_K26 qq27) ⟨Nat.le_of_ble_eq_true rfl, Nat.le_of_ble_eq_true rfl⟩ rfl hl.1 rfl (Nat.le_of_ble_eq_true rfl) dX10_mendAll_56
  replace h := ite_t hk h
  subst hk
  refine xc0_X10_329 hx hb hml hown hts hK hN hE hW (c_X10_chosenOf l hfl D T A ad hok Z z_K23 p1 0 r25 z_K26 qq27) ⟨Nat.le_of_ble_eq_true rfl, Nat.le_of_ble_eq_true rfl⟩ rfl hl.1 rfl (Nat.le_of_ble_eq_true rfl) dX10_mendAll_56 ⟨Nat.zero_le _, Nat.zero_le _⟩ (fun H locs hW => ?_)
  refine lv_istore_n (lv' := [(3, .int r25), (2, .ref (ad (14 + r2) 0)), (0, .ref (ad 0 0)), (1, .int p1)]) hx hb dX10_mendAll_59 rfl hl (by decide) rfl (fun ls hl => ?_)
  refine lv_iload_n hx hb dX10_mendAll_60 rfl (lv_at hl 0 rfl) ?_
  refine lv_if_eq (tgt := 98) hx hb dX10_mendAll_61 (by decide) (fun c28 => ?_) (fun c28 => ?_)
  · replace h := ite_t c28 h
    refine lv_aload_n hx hb dX10_mendAll_98 rfl (lv_at hl 2 rfl) ?_
    refine lv_iload_n hx hb dX10_mendAll_99 rfl (lv_at hl 3 rfl) ?_
    obtain ⟨k29, r30, z_K31, qq32, h⟩ := bnd3_s h
    by_cases hk : k29 = 0
    case neg =>
      replace h := ite_f hk h
      obtain ⟨e90, e91, e92⟩ := ret3 h
      subst k
      subst x_K9
      rw [hQ]
      exact xcx_X10_251 hk hout hlk (List.Perm.refl _) hx hb hml hown hts hK hN hE hW (c_X10_readAsNeeded l hfl D T A ad hok Z z_K26 p1 k29 r30 z_K31 qq32) ⟨Nat.le_of_ble_eq_true rfl, Nat.le_of_ble_eq_true rfl⟩ rfl hl.1 rfl (Nat.le_of_ble_eq_true rfl) dX10_mendAll_100
    replace h := ite_t hk h
    subst hk
    refine xc0_X10_251 hx hb hml hown hts hK hN hE hW (c_X10_readAsNeeded l hfl D T A ad hok Z z_K26 p1 0 r30 z_K31 qq32) ⟨Nat.le_of_ble_eq_true rfl, Nat.le_of_ble_eq_true rfl⟩ rfl hl.1 rfl (Nat.le_of_ble_eq_true rfl) dX10_mendAll_100 ⟨Nat.zero_le _, Nat.zero_le _⟩ (fun H locs hW => ?_)
    obtain ⟨g33, h⟩ := grd_s h
    have h4hs34 : r30 < 4 := of_decide_eq_true g33
    have hs34 : r30 < 5 := by omega
    obtain ⟨r35, qq36, h⟩ := bnd1_s h
    replace hW := hW.perm (fo1 (k1 := (14 + r30)) (mC hs34) (cC hs34))
    refine cl_X10_280 hx hb hml hown hts hK hN hW (c_X0_wholePrice l D T A (ad (14 + r30)) (oc_X10 T (ad 0) (bb ad) (z_K31 0) ++ (wkL T ad z_K31 (L18.erase (14 + r30)) ++ Z)) (z_K31 (14 + r30)) r35 qq36) ⟨Nat.le_of_ble_eq_true rfl, Nat.le_of_ble_eq_true rfl⟩ hl.1 rfl (Nat.le_of_ble_eq_true rfl) dX10_mendAll_103 ⟨Nat.zero_le _, Nat.zero_le _⟩ rfl (fun H locs hW => ?_)
    replace hW := hW.perm (fo1 (k1 := (14 + r30)) (mC hs34) (cC hs34)).symm
    obtain ⟨e90, e91, e92⟩ := ret3 h
    subst k
    subst r
    subst x_K9
    rw [hQ]
    exact x_reti hx hb hr hlk hW dX10_mendAll_106
  · replace h := ite_f c28 h
    refine lv_aload_n hx hb dX10_mendAll_64 rfl (lv_at hl 2 rfl) ?_
    refine lv_iload_n hx hb dX10_mendAll_65 rfl (lv_at hl 3 rfl) ?_
    obtain ⟨k37, r38, qq39, h⟩ := bnd2_s h
    by_cases hk : k37 = 0
    case neg =>
      replace h := ite_f hk h
      obtain ⟨e90, e91, e92⟩ := ret3 h
      subst k
      subst x_K9
      rw [hQ]
      exact xcx_X10_198 hk hout hlk (List.Perm.refl _) hx hb hml hown hts hK hN hE hW (c_X10_sentenceAt l hfl D T A ad hok Z z_K26 p1 k37 r38 qq39) ⟨Nat.le_of_ble_eq_true rfl, Nat.le_of_ble_eq_true rfl⟩ rfl hl.1 rfl (Nat.le_of_ble_eq_true rfl) dX10_mendAll_66
    replace h := ite_t hk h
    subst hk
    refine xc0_X10_198 hx hb hml hown hts hK hN hE hW (c_X10_sentenceAt l hfl D T A ad hok Z z_K26 p1 0 r38 qq39) ⟨Nat.le_of_ble_eq_true rfl, Nat.le_of_ble_eq_true rfl⟩ rfl hl.1 rfl (Nat.le_of_ble_eq_true rfl) dX10_mendAll_66 ⟨Nat.zero_le _, Nat.zero_le _⟩ (fun H locs hW => ?_)
    obtain ⟨g40, h⟩ := grd_s h
    have h4hs41 : r38 < 4 := of_decide_eq_true g40
    have hs41 : r38 < 5 := by omega
    refine lv_astore (lv' := [(4, .ref (ad (9 + r38) 0)), (3, .int r25), (2, .ref (ad (14 + r2) 0)), (0, .ref (ad 0 0)), (1, .int p1)]) hx hb dX10_mendAll_69 hl (by decide) rfl (fun ls hl => ?_)
    refine lv_aload hx hb dX10_mendAll_71 (lv_at hl 0 rfl) ?_
    refine lv_aload_n hx hb dX10_mendAll_73 rfl (lv_at hl 3 rfl) ?_
    refine lv_iload_n hx hb dX10_mendAll_74 rfl (lv_at hl 1 rfl) ?_
    refine lv_iconst (v := 0) hx hb dX10_mendAll_75 (by decide) ?_
    obtain ⟨r42, qq43, h⟩ := bnd1_s h
    refine cl_X10_332 hx hb hml hown hts hK hN hW (c_X10_mendIn l D T A ad hok Z z_K26 r25 0 r42 qq43) ⟨Nat.le_of_ble_eq_true rfl, Nat.le_of_ble_eq_true rfl⟩ hl.1 rfl (Nat.le_of_ble_eq_true rfl) dX10_mendAll_76 ⟨Nat.zero_le _, Nat.zero_le _⟩ rfl (fun H locs hW => ?_)
    obtain ⟨y_q144, qq45, h⟩ := bnd1_s h
    replace hW := hW.perm (fo1 (k1 := (9 + r38)) (mS hs41) (cS hs41))
    refine cl_X10_335 hx hb hml hown hts hK hN hW (c_X10_putMend l D T A (ad (9 + r38)) (oc_X10 T (ad 0) (bb ad) (z_K26 0) ++ (wkL T ad z_K26 (L18.erase (9 + r38)) ++ Z)) (z_K26 (9 + r38)) r42 y_q144 qq45) ⟨Nat.le_of_ble_eq_true rfl, Nat.le_of_ble_eq_true rfl⟩ hl.1 rfl (Nat.le_of_ble_eq_true rfl) dX10_mendAll_79 ⟨Nat.zero_le _, Nat.zero_le _⟩ rfl (fun H locs hW => ?_)
    obtain ⟨z_K46, ez_K46⟩ : ∃ y : Nat → Ob, y = va_up z_K26 (9 + r38) y_q144 := ⟨_, rfl⟩
    replace h := lb_at ez_K46 h
    replace hW := hW.perm (ba1 (K' := z_K46) (k1 := (9 + r38)) (mS hs41) (by rw [ez_K46, va_up_ne _ _ (by omega)]) (fun k9 _ n0 => by rw [ez_K46, va_up_ne _ _ n0]) (by rw [ez_K46, va_up_self]; exact (cS hs41)))
    refine lv_aload hx hb dX10_mendAll_82 (lv_at hl 0 rfl) ?_
    refine lv_aload_n hx hb dX10_mendAll_84 rfl (lv_at hl 3 rfl) ?_
    refine lv_iload_n hx hb dX10_mendAll_85 rfl (lv_at hl 1 rfl) ?_
    refine lv_iconst (v := 1) hx hb dX10_mendAll_86 (by decide) ?_
    obtain ⟨r47, qq48, h⟩ := bnd1_s h
    refine cl_X10_332 hx hb hml hown hts hK hN hW (c_X10_mendIn l D T A ad hok Z z_K46 r25 1 r47 qq48) ⟨Nat.le_of_ble_eq_true rfl, Nat.le_of_ble_eq_true rfl⟩ hl.1 rfl (Nat.le_of_ble_eq_true rfl) dX10_mendAll_87 ⟨Nat.zero_le _, Nat.zero_le _⟩ rfl (fun H locs hW => ?_)
    obtain ⟨y_q149, qq50, h⟩ := bnd1_s h
    replace hW := hW.perm (fo1 (k1 := (9 + r38)) (mS hs41) (cS hs41))
    refine cl_X10_335 hx hb hml hown hts hK hN hW (c_X10_putMend l D T A (ad (9 + r38)) (oc_X10 T (ad 0) (bb ad) (z_K46 0) ++ (wkL T ad z_K46 (L18.erase (9 + r38)) ++ Z)) (z_K46 (9 + r38)) r47 y_q149 qq50) ⟨Nat.le_of_ble_eq_true rfl, Nat.le_of_ble_eq_true rfl⟩ hl.1 rfl (Nat.le_of_ble_eq_true rfl) dX10_mendAll_90 ⟨Nat.zero_le _, Nat.zero_le _⟩ rfl (fun H locs hW => ?_)
    obtain ⟨z_K51, ez_K51⟩ : ∃ y : Nat → Ob, y = va_up z_K46 (9 + r38) y_q149 := ⟨_, rfl⟩
    replace h := lb_at ez_K51 h
    replace hW := hW.perm (ba1 (K' := z_K51) (k1 := (9 + r38)) (mS hs41) (by rw [ez_K51, va_up_ne _ _ (by omega)]) (fun k9 _ n0 => by rw [ez_K51, va_up_ne _ _ n0]) (by rw [ez_K51, va_up_self]; exact (cS hs41)))
    refine lv_aload hx hb dX10_mendAll_93 (lv_at hl 0 rfl) ?_
    obtain ⟨y_o52, qq53, h⟩ := bnd1_s h
    replace hW := hW.perm (fo1 (k1 := (9 + r38)) (mS hs41) (cS hs41))
    refine cl_X10_207 hx hb hml hown hts hK hN hW (c_X6_outdate l D T A (ad (9 + r38)) (oc_X10 T (ad 0) (bb ad) (z_K51 0) ++ (wkL T ad z_K51 (L18.erase (9 + r38)) ++ Z)) (z_K51 (9 + r38)) y_o52 qq53) ⟨Nat.le_of_ble_eq_true rfl, Nat.le_of_ble_eq_true rfl⟩ hl.1 rfl (Nat.le_of_ble_eq_true rfl) dX10_mendAll_95 ⟨Nat.zero_le _, Nat.zero_le _⟩ rfl (fun H locs hW => ?_)
    obtain ⟨z_K54, ez_K54⟩ : ∃ y : Nat → Ob, y = va_up z_K51 (9 + r38) y_o52 := ⟨_, rfl⟩
    replace h := lb_at ez_K54 h
    replace hW := hW.perm (ba1 (K' := z_K54) (k1 := (9 + r38)) (mS hs41) (by rw [ez_K54, va_up_ne _ _ (by omega)]) (fun k9 _ n0 => by rw [ez_K54, va_up_ne _ _ n0]) (by rw [ez_K54, va_up_self]; exact (cS hs41)))
    refine lv_aload_n hx hb dX10_mendAll_98 rfl (lv_at hl 3 rfl) ?_
    refine lv_iload_n hx hb dX10_mendAll_99 rfl (lv_at hl 4 rfl) ?_
    obtain ⟨k55, r56, z_K57, qq58, h⟩ := bnd3_s h
    by_cases hk : k55 = 0
    case neg =>
      replace h := ite_f hk h
      obtain ⟨e90, e91, e92⟩ := ret3 h
      subst k
      subst x_K9
      rw [hQ]
      exact xcx_X10_251 hk hout hlk (List.Perm.refl _) hx hb hml hown hts hK hN hE hW (c_X10_readAsNeeded l hfl D T A ad hok Z z_K54 p1 k55 r56 z_K57 qq58) ⟨Nat.le_of_ble_eq_true rfl, Nat.le_of_ble_eq_true rfl⟩ rfl hl.1 rfl (Nat.le_of_ble_eq_true rfl) dX10_mendAll_100
    replace h := ite_t hk h
    subst hk
    refine xc0_X10_251 hx hb hml hown hts hK hN hE hW (c_X10_readAsNeeded l hfl D T A ad hok Z z_K54 p1 0 r56 z_K57 qq58) ⟨Nat.le_of_ble_eq_true rfl, Nat.le_of_ble_eq_true rfl⟩ rfl hl.1 rfl (Nat.le_of_ble_eq_true rfl) dX10_mendAll_100 ⟨Nat.zero_le _, Nat.zero_le _⟩ (fun H locs hW => ?_)
    obtain ⟨g59, h⟩ := grd_s h
    have h4hs60 : r56 < 4 := of_decide_eq_true g59
    have hs60 : r56 < 5 := by omega
    obtain ⟨r61, qq62, h⟩ := bnd1_s h
    replace hW := hW.perm (fo1 (k1 := (14 + r56)) (mC hs60) (cC hs60))
    refine cl_X10_280 hx hb hml hown hts hK hN hW (c_X0_wholePrice l D T A (ad (14 + r56)) (oc_X10 T (ad 0) (bb ad) (z_K57 0) ++ (wkL T ad z_K57 (L18.erase (14 + r56)) ++ Z)) (z_K57 (14 + r56)) r61 qq62) ⟨Nat.le_of_ble_eq_true rfl, Nat.le_of_ble_eq_true rfl⟩ hl.1 rfl (Nat.le_of_ble_eq_true rfl) dX10_mendAll_103 ⟨Nat.zero_le _, Nat.zero_le _⟩ rfl (fun H locs hW => ?_)
    replace hW := hW.perm (fo1 (k1 := (14 + r56)) (mC hs60) (cC hs60)).symm
    obtain ⟨e90, e91, e92⟩ := ret3 h
    subst k
    subst r
    subst x_K9
    rw [hQ]
    exact x_reti hx hb hr hlk hW dX10_mendAll_106
set_option maxHeartbeats 4000000 in
set_option maxRecDepth 100000 in
theorem c_X10_reads (l : Launch) (D : va_G) (T : Nat → ClassId) (A : Nat → Prop) (ad : Nat → Nat → Nat) (hok : okad ad) (Z : va_W) (x_K : Nat → Ob)  (r : Int32) (h : f_X10_reads x_K = some r) : Met l yX10_reads (Cond.code yX10_reads cX10_reads 1 (some .int) :: wsL_law) (rmd 0) (Pg D T A (oc_X10 T (ad 0) (bb ad) (x_K 0) ++ (wkL T ad x_K L18 ++ Z)) [.ref (ad 0 0)]) (Qgi D A (oc_X10 T (ad 0) (bb ad) (x_K 0) ++ (wkL T ad x_K L18 ++ Z)) r) 0 0 A := by
  refine Met.ofW (cc := cX10_reads) (maxL := 1) (ret := (some .int)) (by decide +kernel) rfl ?_
  intro p e s m args below meth c s₁ B hml hv
  obtain ⟨ha, hP, hK, hD, hN⟩ := hv
  have hx := B.exec
  have hb := B.bytes
  have hr := B.returns
  have hlk := B.notSynchronized
  have hts : ∀ w ∈ wsL_law, w.before args s = true := fun w hw => atoms_spec B.pre w (List.mem_cons_of_mem _ hw)
  have hown : s.vm.findClass RX10 = some m.cls := findClass_of_methodNamed B.named
  obtain ⟨hk0, hk1, hk2, hk3, hk4, hk5, hk6, hk7, hk9, hk10⟩ := id hok
  have hW : Wd D A s.heap (oc_X10 T (ad 0) (bb ad) (x_K 0) ++ (wkL T ad x_K L18 ++ Z)) s.heap [] := ⟨hP, hD, va_S.rf⟩
  have hl := lv_entry [.ref (ad 0 0)] (n := 1) (Nat.le_of_ble_eq_true rfl)
  refine W.eq (en_eq ha) ?_
  generalize (lg_sl [.ref (ad 0 0)] ++ List.replicate (1 - (lg_sl [.ref (ad 0 0)]).length) Slot.unset).toArray = ls at hl ⊢
  have hl : lv_has ls 1 [(0, .ref (ad 0 0))] := hl
  clear hP hD B ha
  obtain ⟨Q, hQ⟩ : ∃ Q, Q = MQ below (Qgi D A (oc_X10 T (ad 0) (bb ad) (x_K 0) ++ (wkL T ad x_K L18 ++ Z)) r) args s 0 0 A := ⟨_, rfl⟩
  rw [← hQ]
  change W p l e (rmd 0) s m args below meth c s.heap [] 0 0 Q (F0 m 0 ls [])
  rw [f_X10_reads] at h
  suffices hm : ∀ (H : Heap) (locs : List Loc), Wd D A s.heap (oc_X10 T (ad 0) (bb ad) (x_K 0) ++ (wkL T ad x_K L18 ++ Z)) H locs → W p l e (rmd 0) s m args below meth c H locs 0 0 Q (F0 m 0 ls []) from hm _ _ hW
  intro H locs hW
  refine lv_aload_n hx hb dX10_reads_0 rfl (lv_at hl 0 rfl) ?_
  refine fg_X10_83 (v := .int (x_K 0 12 0)) hx hb hts hown hK hW 0 rfl rfl dX10_reads_1 ?_
  have e90 := ret1 h
  subst r
  rw [hQ]
  exact g_reti hx hb hr hlk hW dX10_reads_4
set_option maxHeartbeats 4000000 in
set_option maxRecDepth 100000 in
theorem c_X10_pattern (l : Launch) (hfl : l.stackTraces = false) (D : va_G) (T : Nat → ClassId) (A : Nat → Prop) (ad : Nat → Nat → Nat) (hok : okad ad) (Z : va_W) (x_K : Nat → Ob) (p1 : Int32) (p2 : Int32) (p3 : Int32) (p4 : Int32)  (k : Nat) (r : Int32) (x_K9 : Nat → Ob) (h : f_X10_pattern x_K p1 p2 p3 p4 = some (k, r, x_K9)) : vx_Met l yX10_pattern (Cond.code yX10_pattern cX10_pattern 5 (some .int) :: wsL_law) (rmx 6 k) (Px D T A (oc_X10 T (ad 0) (bb ad) (x_K 0) ++ (wkL T ad x_K L18 ++ Z)) [.ref (ad 0 0), .int p1, .int p2, .int p3, .int p4]) (Qxi D A (oc_X10 T (ad 0) (bb ad) (x_K9 0) ++ (wkL T ad x_K9 L18 ++ Z)) k r) (XCx D A (oc_X10 T (ad 0) (bb ad) (x_K9 0) ++ (wkL T ad x_K9 L18 ++ Z)) k) (ex1 k) (ex6 k) A := by
  refine vx_ofW (cc := cX10_pattern) (maxL := 5) (ret := (some .int)) (by decide +kernel) rfl ?_
  intro p e s m args below meth c s₁ B hml hout hv
  obtain ⟨ha, hP, hK, hD, hN, hE⟩ := hv
  have hx := B.exec
  have hb := B.bytes
  have hr := B.returns
  have hlk := B.notSynchronized
  have hts : ∀ w ∈ wsL_law, w.before args s = true := fun w hw => atoms_spec B.pre w (List.mem_cons_of_mem _ hw)
  have hown : s.vm.findClass RX10 = some m.cls := findClass_of_methodNamed B.named
  obtain ⟨hk0, hk1, hk2, hk3, hk4, hk5, hk6, hk7, hk9, hk10⟩ := id hok
  have hW : Wd D A s.heap (oc_X10 T (ad 0) (bb ad) (x_K 0) ++ (wkL T ad x_K L18 ++ Z)) s.heap [] := ⟨hP, hD, va_S.rf⟩
  have hl := lv_entry [.ref (ad 0 0), .int p1, .int p2, .int p3, .int p4] (n := 5) (Nat.le_of_ble_eq_true rfl)
  refine W.eq (en_eq ha) ?_
  generalize (lg_sl [.ref (ad 0 0), .int p1, .int p2, .int p3, .int p4] ++ List.replicate (5 - (lg_sl [.ref (ad 0 0), .int p1, .int p2, .int p3, .int p4]).length) Slot.unset).toArray = ls at hl ⊢
  have hl : lv_has ls 5 [(0, .ref (ad 0 0)), (1, .int p1), (2, .int p2), (3, .int p3), (4, .int p4)] := hl
  clear hP hD B ha
  obtain ⟨Q, hQ⟩ : ∃ Q, Q = vx_MQ below (Qxi D A (oc_X10 T (ad 0) (bb ad) (x_K9 0) ++ (wkL T ad x_K9 L18 ++ Z)) k r) (XCx D A (oc_X10 T (ad 0) (bb ad) (x_K9 0) ++ (wkL T ad x_K9 L18 ++ Z)) k) args s (ex1 k) (ex6 k) A := ⟨_, rfl⟩
  rw [← hQ]
  change W p l e (rmx 6 k) s m args below meth c s.heap [] 0 0 Q (F0 m 0 ls [])
  have J73 : ∀ (x_K_73 : Nat → Ob) (v1_73 : Int32) (v2_73 : Int32) (v3_73 : Int32) (v4_73 : Int32) (H : Heap) (locs : List Loc) (ls : Array Slot), Wd D A s.heap (oc_X10 T (ad 0) (bb ad) (x_K_73 0) ++ (wkL T ad x_K_73 L18 ++ Z)) H locs → lv_has ls 5 [(0, .ref (ad 0 0)), (1, .int v1_73), (2, .int v2_73), (3, .int v3_73), (4, .int v4_73)] → f_X10_pattern_J73 x_K_73 v1_73 v2_73 v3_73 v4_73 = some (k, r, x_K9) → W p l e (rmx 6 k) s m args below meth c H locs 0 0 Q (F0 m 73 ls []) := by
    intro x_K_73 v1_73 v2_73 v3_73 v4_73 H locs ls hW hl h
    rw [f_X10_pattern_J73] at h
    refine lv_aload_n hx hb dX10_pattern_73 rfl (lv_at hl 0 rfl) ?_
    refine fg_X10_61 (v := .ref (ad 7 0)) hx hb hts hown hK hW 0 rfl (by rw [← hk7]; rfl) dX10_pattern_74 ?_
    obtain ⟨r12, qq13, h⟩ := bnd1_s h
    replace hW := hW.perm (fo1 (k1 := 7) (by decide) rfl)
    refine cl_X10_345 hx hb hml hown hts hK hN hW (c_X8_isFull l D T A (ad 7) (oc_X10 T (ad 0) (bb ad) (x_K_73 0) ++ (wkL T ad x_K_73 (L18.erase 7) ++ Z)) (x_K_73 7) r12 qq13) ⟨Nat.le_of_ble_eq_true rfl, Nat.le_of_ble_eq_true rfl⟩ hl.1 rfl (Nat.le_of_ble_eq_true rfl) dX10_pattern_77 ⟨Nat.zero_le _, Nat.zero_le _⟩ rfl (fun H locs hW => ?_)
    replace hW := hW.perm (fo1 (k1 := 7) (by decide) rfl).symm
    refine lv_if_eq (tgt := 94) hx hb dX10_pattern_80 (by decide) (fun c14 => ?_) (fun c14 => ?_)
    · replace h := ite_t c14 h
      refine lv_aload_n hx hb dX10_pattern_94 rfl (lv_at hl 0 rfl) ?_
      refine fg_X10_61 (v := .ref (ad 7 0)) hx hb hts hown hK hW 0 rfl (by rw [← hk7]; rfl) dX10_pattern_95 ?_
      refine lv_iload_n hx hb dX10_pattern_98 rfl (lv_at hl 1 rfl) ?_
      refine lv_iload_n hx hb dX10_pattern_99 rfl (lv_at hl 2 rfl) ?_
      refine lv_iload_n hx hb dX10_pattern_100 rfl (lv_at hl 3 rfl) ?_
      refine lv_iload hx hb dX10_pattern_101 (lv_at hl 4 rfl) ?_
      obtain ⟨r15, y_o16, qq17, h⟩ := bnd2_s h
      replace hW := hW.perm (fo1 (k1 := 7) (by decide) rfl)
      refine cl_X10_348 hx hb hml hown hts hK hN hW (c_X8_addPattern l D T A (ad 7) (oc_X10 T (ad 0) (bb ad) (x_K_73 0) ++ (wkL T ad x_K_73 (L18.erase 7) ++ Z)) (x_K_73 7) v1_73 v2_73 v3_73 v4_73 r15 y_o16 qq17) ⟨Nat.le_of_ble_eq_true rfl, Nat.le_of_ble_eq_true rfl⟩ hl.1 rfl (Nat.le_of_ble_eq_true rfl) dX10_pattern_103 ⟨Nat.zero_le _, Nat.zero_le _⟩ rfl (fun H locs hW => ?_)
      obtain ⟨z_K18, ez_K18⟩ : ∃ y : Nat → Ob, y = va_up x_K_73 7 y_o16 := ⟨_, rfl⟩
      replace h := lb_at ez_K18 h
      replace hW := hW.perm (ba1 (K' := z_K18) (k1 := 7) (by decide) (by rw [ez_K18, va_up_ne _ _ (by omega)]) (fun k9 _ n0 => by rw [ez_K18, va_up_ne _ _ n0]) (by rw [ez_K18, va_up_self]; exact rfl))
      obtain ⟨e90, e91, e92⟩ := ret3 h
      subst k
      subst r
      subst x_K9
      rw [hQ]
      exact x_reti hx hb hr hlk hW dX10_pattern_106
    · replace h := ite_f c14 h
      obtain ⟨e90, e91, e92⟩ := ret3 h
      subst k
      subst r
      subst x_K9
      rw [hQ]
      exact xtw_102_106 hx hb hfl hown hts hE hW hml hl.1 hout hlk (List.mem_of_getElem? (i := 20) rfl) dX10_pattern_83 dX10_pattern_86 dX10_pattern_87 dX10_pattern_90 dX10_pattern_93 (by decide) (Nat.le_of_ble_eq_true rfl)
  have J29 : ∀ (x_K_29 : Nat → Ob) (v1_29 : Int32) (v2_29 : Int32) (v3_29 : Int32) (v4_29 : Int32) (H : Heap) (locs : List Loc) (ls : Array Slot), Wd D A s.heap (oc_X10 T (ad 0) (bb ad) (x_K_29 0) ++ (wkL T ad x_K_29 L18 ++ Z)) H locs → lv_has ls 5 [(0, .ref (ad 0 0)), (1, .int v1_29), (2, .int v2_29), (3, .int v3_29), (4, .int v4_29)] → f_X10_pattern_J29 x_K_29 v1_29 v2_29 v3_29 v4_29 = some (k, r, x_K9) → W p l e (rmx 6 k) s m args below meth c H locs 0 0 Q (F0 m 29 ls []) := by
    intro x_K_29 v1_29 v2_29 v3_29 v4_29 H locs ls hW hl h
    rw [f_X10_pattern_J29] at h
    refine lv_iload_n hx hb dX10_pattern_29 rfl (lv_at hl 1 rfl) ?_
    refine lv_bipush (v := 10) hx hb dX10_pattern_30 (by decide) ?_
    obtain ⟨r2, qq3, h⟩ := bnd1_s h
    refine cl_X10_87 hx hb hml hown hts hK hN hW (c_X10_isBelow l D T A (oc_X10 T (ad 0) (bb ad) (x_K_29 0) ++ (wkL T ad x_K_29 L18 ++ Z)) v1_29 10 r2 qq3) ⟨Nat.le_of_ble_eq_true rfl, Nat.le_of_ble_eq_true rfl⟩ hl.1 rfl (Nat.le_of_ble_eq_true rfl) dX10_pattern_32 ⟨Nat.zero_le _, Nat.zero_le _⟩ rfl (fun H locs hW => ?_)
    refine lv_if_eq (tgt := 62) hx hb dX10_pattern_35 (by decide) (fun c4 => ?_) (fun c4 => ?_)
    · replace h := ite_t c4 h
      obtain ⟨e90, e91, e92⟩ := ret3 h
      subst k
      subst r
      subst x_K9
      rw [hQ]
      exact xtw_91_95 hx hb hfl hown hts hE hW hml hl.1 hout hlk (List.mem_of_getElem? (i := 19) rfl) dX10_pattern_62 dX10_pattern_65 dX10_pattern_66 dX10_pattern_69 dX10_pattern_72 (by decide) (Nat.le_of_ble_eq_true rfl)
    · replace h := ite_f c4 h
      refine lv_iload_n hx hb dX10_pattern_38 rfl (lv_at hl 2 rfl) ?_
      obtain ⟨r5, qq6, h⟩ := bnd1_s h
      refine cl_X10_156 hx hb hml hown hts hK hN hW (c_X10_isCategoryOrNone l D T A (oc_X10 T (ad 0) (bb ad) (x_K_29 0) ++ (wkL T ad x_K_29 L18 ++ Z)) v2_29 r5 qq6) ⟨Nat.le_of_ble_eq_true rfl, Nat.le_of_ble_eq_true rfl⟩ hl.1 rfl (Nat.le_of_ble_eq_true rfl) dX10_pattern_39 ⟨Nat.zero_le _, Nat.zero_le _⟩ rfl (fun H locs hW => ?_)
      refine lv_if_eq (tgt := 62) hx hb dX10_pattern_42 (by decide) (fun c7 => ?_) (fun c7 => ?_)
      · replace h := ite_t c7 h
        obtain ⟨e90, e91, e92⟩ := ret3 h
        subst k
        subst r
        subst x_K9
        rw [hQ]
        exact xtw_91_95 hx hb hfl hown hts hE hW hml hl.1 hout hlk (List.mem_of_getElem? (i := 19) rfl) dX10_pattern_62 dX10_pattern_65 dX10_pattern_66 dX10_pattern_69 dX10_pattern_72 (by decide) (Nat.le_of_ble_eq_true rfl)
      · replace h := ite_f c7 h
        refine lv_iload_n hx hb dX10_pattern_45 rfl (lv_at hl 3 rfl) ?_
        obtain ⟨r8, qq9, h⟩ := bnd1_s h
        refine cl_X10_156 hx hb hml hown hts hK hN hW (c_X10_isCategoryOrNone l D T A (oc_X10 T (ad 0) (bb ad) (x_K_29 0) ++ (wkL T ad x_K_29 L18 ++ Z)) v3_29 r8 qq9) ⟨Nat.le_of_ble_eq_true rfl, Nat.le_of_ble_eq_true rfl⟩ hl.1 rfl (Nat.le_of_ble_eq_true rfl) dX10_pattern_46 ⟨Nat.zero_le _, Nat.zero_le _⟩ rfl (fun H locs hW => ?_)
        refine lv_if_eq (tgt := 62) hx hb dX10_pattern_49 (by decide) (fun c10 => ?_) (fun c10 => ?_)
        · replace h := ite_t c10 h
          obtain ⟨e90, e91, e92⟩ := ret3 h
          subst k
          subst r
          subst x_K9
          rw [hQ]
          exact xtw_91_95 hx hb hfl hown hts hE hW hml hl.1 hout hlk (List.mem_of_getElem? (i := 19) rfl) dX10_pattern_62 dX10_pattern_65 dX10_pattern_66 dX10_pattern_69 dX10_pattern_72 (by decide) (Nat.le_of_ble_eq_true rfl)
        · replace h := ite_f c10 h
          refine lv_iload_n hx hb dX10_pattern_52 rfl (lv_at hl 2 rfl) ?_
          refine lv_iconst (v := (-1)) hx hb dX10_pattern_53 (by decide) ?_
          refine lv_icmp_ne (tgt := 73) hx hb dX10_pattern_54 (by decide) (fun c11 => ?_) (fun c11 => ?_)
          · replace h := ite_f c11 h
            exact J73 _ _ _ _ _ H locs ls hW (lv_sub hl [0, 1, 2, 3, 4] rfl) h
          · replace h := ite_t c11 h
            refine lv_iload_n hx hb dX10_pattern_57 rfl (lv_at hl 3 rfl) ?_
            refine lv_iconst (v := (-1)) hx hb dX10_pattern_58 (by decide) ?_
            refine lv_icmp_eq (tgt := 73) hx hb dX10_pattern_59 (by decide) (fun c19 => ?_) (fun c19 => ?_)
            · replace h := ite_t c19 h
              exact J73 _ _ _ _ _ H locs ls hW (lv_sub hl [0, 1, 2, 3, 4] rfl) h
            · replace h := ite_f c19 h
              obtain ⟨e90, e91, e92⟩ := ret3 h
              subst k
              subst r
              subst x_K9
              rw [hQ]
              exact xtw_91_95 hx hb hfl hown hts hE hW hml hl.1 hout hlk (List.mem_of_getElem? (i := 19) rfl) dX10_pattern_62 dX10_pattern_65 dX10_pattern_66 dX10_pattern_69 dX10_pattern_72 (by decide) (Nat.le_of_ble_eq_true rfl)
  rw [f_X10_pattern] at h
  suffices hm : ∀ (H : Heap) (locs : List Loc), Wd D A s.heap (oc_X10 T (ad 0) (bb ad) (x_K 0) ++ (wkL T ad x_K L18 ++ Z)) H locs → W p l e (rmx 6 k) s m args below meth c H locs 0 0 Q (F0 m 0 ls []) from hm _ _ hW
  intro H locs hW
  refine lv_iload hx hb dX10_pattern_0 (lv_at hl 4 rfl) ?_
  refine lv_iconst (v := (-1)) hx hb dX10_pattern_2 (by decide) ?_
  refine lv_icmp_eq (tgt := 29) hx hb dX10_pattern_3 (by decide) (fun c1 => ?_) (fun c1 => ?_)
  · replace h := ite_t c1 h
    exact J29 _ _ _ _ _ H locs ls hW (lv_sub hl [0, 1, 2, 3, 4] rfl) h
  · replace h := ite_f c1 h
    refine lv_aload_n hx hb dX10_pattern_6 rfl (lv_at hl 0 rfl) ?_
    refine fg_X10_61 (v := .ref (ad 7 0)) hx hb hts hown hK hW 0 rfl (by rw [← hk7]; rfl) dX10_pattern_7 ?_
    refine lv_iload hx hb dX10_pattern_10 (lv_at hl 4 rfl) ?_
    obtain ⟨r20, qq21, h⟩ := bnd1_s h
    replace hW := hW.perm (fo1 (k1 := 7) (by decide) rfl)
    refine cl_X10_338 hx hb hml hown hts hK hN hW (c_X8_hasPattern l D T A (ad 7) (oc_X10 T (ad 0) (bb ad) (x_K 0) ++ (wkL T ad x_K (L18.erase 7) ++ Z)) (x_K 7) p4 r20 qq21) ⟨Nat.le_of_ble_eq_true rfl, Nat.le_of_ble_eq_true rfl⟩ hl.1 rfl (Nat.le_of_ble_eq_true rfl) dX10_pattern_12 ⟨Nat.zero_le _, Nat.zero_le _⟩ rfl (fun H locs hW => ?_)
    replace hW := hW.perm (fo1 (k1 := 7) (by decide) rfl).symm
    refine lv_if_ne (tgt := 29) hx hb dX10_pattern_15 (by decide) (fun c22 => ?_) (fun c22 => ?_)
    · replace h := ite_f c22 h
      exact J29 _ _ _ _ _ H locs ls hW (lv_sub hl [0, 1, 2, 3, 4] rfl) h
    · replace h := ite_t c22 h
      obtain ⟨e90, e91, e92⟩ := ret3 h
      subst k
      subst r
      subst x_K9
      rw [hQ]
      exact xtw_177_181 hx hb hfl hown hts hE hW hml hl.1 hout hlk (List.mem_of_getElem? (i := 18) rfl) dX10_pattern_18 dX10_pattern_21 dX10_pattern_22 dX10_pattern_25 dX10_pattern_28 (by decide) (Nat.le_of_ble_eq_true rfl)
set_option maxHeartbeats 4000000 in
set_option maxRecDepth 100000 in
theorem c_X10_off (l : Launch) (hfl : l.stackTraces = false) (D : va_G) (T : Nat → ClassId) (A : Nat → Prop) (ad : Nat → Nat → Nat) (hok : okad ad) (Z : va_W) (x_K : Nat → Ob) (p1 : Int32) (p2 : Int32)  (k : Nat) (r : Int32) (x_K9 : Nat → Ob) (h : f_X10_off x_K p1 p2 = some (k, r, x_K9)) : vx_Met l yX10_off (Cond.code yX10_off cX10_off 3 (some .boolean) :: wsL_law) (rmx 7 k) (Px D T A (oc_X10 T (ad 0) (bb ad) (x_K 0) ++ (wkL T ad x_K L18 ++ Z)) [.ref (ad 0 0), .int p1, .int p2]) (Qxi D A (oc_X10 T (ad 0) (bb ad) (x_K9 0) ++ (wkL T ad x_K9 L18 ++ Z)) k r) (XCx D A (oc_X10 T (ad 0) (bb ad) (x_K9 0) ++ (wkL T ad x_K9 L18 ++ Z)) k) (ex1 k) (ex6 k) A := by
  refine vx_ofW (cc := cX10_off) (maxL := 3) (ret := (some .boolean)) (by decide +kernel) rfl ?_
  intro p e s m args below meth c s₁ B hml hout hv
  obtain ⟨ha, hP, hK, hD, hN, hE⟩ := hv
  have hx := B.exec
  have hb := B.bytes
  have hr := B.returns
  have hlk := B.notSynchronized
  have hts : ∀ w ∈ wsL_law, w.before args s = true := fun w hw => atoms_spec B.pre w (List.mem_cons_of_mem _ hw)
  have hown : s.vm.findClass RX10 = some m.cls := findClass_of_methodNamed B.named
  obtain ⟨hk0, hk1, hk2, hk3, hk4, hk5, hk6, hk7, hk9, hk10⟩ := id hok
  have hW : Wd D A s.heap (oc_X10 T (ad 0) (bb ad) (x_K 0) ++ (wkL T ad x_K L18 ++ Z)) s.heap [] := ⟨hP, hD, va_S.rf⟩
  have hl := lv_entry [.ref (ad 0 0), .int p1, .int p2] (n := 3) (Nat.le_of_ble_eq_true rfl)
  refine W.eq (en_eq ha) ?_
  generalize (lg_sl [.ref (ad 0 0), .int p1, .int p2] ++ List.replicate (3 - (lg_sl [.ref (ad 0 0), .int p1, .int p2]).length) Slot.unset).toArray = ls at hl ⊢
  have hl : lv_has ls 3 [(0, .ref (ad 0 0)), (1, .int p1), (2, .int p2)] := hl
  clear hP hD B ha
  obtain ⟨Q, hQ⟩ : ∃ Q, Q = vx_MQ below (Qxi D A (oc_X10 T (ad 0) (bb ad) (x_K9 0) ++ (wkL T ad x_K9 L18 ++ Z)) k r) (XCx D A (oc_X10 T (ad 0) (bb ad) (x_K9 0) ++ (wkL T ad x_K9 L18 ++ Z)) k) args s (ex1 k) (ex6 k) A := ⟨_, rfl⟩
  rw [← hQ]
  change W p l e (rmx 7 k) s m args below meth c s.heap [] 0 0 Q (F0 m 0 ls [])
  rw [f_X10_off] at h
  suffices hm : ∀ (H : Heap) (locs : List Loc), Wd D A s.heap (oc_X10 T (ad 0) (bb ad) (x_K 0) ++ (wkL T ad x_K L18 ++ Z)) H locs → W p l e (rmx 7 k) s m args below meth c H locs 0 0 Q (F0 m 0 ls []) from hm _ _ hW
  intro H locs hW
  refine lv_aload_n hx hb dX10_off_0 rfl (lv_at hl 0 rfl) ?_
  refine fg_X10_61 (v := .ref (ad 7 0)) hx hb hts hown hK hW 0 rfl (by rw [← hk7]; rfl) dX10_off_1 ?_
  refine lv_iload_n hx hb dX10_off_4 rfl (lv_at hl 1 rfl) ?_
  obtain ⟨r1, qq2, h⟩ := bnd1_s h
  replace hW := hW.perm (fo1 (k1 := 7) (by decide) rfl)
  refine cl_X10_338 hx hb hml hown hts hK hN hW (c_X8_hasPattern l D T A (ad 7) (oc_X10 T (ad 0) (bb ad) (x_K 0) ++ (wkL T ad x_K (L18.erase 7) ++ Z)) (x_K 7) p1 r1 qq2) ⟨Nat.le_of_ble_eq_true rfl, Nat.le_of_ble_eq_true rfl⟩ hl.1 rfl (Nat.le_of_ble_eq_true rfl) dX10_off_5 ⟨Nat.zero_le _, Nat.zero_le _⟩ rfl (fun H locs hW => ?_)
  replace hW := hW.perm (fo1 (k1 := 7) (by decide) rfl).symm
  refine lv_if_ne (tgt := 22) hx hb dX10_off_8 (by decide) (fun c3 => ?_) (fun c3 => ?_)
  · replace h := ite_f c3 h
    refine lv_iload_n hx hb dX10_off_22 rfl (lv_at hl 2 rfl) ?_
    refine lv_iconst (v := (-1)) hx hb dX10_off_23 (by decide) ?_
    refine lv_icmp_ne (tgt := 36) hx hb dX10_off_24 (by decide) (fun c4 => ?_) (fun c4 => ?_)
    · replace h := ite_f c4 h
      refine lv_aload_n hx hb dX10_off_36 rfl (lv_at hl 0 rfl) ?_
      refine lv_iload_n hx hb dX10_off_37 rfl (lv_at hl 2 rfl) ?_
      obtain ⟨k5, qq6, h⟩ := bnd1_s h
      by_cases hk : k5 = 0
      case neg =>
        replace h := ite_f hk h
        obtain ⟨e90, e91, e92⟩ := ret3 h
        subst k
        subst x_K9
        rw [hQ]
        exact xcx_X10_111 hk hout hlk (List.Perm.refl _) hx hb hml hown hts hK hN hE hW (c_X10_requireWord l hfl D T A ad hok Z x_K p2 k5 qq6) ⟨Nat.le_of_ble_eq_true rfl, Nat.le_of_ble_eq_true rfl⟩ rfl hl.1 rfl (Nat.le_of_ble_eq_true rfl) dX10_off_38
      replace h := ite_t hk h
      subst hk
      refine xc0_X10_111 hx hb hml hown hts hK hN hE hW (c_X10_requireWord l hfl D T A ad hok Z x_K p2 0 qq6) ⟨Nat.le_of_ble_eq_true rfl, Nat.le_of_ble_eq_true rfl⟩ rfl hl.1 rfl (Nat.le_of_ble_eq_true rfl) dX10_off_38 ⟨Nat.zero_le _, Nat.zero_le _⟩ (fun H locs hW => ?_)
      refine lv_aload_n hx hb dX10_off_41 rfl (lv_at hl 0 rfl) ?_
      refine fg_X10_61 (v := .ref (ad 7 0)) hx hb hts hown hK hW 0 rfl (by rw [← hk7]; rfl) dX10_off_42 ?_
      refine lv_iload_n hx hb dX10_off_45 rfl (lv_at hl 1 rfl) ?_
      refine lv_iload_n hx hb dX10_off_46 rfl (lv_at hl 2 rfl) ?_
      obtain ⟨r7, y_o8, qq9, h⟩ := bnd2_s h
      replace hW := hW.perm (fo1 (k1 := 7) (by decide) rfl)
      refine cl_X10_354 hx hb hml hown hts hK hN hW (c_X8_switchFor l D T A (ad 7) (oc_X10 T (ad 0) (bb ad) (x_K 0) ++ (wkL T ad x_K (L18.erase 7) ++ Z)) (x_K 7) p1 p2 r7 y_o8 qq9) ⟨Nat.le_of_ble_eq_true rfl, Nat.le_of_ble_eq_true rfl⟩ hl.1 rfl (Nat.le_of_ble_eq_true rfl) dX10_off_47 ⟨Nat.zero_le _, Nat.zero_le _⟩ rfl (fun H locs hW => ?_)
      obtain ⟨z_K10, ez_K10⟩ : ∃ y : Nat → Ob, y = va_up x_K 7 y_o8 := ⟨_, rfl⟩
      replace h := lb_at ez_K10 h
      replace hW := hW.perm (ba1 (K' := z_K10) (k1 := 7) (by decide) (by rw [ez_K10, va_up_ne _ _ (by omega)]) (fun k9 _ n0 => by rw [ez_K10, va_up_ne _ _ n0]) (by rw [ez_K10, va_up_self]; exact rfl))
      obtain ⟨g11, h⟩ := grd_s h
      obtain ⟨e90, e91, e92⟩ := ret3 h
      subst k
      subst r
      subst x_K9
      rw [hQ]
      exact x_retz hx hb hr hlk hW g11 dX10_off_50
    · replace h := ite_t c4 h
      refine lv_aload_n hx hb dX10_off_27 rfl (lv_at hl 0 rfl) ?_
      refine fg_X10_61 (v := .ref (ad 7 0)) hx hb hts hown hK hW 0 rfl (by rw [← hk7]; rfl) dX10_off_28 ?_
      refine lv_iload_n hx hb dX10_off_31 rfl (lv_at hl 1 rfl) ?_
      obtain ⟨r12, y_o13, qq14, h⟩ := bnd2_s h
      replace hW := hW.perm (fo1 (k1 := 7) (by decide) rfl)
      refine cl_X10_351 hx hb hml hown hts hK hN hW (c_X8_switchAltogether l D T A (ad 7) (oc_X10 T (ad 0) (bb ad) (x_K 0) ++ (wkL T ad x_K (L18.erase 7) ++ Z)) (x_K 7) p1 r12 y_o13 qq14) ⟨Nat.le_of_ble_eq_true rfl, Nat.le_of_ble_eq_true rfl⟩ hl.1 rfl (Nat.le_of_ble_eq_true rfl) dX10_off_32 ⟨Nat.zero_le _, Nat.zero_le _⟩ rfl (fun H locs hW => ?_)
      obtain ⟨z_K15, ez_K15⟩ : ∃ y : Nat → Ob, y = va_up x_K 7 y_o13 := ⟨_, rfl⟩
      replace h := lb_at ez_K15 h
      replace hW := hW.perm (ba1 (K' := z_K15) (k1 := 7) (by decide) (by rw [ez_K15, va_up_ne _ _ (by omega)]) (fun k9 _ n0 => by rw [ez_K15, va_up_ne _ _ n0]) (by rw [ez_K15, va_up_self]; exact rfl))
      obtain ⟨g16, h⟩ := grd_s h
      obtain ⟨e90, e91, e92⟩ := ret3 h
      subst k
      subst r
      subst x_K9
      rw [hQ]
      exact x_retz hx hb hr hlk hW g16 dX10_off_35
  · replace h := ite_t c3 h
    obtain ⟨e90, e91, e92⟩ := ret3 h
    subst k
    subst r
    subst x_K9
    rw [hQ]
    exact xtw_177_181 hx hb hfl hown hts hE hW hml hl.1 hout hlk (List.mem_of_getElem? (i := 18) rfl) dX10_off_11 dX10_off_14 dX10_off_15 dX10_off_18 dX10_off_21 (by decide) (Nat.le_of_ble_eq_true rfl)
set_option maxHeartbeats 4000000 in
set_option maxRecDepth 100000 in
theorem c_X10_styleFaults (l : Launch) (hfl : l.stackTraces = false) (D : va_G) (T : Nat → ClassId) (A : Nat → Prop) (ad : Nat → Nat → Nat) (hok : okad ad) (Z : va_W) (x_K : Nat → Ob) (p1 : Int32)  (k : Nat) (r : Int32) (x_K9 : Nat → Ob) (h : f_X10_styleFaults x_K p1 = some (k, r, x_K9)) : vx_Met l yX10_styleFaults (Cond.code yX10_styleFaults cX10_styleFaults 3 (some .int) :: wsL_law) (rmx 7 k) (Px D T A (oc_X10 T (ad 0) (bb ad) (x_K 0) ++ (wkL T ad x_K L18 ++ Z)) [.ref (ad 0 0), .int p1]) (Qxi D A (oc_X10 T (ad 0) (bb ad) (x_K9 0) ++ (wkL T ad x_K9 L18 ++ Z)) k r) (XCx D A (oc_X10 T (ad 0) (bb ad) (x_K9 0) ++ (wkL T ad x_K9 L18 ++ Z)) k) (ex1 k) (ex6 k) A := by
  refine vx_ofW (cc := cX10_styleFaults) (maxL := 3) (ret := (some .int)) (by decide +kernel) rfl ?_
  intro p e s m args below meth c s₁ B hml hout hv
  obtain ⟨ha, hP, hK, hD, hN, hE⟩ := hv
  have hx := B.exec
  have hb := B.bytes
  have hr := B.returns
  have hlk := B.notSynchronized
  have hts : ∀ w ∈ wsL_law, w.before args s = true := fun w hw => atoms_spec B.pre w (List.mem_cons_of_mem _ hw)
  have hown : s.vm.findClass RX10 = some m.cls := findClass_of_methodNamed B.named
  obtain ⟨hk0, hk1, hk2, hk3, hk4, hk5, hk6, hk7, hk9, hk10⟩ := id hok
  have hW : Wd D A s.heap (oc_X10 T (ad 0) (bb ad) (x_K 0) ++ (wkL T ad x_K L18 ++ Z)) s.heap [] := ⟨hP, hD, va_S.rf⟩
  have hl := lv_entry [.ref (ad 0 0), .int p1] (n := 3) (Nat.le_of_ble_eq_true rfl)
  refine W.eq (en_eq ha) ?_
  generalize (lg_sl [.ref (ad 0 0), .int p1] ++ List.replicate (3 - (lg_sl [.ref (ad 0 0), .int p1]).length) Slot.unset).toArray = ls at hl ⊢
  have hl : lv_has ls 3 [(0, .ref (ad 0 0)), (1, .int p1)] := hl
  clear hP hD B ha
  obtain ⟨Q, hQ⟩ : ∃ Q, Q = vx_MQ below (Qxi D A (oc_X10 T (ad 0) (bb ad) (x_K9 0) ++ (wkL T ad x_K9 L18 ++ Z)) k r) (XCx D A (oc_X10 T (ad 0) (bb ad) (x_K9 0) ++ (wkL T ad x_K9 L18 ++ Z)) k) args s (ex1 k) (ex6 k) A := ⟨_, rfl⟩
  rw [← hQ]
  change W p l e (rmx 7 k) s m args below meth c s.heap [] 0 0 Q (F0 m 0 ls [])
  rw [f_X10_styleFaults] at h
  suffices hm : ∀ (H : Heap) (locs : List Loc), Wd D A s.heap (oc_X10 T (ad 0) (bb ad) (x_K 0) ++ (wkL T ad x_K L18 ++ Z)) H locs → W p l e (rmx 7 k) s m args below meth c H locs 0 0 Q (F0 m 0 ls []) from hm _ _ hW
  intro H locs hW
  refine lv_aload_n hx hb dX10_styleFaults_0 rfl (lv_at hl 0 rfl) ?_
  refine lv_iload_n hx hb dX10_styleFaults_1 rfl (lv_at hl 1 rfl) ?_
  obtain ⟨k1, r2, qq3, h⟩ := bnd2_s h
  by_cases hk : k1 = 0
  case neg =>
    replace h := ite_f hk h
    obtain ⟨e90, e91, e92⟩ := ret3 h
    subst k
    subst x_K9
    rw [hQ]
    exact xcx_X10_198 hk hout hlk (List.Perm.refl _) hx hb hml hown hts hK hN hE hW (c_X10_sentenceAt l hfl D T A ad hok Z x_K p1 k1 r2 qq3) ⟨Nat.le_of_ble_eq_true rfl, Nat.le_of_ble_eq_true rfl⟩ rfl hl.1 rfl (Nat.le_of_ble_eq_true rfl) dX10_styleFaults_2
  replace h := ite_t hk h
  subst hk
  refine xc0_X10_198 hx hb hml hown hts hK hN hE hW (c_X10_sentenceAt l hfl D T A ad hok Z x_K p1 0 r2 qq3) ⟨Nat.le_of_ble_eq_true rfl, Nat.le_of_ble_eq_true rfl⟩ rfl hl.1 rfl (Nat.le_of_ble_eq_true rfl) dX10_styleFaults_2 ⟨Nat.zero_le _, Nat.zero_le _⟩ (fun H locs hW => ?_)
  obtain ⟨g4, h⟩ := grd_s h
  have h4hs5 : r2 < 4 := of_decide_eq_true g4
  have hs5 : r2 < 5 := by omega
  refine lv_astore_n (lv' := [(2, .ref (ad (9 + r2) 0)), (0, .ref (ad 0 0)), (1, .int p1)]) hx hb dX10_styleFaults_5 rfl hl (by decide) rfl (fun ls hl => ?_)
  refine lv_aload_n hx hb dX10_styleFaults_6 rfl (lv_at hl 1 rfl) ?_
  refine lv_aload_n hx hb dX10_styleFaults_7 rfl (lv_at hl 0 rfl) ?_
  obtain ⟨z_K6, qq7, h⟩ := bnd1_s h
  refine cl_X10_227 hx hb hml hown hts hK hN hW (c_X10_strikeAsNeeded l D T A ad hok Z x_K r2 hs5 z_K6 qq7) ⟨Nat.le_of_ble_eq_true rfl, Nat.le_of_ble_eq_true rfl⟩ hl.1 rfl (Nat.le_of_ble_eq_true rfl) dX10_styleFaults_8 ⟨Nat.zero_le _, Nat.zero_le _⟩ rfl (fun H locs hW => ?_)
  refine lv_aload_n hx hb dX10_styleFaults_11 rfl (lv_at hl 1 rfl) ?_
  refine fg_X10_61 (v := .ref (ad 7 0)) hx hb hts hown hK hW 0 rfl (by rw [← hk7]; rfl) dX10_styleFaults_12 ?_
  refine lv_aload_n hx hb dX10_styleFaults_15 rfl (lv_at hl 0 rfl) ?_
  obtain ⟨r8, qq9, h⟩ := bnd1_s h
  replace hW := hW.perm (fo2 (k1 := 7) (k2 := (9 + r2)) (by decide) (mS hs5) (by omega) rfl (cS hs5))
  refine cl_X10_357 hx hb hml hown hts hK hN hW (c_X8_countFaults l D T A (ad 7) (ad (9 + r2)) (oc_X10 T (ad 0) (bb ad) (z_K6 0) ++ (wkL T ad z_K6 ((L18.erase 7).erase (9 + r2)) ++ Z)) (z_K6 7) (z_K6 (9 + r2)) r8 qq9) ⟨Nat.le_of_ble_eq_true rfl, Nat.le_of_ble_eq_true rfl⟩ hl.1 rfl (Nat.le_of_ble_eq_true rfl) dX10_styleFaults_16 ⟨Nat.zero_le _, Nat.zero_le _⟩ rfl (fun H locs hW => ?_)
  replace hW := hW.perm (fo2 (k1 := 7) (k2 := (9 + r2)) (by decide) (mS hs5) (by omega) rfl (cS hs5)).symm
  obtain ⟨e90, e91, e92⟩ := ret3 h
  subst k
  subst r
  subst x_K9
  rw [hQ]
  exact x_reti hx hb hr hlk hW dX10_styleFaults_19
set_option maxHeartbeats 4000000 in
set_option maxRecDepth 100000 in
theorem c_X10_styleFault (l : Launch) (hfl : l.stackTraces = false) (D : va_G) (T : Nat → ClassId) (A : Nat → Prop) (ad : Nat → Nat → Nat) (hok : okad ad) (Z : va_W) (x_K : Nat → Ob) (p1 : Int32) (p2 : Int32)  (k : Nat) (r : Int32) (x_K9 : Nat → Ob) (h : f_X10_styleFault x_K p1 p2 = some (k, r, x_K9)) : vx_Met l yX10_styleFault (Cond.code yX10_styleFault cX10_styleFault 5 (some .int) :: wsL_law) (rmx 7 k) (Px D T A (oc_X10 T (ad 0) (bb ad) (x_K 0) ++ (wkL T ad x_K L18 ++ Z)) [.ref (ad 0 0), .int p1, .int p2]) (Qxi D A (oc_X10 T (ad 0) (bb ad) (x_K9 0) ++ (wkL T ad x_K9 L18 ++ Z)) k r) (XCx D A (oc_X10 T (ad 0) (bb ad) (x_K9 0) ++ (wkL T ad x_K9 L18 ++ Z)) k) (ex1 k) (ex6 k) A := by
  refine vx_ofW (cc := cX10_styleFault) (maxL := 5) (ret := (some .int)) (by decide +kernel) rfl ?_
  intro p e s m args below meth c s₁ B hml hout hv
  obtain ⟨ha, hP, hK, hD, hN, hE⟩ := hv
  have hx := B.exec
  have hb := B.bytes
  have hr := B.returns
  have hlk := B.notSynchronized
  have hts : ∀ w ∈ wsL_law, w.before args s = true := fun w hw => atoms_spec B.pre w (List.mem_cons_of_mem _ hw)
  have hown : s.vm.findClass RX10 = some m.cls := findClass_of_methodNamed B.named
  obtain ⟨hk0, hk1, hk2, hk3, hk4, hk5, hk6, hk7, hk9, hk10⟩ := id hok
  have hW : Wd D A s.heap (oc_X10 T (ad 0) (bb ad) (x_K 0) ++ (wkL T ad x_K L18 ++ Z)) s.heap [] := ⟨hP, hD, va_S.rf⟩
  have hl := lv_entry [.ref (ad 0 0), .int p1, .int p2] (n := 5) (Nat.le_of_ble_eq_true rfl)
  refine W.eq (en_eq ha) ?_
  generalize (lg_sl [.ref (ad 0 0), .int p1, .int p2] ++ List.replicate (5 - (lg_sl [.ref (ad 0 0), .int p1, .int p2]).length) Slot.unset).toArray = ls at hl ⊢
  have hl : lv_has ls 5 [(0, .ref (ad 0 0)), (1, .int p1), (2, .int p2)] := hl
  clear hP hD B ha
  obtain ⟨Q, hQ⟩ : ∃ Q, Q = vx_MQ below (Qxi D A (oc_X10 T (ad 0) (bb ad) (x_K9 0) ++ (wkL T ad x_K9 L18 ++ Z)) k r) (XCx D A (oc_X10 T (ad 0) (bb ad) (x_K9 0) ++ (wkL T ad x_K9 L18 ++ Z)) k) args s (ex1 k) (ex6 k) A := ⟨_, rfl⟩
  rw [← hQ]
  change W p l e (rmx 7 k) s m args below meth c s.heap [] 0 0 Q (F0 m 0 ls [])
  rw [f_X10_styleFault] at h
  suffices hm : ∀ (H : Heap) (locs : List Loc), Wd D A s.heap (oc_X10 T (ad 0) (bb ad) (x_K 0) ++ (wkL T ad x_K L18 ++ Z)) H locs → W p l e (rmx 7 k) s m args below meth c H locs 0 0 Q (F0 m 0 ls []) from hm _ _ hW
  intro H locs hW
  refine lv_aload_n hx hb dX10_styleFault_0 rfl (lv_at hl 0 rfl) ?_
  refine lv_iload_n hx hb dX10_styleFault_1 rfl (lv_at hl 1 rfl) ?_
  obtain ⟨k1, r2, qq3, h⟩ := bnd2_s h
  by_cases hk : k1 = 0
  case neg =>
    replace h := ite_f hk h
    obtain ⟨e90, e91, e92⟩ := ret3 h
    subst k
    subst x_K9
    rw [hQ]
    exact xcx_X10_198 hk hout hlk (List.Perm.refl _) hx hb hml hown hts hK hN hE hW (c_X10_sentenceAt l hfl D T A ad hok Z x_K p1 k1 r2 qq3) ⟨Nat.le_of_ble_eq_true rfl, Nat.le_of_ble_eq_true rfl⟩ rfl hl.1 rfl (Nat.le_of_ble_eq_true rfl) dX10_styleFault_2
  replace h := ite_t hk h
  subst hk
  refine xc0_X10_198 hx hb hml hown hts hK hN hE hW (c_X10_sentenceAt l hfl D T A ad hok Z x_K p1 0 r2 qq3) ⟨Nat.le_of_ble_eq_true rfl, Nat.le_of_ble_eq_true rfl⟩ rfl hl.1 rfl (Nat.le_of_ble_eq_true rfl) dX10_styleFault_2 ⟨Nat.zero_le _, Nat.zero_le _⟩ (fun H locs hW => ?_)
  obtain ⟨g4, h⟩ := grd_s h
  have h4hs5 : r2 < 4 := of_decide_eq_true g4
  have hs5 : r2 < 5 := by omega
  refine lv_astore_n (lv' := [(3, .ref (ad (9 + r2) 0)), (0, .ref (ad 0 0)), (1, .int p1), (2, .int p2)]) hx hb dX10_styleFault_5 rfl hl (by decide) rfl (fun ls hl => ?_)
  refine lv_aload_n hx hb dX10_styleFault_6 rfl (lv_at hl 1 rfl) ?_
  refine lv_aload_n hx hb dX10_styleFault_7 rfl (lv_at hl 0 rfl) ?_
  obtain ⟨z_K6, qq7, h⟩ := bnd1_s h
  refine cl_X10_227 hx hb hml hown hts hK hN hW (c_X10_strikeAsNeeded l D T A ad hok Z x_K r2 hs5 z_K6 qq7) ⟨Nat.le_of_ble_eq_true rfl, Nat.le_of_ble_eq_true rfl⟩ hl.1 rfl (Nat.le_of_ble_eq_true rfl) dX10_styleFault_8 ⟨Nat.zero_le _, Nat.zero_le _⟩ rfl (fun H locs hW => ?_)
  refine lv_aload_n hx hb dX10_styleFault_11 rfl (lv_at hl 1 rfl) ?_
  refine fg_X10_61 (v := .ref (ad 7 0)) hx hb hts hown hK hW 0 rfl (by rw [← hk7]; rfl) dX10_styleFault_12 ?_
  refine lv_aload_n hx hb dX10_styleFault_15 rfl (lv_at hl 0 rfl) ?_
  refine lv_iload_n hx hb dX10_styleFault_16 rfl (lv_at hl 3 rfl) ?_
  obtain ⟨r8, qq9, h⟩ := bnd1_s h
  replace hW := hW.perm (fo2 (k1 := 7) (k2 := (9 + r2)) (by decide) (mS hs5) (by omega) rfl (cS hs5))
  refine cl_X10_361 hx hb hml hown hts hK hN hW (c_X8_faultNumber l D T A (ad 7) (ad (9 + r2)) (oc_X10 T (ad 0) (bb ad) (z_K6 0) ++ (wkL T ad z_K6 ((L18.erase 7).erase (9 + r2)) ++ Z)) (z_K6 7) (z_K6 (9 + r2)) p2 r8 qq9) ⟨Nat.le_of_ble_eq_true rfl, Nat.le_of_ble_eq_true rfl⟩ hl.1 rfl (Nat.le_of_ble_eq_true rfl) dX10_styleFault_17 ⟨Nat.zero_le _, Nat.zero_le _⟩ rfl (fun H locs hW => ?_)
  replace hW := hW.perm (fo2 (k1 := 7) (k2 := (9 + r2)) (by decide) (mS hs5) (by omega) rfl (cS hs5)).symm
  refine lv_istore (lv' := [(4, .int r8), (3, .ref (ad (9 + r2) 0)), (0, .ref (ad 0 0)), (1, .int p1), (2, .int p2)]) hx hb dX10_styleFault_20 hl (by decide) rfl (fun ls hl => ?_)
  refine lv_iload hx hb dX10_styleFault_22 (lv_at hl 0 rfl) ?_
  refine lv_iconst (v := (-1)) hx hb dX10_styleFault_24 (by decide) ?_
  refine lv_icmp_ne (tgt := 39) hx hb dX10_styleFault_25 (by decide) (fun c10 => ?_) (fun c10 => ?_)
  · replace h := ite_f c10 h
    refine lv_iload hx hb dX10_styleFault_39 (lv_at hl 0 rfl) ?_
    obtain ⟨e90, e91, e92⟩ := ret3 h
    subst k
    subst r
    subst x_K9
    rw [hQ]
    exact x_reti hx hb hr hlk hW dX10_styleFault_41
  · replace h := ite_t c10 h
    obtain ⟨e90, e91, e92⟩ := ret3 h
    subst k
    subst r
    subst x_K9
    rw [hQ]
    exact xtw_177_181 hx hb hfl hown hts hE hW hml hl.1 hout hlk (List.mem_of_getElem? (i := 21) rfl) dX10_styleFault_28 dX10_styleFault_31 dX10_styleFault_32 dX10_styleFault_35 dX10_styleFault_38 (by decide) (Nat.le_of_ble_eq_true rfl)
