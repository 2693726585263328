set_option maxHeartbeats 4000000 in
set_option maxRecDepth 100000 in
theorem c_X10_word (l : Launch) (hfl : l.stackTraces = false) (D : va_G) (T : Nat → ClassId) (A : Nat → Prop) (ad : Nat → Nat → Nat) (hok : okad ad) (Z : va_W) (x_K : Nat → Ob) (p1 : Int32)  (k : Nat) (r : Int32) (x_K9 : Nat → Ob) (h : f_X10_word x_K p1 = some (k, r, x_K9)) : vx_Met l yX10_word (Cond.code yX10_word cX10_word 2 (some .int) :: wsL_law) (rmx 6 k) (Px D T A (oc_X10 T (ad 0) (bb ad) (x_K 0) ++ (wkL T ad x_K L18 ++ Z)) [.ref (ad 0 0), .int p1]) (Qxi D A (oc_X10 T (ad 0) (bb ad) (x_K9 0) ++ (wkL T ad x_K9 L18 ++ Z)) k r) (XCx D A (oc_X10 T (ad 0) (bb ad) (x_K9 0) ++ (wkL T ad x_K9 L18 ++ Z)) k) (ex1 k) (ex6 k) A := by
  refine vx_ofW (cc := cX10_word) (maxL := 2) (ret := (some .int)) (by decide +kernel) rfl ?_
  intro p e s m args below meth c s₁ B hml hout hv
  obtain ⟨ha, hP, hK, hD, hN, hE⟩ := hv
  have hx := B.exec
  have hb := B.bytes
  have hr := B.returns
  have hlk := B.notSynchronized
  have hts : ∀ w ∈ wsL_law, w.before args s = true := fun w hw => atoms_spec B.pre w (List.mem_cons_of_mem _ hw)
  have hown : s.vm.findClass RX10 = some m.cls := findClass_of_methodNamed B.named
  obtain ⟨hk0, hk1, hk2, hk3, hk4, hk5, hk6, hk7, hk9, hk10⟩ := id hok
  have hW : Wd D A s.heap (oc_X10 T (ad 0) (bb ad) (x_K 0) ++ (wkL T ad x_K L18 ++ Z)) s.heap [] := ⟨hP, hD, va_S.rf⟩
  have hl := lv_entry [.ref (ad 0 0), .int p1] (n := 2) (Nat.le_of_ble_eq_true rfl)
  refine W.eq (en_eq ha) ?_
  generalize (lg_sl [.ref (ad 0 0), .int p1] ++ List.replicate (2 - (lg_sl [.ref (ad 0 0), .int p1]).length) Slot.unset).toArray = ls at hl ⊢
  have hl : lv_has ls 2 [(0, .ref (ad 0 0)), (1, .int p1)] := hl
  clear hP hD B ha
  obtain ⟨Q, hQ⟩ : ∃ Q, Q = vx_MQ below (Qxi D A (oc_X10 T (ad 0) (bb ad) (x_K9 0) ++ (wkL T ad x_K9 L18 ++ Z)) k r) (XCx D A (oc_X10 T (ad 0) (bb ad) (x_K9 0) ++ (wkL T ad x_K9 L18 ++ Z)) k) args s (ex1 k) (ex6 k) A := ⟨_, rfl⟩
  rw [← hQ]
  change W p l e (rmx 6 k) s m args below meth c s.heap [] 0 0 Q (F0 m 0 ls [])
  rw [f_X10_word] at h
  suffices hm : ∀ (H : Heap) (locs : List Loc), Wd D A s.heap (oc_X10 T (ad 0) (bb ad) (x_K 0) ++ (wkL T ad x_K L18 ++ Z)) H locs → W p l e (rmx 6 k) s m args below meth c H locs 0 0 Q (F0 m 0 ls []) from hm _ _ hW
  intro H locs hW
  refine lv_iload_n hx hb dX10_word_0 rfl (lv_at hl 1 rfl) ?_
  refine lv_bipush (v := 10) hx hb dX10_word_1 (by decide) ?_
  obtain ⟨r1, qq2, h⟩ := bnd1_s h
  refine cl_X10_87 hx hb hml hown hts hK hN hW (c_X10_isBelow l D T A (oc_X10 T (ad 0) (bb ad) (x_K 0) ++ (wkL T ad x_K L18 ++ Z)) p1 10 r1 qq2) ⟨Nat.le_of_ble_eq_true rfl, Nat.le_of_ble_eq_true rfl⟩ hl.1 rfl (Nat.le_of_ble_eq_true rfl) dX10_word_3 ⟨Nat.zero_le _, Nat.zero_le _⟩ rfl (fun H locs hW => ?_)
  refine lv_if_ne (tgt := 19) hx hb dX10_word_6 (by decide) (fun c3 => ?_) (fun c3 => ?_)
  · replace h := ite_f c3 h
    refine lv_aload_n hx hb dX10_word_19 rfl (lv_at hl 0 rfl) ?_
    refine fg_X10_12 (v := .ref (ad 1 0)) hx hb hts hown hK hW 0 rfl (by rw [← hk0]; rfl) dX10_word_20 ?_
    obtain ⟨r4, qq5, h⟩ := bnd1_s h
    replace hW := hW.perm (fo1 (k1 := 1) (by decide) rfl)
    refine cl_X10_98 hx hb hml hown hts hK hN hW (c_X3_isFull l D T A (ad 1) (oc_X10 T (ad 0) (bb ad) (x_K 0) ++ (wkL T ad x_K (L18.erase 1) ++ Z)) (x_K 1) r4 qq5) ⟨Nat.le_of_ble_eq_true rfl, Nat.le_of_ble_eq_true rfl⟩ hl.1 rfl (Nat.le_of_ble_eq_true rfl) dX10_word_23 ⟨Nat.zero_le _, Nat.zero_le _⟩ rfl (fun H locs hW => ?_)
    replace hW := hW.perm (fo1 (k1 := 1) (by decide) rfl).symm
    refine lv_if_eq (tgt := 39) hx hb dX10_word_26 (by decide) (fun c6 => ?_) (fun c6 => ?_)
    · replace h := ite_t c6 h
      refine lv_aload_n hx hb dX10_word_39 rfl (lv_at hl 0 rfl) ?_
      refine fg_X10_12 (v := .ref (ad 1 0)) hx hb hts hown hK hW 0 rfl (by rw [← hk0]; rfl) dX10_word_40 ?_
      refine lv_iload_n hx hb dX10_word_43 rfl (lv_at hl 1 rfl) ?_
      obtain ⟨r7, y_o8, qq9, h⟩ := bnd2_s h
      replace hW := hW.perm (fo1 (k1 := 1) (by decide) rfl)
      refine cl_X10_107 hx hb hml hown hts hK hN hW (c_X3_addWord l D T A (ad 1) (oc_X10 T (ad 0) (bb ad) (x_K 0) ++ (wkL T ad x_K (L18.erase 1) ++ Z)) (x_K 1) p1 r7 y_o8 qq9) ⟨Nat.le_of_ble_eq_true rfl, Nat.le_of_ble_eq_true rfl⟩ hl.1 rfl (Nat.le_of_ble_eq_true rfl) dX10_word_44 ⟨Nat.zero_le _, Nat.zero_le _⟩ rfl (fun H locs hW => ?_)
      obtain ⟨z_K10, ez_K10⟩ : ∃ y : Nat → Ob, y = va_up x_K 1 y_o8 := ⟨_, rfl⟩
      replace h := lb_at ez_K10 h
      replace hW := hW.perm (ba1 (K' := z_K10) (k1 := 1) (by decide) (by rw [ez_K10, va_up_ne _ _ (by omega)]) (fun k9 _ n0 => by rw [ez_K10, va_up_ne _ _ n0]) (by rw [ez_K10, va_up_self]; exact rfl))
      obtain ⟨e90, e91, e92⟩ := ret3 h
      subst k
      subst r
      subst x_K9
      rw [hQ]
      exact x_reti hx hb hr hlk hW dX10_word_47
    · replace h := ite_f c6 h
      obtain ⟨e90, e91, e92⟩ := ret3 h
      subst k
      subst r
      subst x_K9
      rw [hQ]
      exact xt_102_106 hx hb hfl hown hts hE hW hml hl.1 hout hlk (List.mem_of_getElem? (i := 1) rfl) dX10_word_29 dX10_word_32 dX10_word_33 dX10_word_35 dX10_word_38 (by decide) (Nat.le_of_ble_eq_true rfl)
  · replace h := ite_t c3 h
    obtain ⟨e90, e91, e92⟩ := ret3 h
    subst k
    subst r
    subst x_K9
    rw [hQ]
    exact xt_91_95 hx hb hfl hown hts hE hW hml hl.1 hout hlk (List.mem_of_getElem? (i := 0) rfl) dX10_word_9 dX10_word_12 dX10_word_13 dX10_word_15 dX10_word_18 (by decide) (Nat.le_of_ble_eq_true rfl)
set_option maxHeartbeats 4000000 in
set_option maxRecDepth 100000 in
theorem c_X10_requireWord (l : Launch) (hfl : l.stackTraces = false) (D : va_G) (T : Nat → ClassId) (A : Nat → Prop) (ad : Nat → Nat → Nat) (hok : okad ad) (Z : va_W) (x_K : Nat → Ob) (p1 : Int32)  (k : Nat) (h : f_X10_requireWord x_K p1 = some k) : vx_Met l yX10_requireWord (Cond.code yX10_requireWord cX10_requireWord 2 none :: wsL_law) (rmx 6 k) (Px D T A (oc_X10 T (ad 0) (bb ad) (x_K 0) ++ (wkL T ad x_K L18 ++ Z)) [.ref (ad 0 0), .int p1]) (Qxv D A (oc_X10 T (ad 0) (bb ad) (x_K 0) ++ (wkL T ad x_K L18 ++ Z)) k) (XCx D A (oc_X10 T (ad 0) (bb ad) (x_K 0) ++ (wkL T ad x_K L18 ++ Z)) k) (ex1 k) (ex6 k) A := by
  refine vx_ofW (cc := cX10_requireWord) (maxL := 2) (ret := none) (by decide +kernel) rfl ?_
  intro p e s m args below meth c s₁ B hml hout hv
  obtain ⟨ha, hP, hK, hD, hN, hE⟩ := hv
  have hx := B.exec
  have hb := B.bytes
  have hr := B.returns
  have hlk := B.notSynchronized
  have hts : ∀ w ∈ wsL_law, w.before args s = true := fun w hw => atoms_spec B.pre w (List.mem_cons_of_mem _ hw)
  have hown : s.vm.findClass RX10 = some m.cls := findClass_of_methodNamed B.named
  obtain ⟨hk0, hk1, hk2, hk3, hk4, hk5, hk6, hk7, hk9, hk10⟩ := id hok
  have hW : Wd D A s.heap (oc_X10 T (ad 0) (bb ad) (x_K 0) ++ (wkL T ad x_K L18 ++ Z)) s.heap [] := ⟨hP, hD, va_S.rf⟩
  have hl := lv_entry [.ref (ad 0 0), .int p1] (n := 2) (Nat.le_of_ble_eq_true rfl)
  refine W.eq (en_eq ha) ?_
  generalize (lg_sl [.ref (ad 0 0), .int p1] ++ List.replicate (2 - (lg_sl [.ref (ad 0 0), .int p1]).length) Slot.unset).toArray = ls at hl ⊢
  have hl : lv_has ls 2 [(0, .ref (ad 0 0)), (1, .int p1)] := hl
  clear hP hD B ha
  obtain ⟨Q, hQ⟩ : ∃ Q, Q = vx_MQ below (Qxv D A (oc_X10 T (ad 0) (bb ad) (x_K 0) ++ (wkL T ad x_K L18 ++ Z)) k) (XCx D A (oc_X10 T (ad 0) (bb ad) (x_K 0) ++ (wkL T ad x_K L18 ++ Z)) k) args s (ex1 k) (ex6 k) A := ⟨_, rfl⟩
  rw [← hQ]
  change W p l e (rmx 6 k) s m args below meth c s.heap [] 0 0 Q (F0 m 0 ls [])
  rw [f_X10_requireWord] at h
  suffices hm : ∀ (H : Heap) (locs : List Loc), Wd D A s.heap (oc_X10 T (ad 0) (bb ad) (x_K 0) ++ (wkL T ad x_K L18 ++ Z)) H locs → W p l e (rmx 6 k) s m args below meth c H locs 0 0 Q (F0 m 0 ls []) from hm _ _ hW
  intro H locs hW
  refine lv_aload_n hx hb dX10_requireWord_0 rfl (lv_at hl 0 rfl) ?_
  refine fg_X10_12 (v := .ref (ad 1 0)) hx hb hts hown hK hW 0 rfl (by rw [← hk0]; rfl) dX10_requireWord_1 ?_
  refine lv_iload_n hx hb dX10_requireWord_4 rfl (lv_at hl 1 rfl) ?_
  obtain ⟨r1, qq2, h⟩ := bnd1_s h
  replace hW := hW.perm (fo1 (k1 := 1) (by decide) rfl)
  refine cl_X10_367 hx hb hml hown hts hK hN hW (c_X3_hasWord l D T A (ad 1) (oc_X10 T (ad 0) (bb ad) (x_K 0) ++ (wkL T ad x_K (L18.erase 1) ++ Z)) (x_K 1) p1 r1 qq2) ⟨Nat.le_of_ble_eq_true rfl, Nat.le_of_ble_eq_true rfl⟩ hl.1 rfl (Nat.le_of_ble_eq_true rfl) dX10_requireWord_5 ⟨Nat.zero_le _, Nat.zero_le _⟩ rfl (fun H locs hW => ?_)
  replace hW := hW.perm (fo1 (k1 := 1) (by decide) rfl).symm
  refine lv_if_ne (tgt := 22) hx hb dX10_requireWord_8 (by decide) (fun c3 => ?_) (fun c3 => ?_)
  · replace h := ite_f c3 h
    have e90 := ret1 h
    subst k
    rw [hQ]
    exact x_retv hx hb hr hlk hW dX10_requireWord_22
  · replace h := ite_t c3 h
    have e90 := ret1 h
    subst k
    rw [hQ]
    exact xtw_177_181 hx hb hfl hown hts hE hW hml hl.1 hout hlk (List.mem_of_getElem? (i := 22) rfl) dX10_requireWord_11 dX10_requireWord_14 dX10_requireWord_15 dX10_requireWord_18 dX10_requireWord_21 (by decide) (Nat.le_of_ble_eq_true rfl)
set_option maxHeartbeats 4000000 in
set_option maxRecDepth 100000 in
theorem c_X10_outdateAll (l : Launch) (D : va_G) (T : Nat → ClassId) (A : Nat → Prop) (ad : Nat → Nat → Nat) (hok : okad ad) (Z : va_W) (x_K : Nat → Ob)  (x_K9 : Nat → Ob) (h : f_X10_outdateAll x_K = some x_K9) : Met l yX10_outdateAll (Cond.code yX10_outdateAll cX10_outdateAll 2 none :: wsL_law) (rmd 1) (Pg D T A (oc_X10 T (ad 0) (bb ad) (x_K 0) ++ (wkL T ad x_K L18 ++ Z)) [.ref (ad 0 0)]) (Qgv D A (oc_X10 T (ad 0) (bb ad) (x_K9 0) ++ (wkL T ad x_K9 L18 ++ Z))) 0 0 A := by
  refine Met.ofW (cc := cX10_outdateAll) (maxL := 2) (ret := none) (by decide +kernel) rfl ?_
  intro p e s m args below meth c s₁ B hml hv
  obtain ⟨ha, hP, hK, hD, hN⟩ := hv
  have hx := B.exec
  have hb := B.bytes
  have hr := B.returns
  have hlk := B.notSynchronized
  have hts : ∀ w ∈ wsL_law, w.before args s = true := fun w hw => atoms_spec B.pre w (List.mem_cons_of_mem _ hw)
  have hown : s.vm.findClass RX10 = some m.cls := findClass_of_methodNamed B.named
  obtain ⟨hk0, hk1, hk2, hk3, hk4, hk5, hk6, hk7, hk9, hk10⟩ := id hok
  have hW : Wd D A s.heap (oc_X10 T (ad 0) (bb ad) (x_K 0) ++ (wkL T ad x_K L18 ++ Z)) s.heap [] := ⟨hP, hD, va_S.rf⟩
  have hl := lv_entry [.ref (ad 0 0)] (n := 2) (Nat.le_of_ble_eq_true rfl)
  refine W.eq (en_eq ha) ?_
  generalize (lg_sl [.ref (ad 0 0)] ++ List.replicate (2 - (lg_sl [.ref (ad 0 0)]).length) Slot.unset).toArray = ls at hl ⊢
  have hl : lv_has ls 2 [(0, .ref (ad 0 0))] := hl
  clear hP hD B ha
  obtain ⟨Q, hQ⟩ : ∃ Q, Q = MQ below (Qgv D A (oc_X10 T (ad 0) (bb ad) (x_K9 0) ++ (wkL T ad x_K9 L18 ++ Z))) args s 0 0 A := ⟨_, rfl⟩
  rw [← hQ]
  change W p l e (rmd 1) s m args below meth c s.heap [] 0 0 Q (F0 m 0 ls [])
  have L2 : ∀ (n : Nat) (x_K_2 : Nat → Ob) (v1_2 : Int32) (H : Heap) (locs : List Loc) (ls : Array Slot) (o1_2r : Int32) (y_K_2r : Nat → Ob), Wd D A s.heap (oc_X10 T (ad 0) (bb ad) (x_K_2 0) ++ (wkL T ad x_K_2 L18 ++ Z)) H locs → lv_has ls 2 [(0, .ref (ad 0 0)), (1, .int v1_2)] → f_X10_outdateAll_L2 n x_K_2 v1_2 = some (o1_2r, y_K_2r) → (∀ (H : Heap) (locs : List Loc) (ls : Array Slot), Wd D A s.heap (oc_X10 T (ad 0) (bb ad) (y_K_2r 0) ++ (wkL T ad y_K_2r L18 ++ Z)) H locs → lv_has ls 2 [] → W p l e (rmd 1) s m args below meth c H locs 0 0 Q (F0 m 26 ls [])) → W p l e (rmd 1) s m args below meth c H locs 0 0 Q (F0 m 2 ls []) := by
    intro n
    induction n with
    | zero =>
      intro x_K_2 v1_2 H locs ls o1_2r y_K_2r hW hl h k1
      rw [f_X10_outdateAll_L2] at h
      cases h
    | succ n ih =>
      intro x_K_2 v1_2 H locs ls o1_2r y_K_2r hW hl h k1
      rw [f_X10_outdateAll_L2] at h
      refine lv_iload_n hx hb dX10_outdateAll_2 rfl (lv_at hl 1 rfl) ?_
      refine lv_aload_n hx hb dX10_outdateAll_3 rfl (lv_at hl 0 rfl) ?_
      refine fg_X10_67 (v := .ref (ad 0 1)) hx hb hts hown hK hW 0 rfl rfl dX10_outdateAll_4 ?_
      refine g_alen (v := 4) hx hb hK hW 1 2 rfl rfl rfl dX10_outdateAll_7 ?_
      refine lv_icmp_ge (tgt := 26) hx hb dX10_outdateAll_8 (by decide) (fun c1 => ?_) (fun c1 => ?_)
      · replace h := ite_t c1 h
        obtain ⟨rfl, rfl⟩ := ret2 h
        exact k1 H locs ls hW (lv_sub hl [] rfl)
      · replace h := ite_f c1 h
        refine lv_aload_n hx hb dX10_outdateAll_11 rfl (lv_at hl 0 rfl) ?_
        refine fg_X10_67 (v := .ref (ad 0 1)) hx hb hts hown hK hW 0 rfl rfl dX10_outdateAll_12 ?_
        refine lv_iload_n hx hb dX10_outdateAll_15 rfl (lv_at hl 1 rfl) ?_
        obtain ⟨g2, h⟩ := grd_s h
        have hs3 : v1_2.toNatClampNeg < 5 := Nat.lt_of_lt_of_le (gd_lt g2) (by decide)
        refine g_aldq (b := ad (9 + v1_2.toNatClampNeg) 0) hx hb hK hW 1 rfl g2 rfl dX10_outdateAll_16 ?_
        obtain ⟨y_o4, qq5, h⟩ := bnd1_s h
        replace hW := hW.perm (fo1 (k1 := (9 + v1_2.toNatClampNeg)) (mS hs3) (cS hs3))
        refine cl_X10_207 hx hb hml hown hts hK hN hW (c_X6_outdate l D T A (ad (9 + v1_2.toNatClampNeg)) (oc_X10 T (ad 0) (bb ad) (x_K_2 0) ++ (wkL T ad x_K_2 (L18.erase (9 + v1_2.toNatClampNeg)) ++ Z)) (x_K_2 (9 + v1_2.toNatClampNeg)) y_o4 qq5) ⟨Nat.le_of_ble_eq_true rfl, Nat.le_of_ble_eq_true rfl⟩ hl.1 rfl (Nat.le_of_ble_eq_true rfl) dX10_outdateAll_17 ⟨Nat.zero_le _, Nat.zero_le _⟩ rfl (fun H locs hW => ?_)
        obtain ⟨z_K6, ez_K6⟩ : ∃ y : Nat → Ob, y = va_up x_K_2 (9 + v1_2.toNatClampNeg) y_o4 := ⟨_, rfl⟩
        replace h := lb_at ez_K6 h
        replace hW := hW.perm (ba1 (K' := z_K6) (k1 := (9 + v1_2.toNatClampNeg)) (mS hs3) (by rw [ez_K6, va_up_ne _ _ (by omega)]) (fun k9 _ n0 => by rw [ez_K6, va_up_ne _ _ n0]) (by rw [ez_K6, va_up_self]; exact (cS hs3)))
        obtain ⟨w1_7, ew1_7⟩ : ∃ y : Int32, y = v1_2 + 1 := ⟨_, rfl⟩
        replace h := lb_at ew1_7 h
        refine lv_iinc (v := w1_7) (lv' := [(1, .int w1_7), (0, .ref (ad 0 0))]) hx hb dX10_outdateAll_20 hl (k := 1) rfl (by rw [ew1_7]; rfl) (by decide) rfl (fun ls hl => ?_)
        refine lv_goto (tgt := 2) hx hb dX10_outdateAll_23 (by decide) ?_
        exact ih _ _ H locs ls _ _ hW (lv_sub hl [1, 0] rfl) h k1
  rw [f_X10_outdateAll] at h
  suffices hm : ∀ (H : Heap) (locs : List Loc), Wd D A s.heap (oc_X10 T (ad 0) (bb ad) (x_K 0) ++ (wkL T ad x_K L18 ++ Z)) H locs → W p l e (rmd 1) s m args below meth c H locs 0 0 Q (F0 m 0 ls []) from hm _ _ hW
  intro H locs hW
  refine lv_iconst (v := 0) hx hb dX10_outdateAll_0 (by decide) ?_
  refine lv_istore_n (lv' := [(1, .int 0), (0, .ref (ad 0 0))]) hx hb dX10_outdateAll_1 rfl hl (by decide) rfl (fun ls hl => ?_)
  obtain ⟨o1_u8, y_K_u8, qq9, h⟩ := bnd2_s h
  refine L2 200 _ _ H locs ls o1_u8 y_K_u8 hW (lv_sub hl [1, 0] rfl) qq9 (fun H locs ls hW hl => ?_)
  have e90 := ret1 h
  subst x_K9
  rw [hQ]
  exact g_retv hx hb hr hlk hW dX10_outdateAll_26
set_option maxHeartbeats 4000000 in
set_option maxRecDepth 100000 in
theorem c_X10_reading (l : Launch) (hfl : l.stackTraces = false) (D : va_G) (T : Nat → ClassId) (A : Nat → Prop) (ad : Nat → Nat → Nat) (hok : okad ad) (Z : va_W) (x_K : Nat → Ob) (p1 : Int32) (p2 : Int32) (p3 : Int32) (p4 : Int32) (p5 : Int32) (p6 : Int32)  (k : Nat) (r : Int32) (x_K9 : Nat → Ob) (h : f_X10_reading x_K p1 p2 p3 p4 p5 p6 = some (k, r, x_K9)) : vx_Met l yX10_reading (Cond.code yX10_reading cX10_reading 8 (some .int) :: wsL_law) (rmx 7 k) (Px D T A (oc_X10 T (ad 0) (bb ad) (x_K 0) ++ (wkL T ad x_K L18 ++ Z)) [.ref (ad 0 0), .int p1, .int p2, .int p3, .int p4, .int p5, .int p6]) (Qxi D A (oc_X10 T (ad 0) (bb ad) (x_K9 0) ++ (wkL T ad x_K9 L18 ++ Z)) k r) (XCx D A (oc_X10 T (ad 0) (bb ad) (x_K9 0) ++ (wkL T ad x_K9 L18 ++ Z)) k) (ex1 k) (ex6 k) A := by
  refine vx_ofW (cc := cX10_reading) (maxL := 8) (ret := (some .int)) (by decide +kernel) rfl ?_
  intro p e s m args below meth c s₁ B hml hout hv
  obtain ⟨ha, hP, hK, hD, hN, hE⟩ := hv
  have hx := B.exec
  have hb := B.bytes
  have hr := B.returns
  have hlk := B.notSynchronized
  have hts : ∀ w ∈ wsL_law, w.before args s = true := fun w hw => atoms_spec B.pre w (List.mem_cons_of_mem _ hw)
  have hown : s.vm.findClass RX10 = some m.cls := findClass_of_methodNamed B.named
  obtain ⟨hk0, hk1, hk2, hk3, hk4, hk5, hk6, hk7, hk9, hk10⟩ := id hok
  have hW : Wd D A s.heap (oc_X10 T (ad 0) (bb ad) (x_K 0) ++ (wkL T ad x_K L18 ++ Z)) s.heap [] := ⟨hP, hD, va_S.rf⟩
  have hl := lv_entry [.ref (ad 0 0), .int p1, .int p2, .int p3, .int p4, .int p5, .int p6] (n := 8) (Nat.le_of_ble_eq_true rfl)
  refine W.eq (en_eq ha) ?_
  generalize (lg_sl [.ref (ad 0 0), .int p1, .int p2, .int p3, .int p4, .int p5, .int p6] ++ List.replicate (8 - (lg_sl [.ref (ad 0 0), .int p1, .int p2, .int p3, .int p4, .int p5, .int p6]).length) Slot.unset).toArray = ls at hl ⊢
  have hl : lv_has ls 8 [(0, .ref (ad 0 0)), (1, .int p1), (2, .int p2), (3, .int p3), (4, .int p4), (5, .int p5), (6, .int p6)] := hl
  clear hP hD B ha
  obtain ⟨Q, hQ⟩ : ∃ Q, Q = vx_MQ below (Qxi D A (oc_X10 T (ad 0) (bb ad) (x_K9 0) ++ (wkL T ad x_K9 L18 ++ Z)) k r) (XCx D A (oc_X10 T (ad 0) (bb ad) (x_K9 0) ++ (wkL T ad x_K9 L18 ++ Z)) k) args s (ex1 k) (ex6 k) A := ⟨_, rfl⟩
  rw [← hQ]
  change W p l e (rmx 7 k) s m args below meth c s.heap [] 0 0 Q (F0 m 0 ls [])
  rw [f_X10_reading] at h
  suffices hm : ∀ (H : Heap) (locs : List Loc), Wd D A s.heap (oc_X10 T (ad 0) (bb ad) (x_K 0) ++ (wkL T ad x_K L18 ++ Z)) H locs → W p l e (rmx 7 k) s m args below meth c H locs 0 0 Q (F0 m 0 ls []) from hm _ _ hW
  intro H locs hW
  refine lv_aload_n hx hb dX10_reading_0 rfl (lv_at hl 0 rfl) ?_
  refine lv_iload_n hx hb dX10_reading_1 rfl (lv_at hl 1 rfl) ?_
  obtain ⟨k1, qq2, h⟩ := bnd1_s h
  by_cases hk : k1 = 0
  case neg =>
    replace h := ite_f hk h
    obtain ⟨e90, e91, e92⟩ := ret3 h
    subst k
    subst x_K9
    rw [hQ]
    exact xcx_X10_111 hk hout hlk (List.Perm.refl _) hx hb hml hown hts hK hN hE hW (c_X10_requireWord l hfl D T A ad hok Z x_K p1 k1 qq2) ⟨Nat.le_of_ble_eq_true rfl, Nat.le_of_ble_eq_true rfl⟩ rfl hl.1 rfl (Nat.le_of_ble_eq_true rfl) dX10_reading_2
  replace h := ite_t hk h
  subst hk
  refine xc0_X10_111 hx hb hml hown hts hK hN hE hW (c_X10_requireWord l hfl D T A ad hok Z x_K p1 0 qq2) ⟨Nat.le_of_ble_eq_true rfl, Nat.le_of_ble_eq_true rfl⟩ rfl hl.1 rfl (Nat.le_of_ble_eq_true rfl) dX10_reading_2 ⟨Nat.zero_le _, Nat.zero_le _⟩ (fun H locs hW => ?_)
  refine lv_iload_n hx hb dX10_reading_5 rfl (lv_at hl 2 rfl) ?_
  refine lv_bipush (v := 31) hx hb dX10_reading_6 (by decide) ?_
  obtain ⟨r3, qq4, h⟩ := bnd1_s h
  refine cl_X10_87 hx hb hml hown hts hK hN hW (c_X10_isBelow l D T A (oc_X10 T (ad 0) (bb ad) (x_K 0) ++ (wkL T ad x_K L18 ++ Z)) p2 31 r3 qq4) ⟨Nat.le_of_ble_eq_true rfl, Nat.le_of_ble_eq_true rfl⟩ hl.1 rfl (Nat.le_of_ble_eq_true rfl) dX10_reading_8 ⟨Nat.zero_le _, Nat.zero_le _⟩ rfl (fun H locs hW => ?_)
  refine lv_if_eq (tgt := 35) hx hb dX10_reading_11 (by decide) (fun c5 => ?_) (fun c5 => ?_)
  · replace h := ite_t c5 h
    obtain ⟨e90, e91, e92⟩ := ret3 h
    subst k
    subst r
    subst x_K9
    rw [hQ]
    exact xt_91_95 hx hb hfl hown hts hE hW hml hl.1 hout hlk (List.mem_of_getElem? (i := 2) rfl) dX10_reading_35 dX10_reading_38 dX10_reading_39 dX10_reading_41 dX10_reading_44 (by decide) (Nat.le_of_ble_eq_true rfl)
  · replace h := ite_f c5 h
    refine lv_iload_n hx hb dX10_reading_14 rfl (lv_at hl 3 rfl) ?_
    refine lv_bipush (v := 10) hx hb dX10_reading_15 (by decide) ?_
    obtain ⟨r6, qq7, h⟩ := bnd1_s h
    refine cl_X10_87 hx hb hml hown hts hK hN hW (c_X10_isBelow l D T A (oc_X10 T (ad 0) (bb ad) (x_K 0) ++ (wkL T ad x_K L18 ++ Z)) p3 10 r6 qq7) ⟨Nat.le_of_ble_eq_true rfl, Nat.le_of_ble_eq_true rfl⟩ hl.1 rfl (Nat.le_of_ble_eq_true rfl) dX10_reading_17 ⟨Nat.zero_le _, Nat.zero_le _⟩ rfl (fun H locs hW => ?_)
    refine lv_if_eq (tgt := 35) hx hb dX10_reading_20 (by decide) (fun c8 => ?_) (fun c8 => ?_)
    · replace h := ite_t c8 h
      obtain ⟨e90, e91, e92⟩ := ret3 h
      subst k
      subst r
      subst x_K9
      rw [hQ]
      exact xt_91_95 hx hb hfl hown hts hE hW hml hl.1 hout hlk (List.mem_of_getElem? (i := 2) rfl) dX10_reading_35 dX10_reading_38 dX10_reading_39 dX10_reading_41 dX10_reading_44 (by decide) (Nat.le_of_ble_eq_true rfl)
    · replace h := ite_f c8 h
      refine lv_iload hx hb dX10_reading_23 (lv_at hl 4 rfl) ?_
      refine lv_iload hx hb dX10_reading_25 (lv_at hl 5 rfl) ?_
      refine lv_iload hx hb dX10_reading_27 (lv_at hl 6 rfl) ?_
      obtain ⟨r9, qq10, h⟩ := bnd1_s h
      refine cl_X10_115 hx hb hml hown hts hK hN hW (c_X10_areFeatures l D T A (oc_X10 T (ad 0) (bb ad) (x_K 0) ++ (wkL T ad x_K L18 ++ Z)) p4 p5 p6 r9 qq10) ⟨Nat.le_of_ble_eq_true rfl, Nat.le_of_ble_eq_true rfl⟩ hl.1 rfl (Nat.le_of_ble_eq_true rfl) dX10_reading_29 ⟨Nat.zero_le _, Nat.zero_le _⟩ rfl (fun H locs hW => ?_)
      refine lv_if_ne (tgt := 45) hx hb dX10_reading_32 (by decide) (fun c11 => ?_) (fun c11 => ?_)
      · replace h := ite_f c11 h
        refine lv_aload_n hx hb dX10_reading_45 rfl (lv_at hl 0 rfl) ?_
        refine fg_X10_12 (v := .ref (ad 1 0)) hx hb hts hown hK hW 0 rfl (by rw [← hk0]; rfl) dX10_reading_46 ?_
        refine lv_iload_n hx hb dX10_reading_49 rfl (lv_at hl 1 rfl) ?_
        obtain ⟨r12, qq13, h⟩ := bnd1_s h
        replace hW := hW.perm (fo1 (k1 := 1) (by decide) rfl)
        refine cl_X10_121 hx hb hml hown hts hK hN hW (c_X3_isRowFull l D T A (ad 1) (oc_X10 T (ad 0) (bb ad) (x_K 0) ++ (wkL T ad x_K (L18.erase 1) ++ Z)) (x_K 1) p1 r12 qq13) ⟨Nat.le_of_ble_eq_true rfl, Nat.le_of_ble_eq_true rfl⟩ hl.1 rfl (Nat.le_of_ble_eq_true rfl) dX10_reading_50 ⟨Nat.zero_le _, Nat.zero_le _⟩ rfl (fun H locs hW => ?_)
        replace hW := hW.perm (fo1 (k1 := 1) (by decide) rfl).symm
        refine lv_if_eq (tgt := 66) hx hb dX10_reading_53 (by decide) (fun c14 => ?_) (fun c14 => ?_)
        · replace h := ite_t c14 h
          refine lv_aload_n hx hb dX10_reading_66 rfl (lv_at hl 0 rfl) ?_
          refine fg_X10_12 (v := .ref (ad 1 0)) hx hb hts hown hK hW 0 rfl (by rw [← hk0]; rfl) dX10_reading_67 ?_
          refine lv_iload_n hx hb dX10_reading_70 rfl (lv_at hl 1 rfl) ?_
          refine lv_iload_n hx hb dX10_reading_71 rfl (lv_at hl 2 rfl) ?_
          refine lv_iload_n hx hb dX10_reading_72 rfl (lv_at hl 3 rfl) ?_
          refine lv_iload hx hb dX10_reading_73 (lv_at hl 4 rfl) ?_
          refine lv_iload hx hb dX10_reading_75 (lv_at hl 5 rfl) ?_
          refine lv_iload hx hb dX10_reading_77 (lv_at hl 6 rfl) ?_
          obtain ⟨r15, qq16, h⟩ := bnd1_s h
          refine cl_X10_127 hx hb hml hown hts hK hN hW (c_X10_pack l D T A (oc_X10 T (ad 0) (bb ad) (x_K 0) ++ (wkL T ad x_K L18 ++ Z)) p4 p5 p6 r15 qq16) ⟨Nat.le_of_ble_eq_true rfl, Nat.le_of_ble_eq_true rfl⟩ hl.1 rfl (Nat.le_of_ble_eq_true rfl) dX10_reading_79 ⟨Nat.zero_le _, Nat.zero_le _⟩ rfl (fun H locs hW => ?_)
          obtain ⟨r17, y_o18, qq19, h⟩ := bnd2_s h
          replace hW := hW.perm (fo1 (k1 := 1) (by decide) rfl)
          refine cl_X10_131 hx hb hml hown hts hK hN hW (c_X3_addToRow l D T A (ad 1) (oc_X10 T (ad 0) (bb ad) (x_K 0) ++ (wkL T ad x_K (L18.erase 1) ++ Z)) (x_K 1) p1 p2 p3 r15 r17 y_o18 qq19) ⟨Nat.le_of_ble_eq_true rfl, Nat.le_of_ble_eq_true rfl⟩ hl.1 rfl (Nat.le_of_ble_eq_true rfl) dX10_reading_82 ⟨Nat.zero_le _, Nat.zero_le _⟩ rfl (fun H locs hW => ?_)
          obtain ⟨z_K20, ez_K20⟩ : ∃ y : Nat → Ob, y = va_up x_K 1 y_o18 := ⟨_, rfl⟩
          replace h := lb_at ez_K20 h
          replace hW := hW.perm (ba1 (K' := z_K20) (k1 := 1) (by decide) (by rw [ez_K20, va_up_ne _ _ (by omega)]) (fun k9 _ n0 => by rw [ez_K20, va_up_ne _ _ n0]) (by rw [ez_K20, va_up_self]; exact rfl))
          refine lv_istore (lv' := [(7, .int r17), (0, .ref (ad 0 0)), (1, .int p1), (2, .int p2), (3, .int p3), (4, .int p4), (5, .int p5), (6, .int p6)]) hx hb dX10_reading_85 hl (by decide) rfl (fun ls hl => ?_)
          refine lv_aload_n hx hb dX10_reading_87 rfl (lv_at hl 1 rfl) ?_
          obtain ⟨z_K21, qq22, h⟩ := bnd1_s h
          refine cl_X10_135 hx hb hml hown hts hK hN hW (c_X10_outdateAll l D T A ad hok Z z_K20 z_K21 qq22) ⟨Nat.le_of_ble_eq_true rfl, Nat.le_of_ble_eq_true rfl⟩ hl.1 rfl (Nat.le_of_ble_eq_true rfl) dX10_reading_88 ⟨Nat.zero_le _, Nat.zero_le _⟩ rfl (fun H locs hW => ?_)
          refine lv_iload hx hb dX10_reading_91 (lv_at hl 0 rfl) ?_
          obtain ⟨e90, e91, e92⟩ := ret3 h
          subst k
          subst r
          subst x_K9
          rw [hQ]
          exact x_reti hx hb hr hlk hW dX10_reading_93
        · replace h := ite_f c14 h
          obtain ⟨e90, e91, e92⟩ := ret3 h
          subst k
          subst r
          subst x_K9
          rw [hQ]
          exact xt_102_106 hx hb hfl hown hts hE hW hml hl.1 hout hlk (List.mem_of_getElem? (i := 3) rfl) dX10_reading_56 dX10_reading_59 dX10_reading_60 dX10_reading_62 dX10_reading_65 (by decide) (Nat.le_of_ble_eq_true rfl)
      · replace h := ite_t c11 h
        obtain ⟨e90, e91, e92⟩ := ret3 h
        subst k
        subst r
        subst x_K9
        rw [hQ]
        exact xt_91_95 hx hb hfl hown hts hE hW hml hl.1 hout hlk (List.mem_of_getElem? (i := 2) rfl) dX10_reading_35 dX10_reading_38 dX10_reading_39 dX10_reading_41 dX10_reading_44 (by decide) (Nat.le_of_ble_eq_true rfl)
set_option maxHeartbeats 4000000 in
set_option maxRecDepth 100000 in
theorem c_X10_guess (l : Launch) (hfl : l.stackTraces = false) (D : va_G) (T : Nat → ClassId) (A : Nat → Prop) (ad : Nat → Nat → Nat) (hok : okad ad) (Z : va_W) (x_K : Nat → Ob) (p1 : Int32) (p2 : Int32) (p3 : Int32) (p4 : Int32) (p5 : Int32)  (k : Nat) (r : Int32) (x_K9 : Nat → Ob) (h : f_X10_guess x_K p1 p2 p3 p4 p5 = some (k, r, x_K9)) : vx_Met l yX10_guess (Cond.code yX10_guess cX10_guess 8 (some .int) :: wsL_law) (rmx 6 k) (Px D T A (oc_X10 T (ad 0) (bb ad) (x_K 0) ++ (wkL T ad x_K L18 ++ Z)) [.ref (ad 0 0), .int p1, .int p2, .int p3, .int p4, .int p5]) (Qxi D A (oc_X10 T (ad 0) (bb ad) (x_K9 0) ++ (wkL T ad x_K9 L18 ++ Z)) k r) (XCx D A (oc_X10 T (ad 0) (bb ad) (x_K9 0) ++ (wkL T ad x_K9 L18 ++ Z)) k) (ex1 k) (ex6 k) A := by
  refine vx_ofW (cc := cX10_guess) (maxL := 8) (ret := (some .int)) (by decide +kernel) rfl ?_
  intro p e s m args below meth c s₁ B hml hout hv
  obtain ⟨ha, hP, hK, hD, hN, hE⟩ := hv
  have hx := B.exec
  have hb := B.bytes
  have hr := B.returns
  have hlk := B.notSynchronized
  have hts : ∀ w ∈ wsL_law, w.before args s = true := fun w hw => atoms_spec B.pre w (List.mem_cons_of_mem _ hw)
  have hown : s.vm.findClass RX10 = some m.cls := findClass_of_methodNamed B.named
  obtain ⟨hk0, hk1, hk2, hk3, hk4, hk5, hk6, hk7, hk9, hk10⟩ := id hok
  have hW : Wd D A s.heap (oc_X10 T (ad 0) (bb ad) (x_K 0) ++ (wkL T ad x_K L18 ++ Z)) s.heap [] := ⟨hP, hD, va_S.rf⟩
  have hl := lv_entry [.ref (ad 0 0), .int p1, .int p2, .int p3, .int p4, .int p5] (n := 8) (Nat.le_of_ble_eq_true rfl)
  refine W.eq (en_eq ha) ?_
  generalize (lg_sl [.ref (ad 0 0), .int p1, .int p2, .int p3, .int p4, .int p5] ++ List.replicate (8 - (lg_sl [.ref (ad 0 0), .int p1, .int p2, .int p3, .int p4, .int p5]).length) Slot.unset).toArray = ls at hl ⊢
  have hl : lv_has ls 8 [(0, .ref (ad 0 0)), (1, .int p1), (2, .int p2), (3, .int p3), (4, .int p4), (5, .int p5)] := hl
  clear hP hD B ha
  obtain ⟨Q, hQ⟩ : ∃ Q, Q = vx_MQ below (Qxi D A (oc_X10 T (ad 0) (bb ad) (x_K9 0) ++ (wkL T ad x_K9 L18 ++ Z)) k r) (XCx D A (oc_X10 T (ad 0) (bb ad) (x_K9 0) ++ (wkL T ad x_K9 L18 ++ Z)) k) args s (ex1 k) (ex6 k) A := ⟨_, rfl⟩
  rw [← hQ]
  change W p l e (rmx 6 k) s m args below meth c s.heap [] 0 0 Q (F0 m 0 ls [])
  rw [f_X10_guess] at h
  suffices hm : ∀ (H : Heap) (locs : List Loc), Wd D A s.heap (oc_X10 T (ad 0) (bb ad) (x_K 0) ++ (wkL T ad x_K L18 ++ Z)) H locs → W p l e (rmx 6 k) s m args below meth c H locs 0 0 Q (F0 m 0 ls []) from hm _ _ hW
  intro H locs hW
  refine lv_iload_n hx hb dX10_guess_0 rfl (lv_at hl 1 rfl) ?_
  refine lv_bipush (v := 10) hx hb dX10_guess_1 (by decide) ?_
  obtain ⟨r1, qq2, h⟩ := bnd1_s h
  refine cl_X10_87 hx hb hml hown hts hK hN hW (c_X10_isBelow l D T A (oc_X10 T (ad 0) (bb ad) (x_K 0) ++ (wkL T ad x_K L18 ++ Z)) p1 10 r1 qq2) ⟨Nat.le_of_ble_eq_true rfl, Nat.le_of_ble_eq_true rfl⟩ hl.1 rfl (Nat.le_of_ble_eq_true rfl) dX10_guess_3 ⟨Nat.zero_le _, Nat.zero_le _⟩ rfl (fun H locs hW => ?_)
  refine lv_if_eq (tgt := 29) hx hb dX10_guess_6 (by decide) (fun c3 => ?_) (fun c3 => ?_)
  · replace h := ite_t c3 h
    obtain ⟨e90, e91, e92⟩ := ret3 h
    subst k
    subst r
    subst x_K9
    rw [hQ]
    exact xt_91_95 hx hb hfl hown hts hE hW hml hl.1 hout hlk (List.mem_of_getElem? (i := 4) rfl) dX10_guess_29 dX10_guess_32 dX10_guess_33 dX10_guess_35 dX10_guess_38 (by decide) (Nat.le_of_ble_eq_true rfl)
  · replace h := ite_f c3 h
    refine lv_iload_n hx hb dX10_guess_9 rfl (lv_at hl 2 rfl) ?_
    refine lv_bipush (v := 10) hx hb dX10_guess_10 (by decide) ?_
    obtain ⟨r4, qq5, h⟩ := bnd1_s h
    refine cl_X10_87 hx hb hml hown hts hK hN hW (c_X10_isBelow l D T A (oc_X10 T (ad 0) (bb ad) (x_K 0) ++ (wkL T ad x_K L18 ++ Z)) p2 10 r4 qq5) ⟨Nat.le_of_ble_eq_true rfl, Nat.le_of_ble_eq_true rfl⟩ hl.1 rfl (Nat.le_of_ble_eq_true rfl) dX10_guess_12 ⟨Nat.zero_le _, Nat.zero_le _⟩ rfl (fun H locs hW => ?_)
    refine lv_if_eq (tgt := 29) hx hb dX10_guess_15 (by decide) (fun c6 => ?_) (fun c6 => ?_)
    · replace h := ite_t c6 h
      obtain ⟨e90, e91, e92⟩ := ret3 h
      subst k
      subst r
      subst x_K9
      rw [hQ]
      exact xt_91_95 hx hb hfl hown hts hE hW hml hl.1 hout hlk (List.mem_of_getElem? (i := 4) rfl) dX10_guess_29 dX10_guess_32 dX10_guess_33 dX10_guess_35 dX10_guess_38 (by decide) (Nat.le_of_ble_eq_true rfl)
    · replace h := ite_f c6 h
      refine lv_iload_n hx hb dX10_guess_18 rfl (lv_at hl 3 rfl) ?_
      refine lv_iload hx hb dX10_guess_19 (lv_at hl 4 rfl) ?_
      refine lv_iload hx hb dX10_guess_21 (lv_at hl 5 rfl) ?_
      obtain ⟨r7, qq8, h⟩ := bnd1_s h
      refine cl_X10_115 hx hb hml hown hts hK hN hW (c_X10_areFeatures l D T A (oc_X10 T (ad 0) (bb ad) (x_K 0) ++ (wkL T ad x_K L18 ++ Z)) p3 p4 p5 r7 qq8) ⟨Nat.le_of_ble_eq_true rfl, Nat.le_of_ble_eq_true rfl⟩ hl.1 rfl (Nat.le_of_ble_eq_true rfl) dX10_guess_23 ⟨Nat.zero_le _, Nat.zero_le _⟩ rfl (fun H locs hW => ?_)
      refine lv_if_ne (tgt := 39) hx hb dX10_guess_26 (by decide) (fun c9 => ?_) (fun c9 => ?_)
      · replace h := ite_f c9 h
        refine lv_bipush (v := 40) hx hb dX10_guess_39 (by decide) ?_
        refine lv_iload_n hx hb dX10_guess_41 rfl (lv_at hl 1 rfl) ?_
        refine lv_iadd hx hb dX10_guess_42 ?_
        refine lv_topi (fun w6_10 ew6_10 => ?_)
        replace h := lb_at ew6_10 h
        refine lv_istore (lv' := [(6, .int w6_10), (0, .ref (ad 0 0)), (1, .int p1), (2, .int p2), (3, .int p3), (4, .int p4), (5, .int p5)]) hx hb dX10_guess_43 hl (by decide) rfl (fun ls hl => ?_)
        refine lv_aload_n hx hb dX10_guess_45 rfl (lv_at hl 1 rfl) ?_
        refine fg_X10_12 (v := .ref (ad 1 0)) hx hb hts hown hK hW 0 rfl (by rw [← hk0]; rfl) dX10_guess_46 ?_
        refine lv_iload hx hb dX10_guess_49 (lv_at hl 0 rfl) ?_
        obtain ⟨r11, qq12, h⟩ := bnd1_s h
        replace hW := hW.perm (fo1 (k1 := 1) (by decide) rfl)
        refine cl_X10_121 hx hb hml hown hts hK hN hW (c_X3_isRowFull l D T A (ad 1) (oc_X10 T (ad 0) (bb ad) (x_K 0) ++ (wkL T ad x_K (L18.erase 1) ++ Z)) (x_K 1) w6_10 r11 qq12) ⟨Nat.le_of_ble_eq_true rfl, Nat.le_of_ble_eq_true rfl⟩ hl.1 rfl (Nat.le_of_ble_eq_true rfl) dX10_guess_51 ⟨Nat.zero_le _, Nat.zero_le _⟩ rfl (fun H locs hW => ?_)
        replace hW := hW.perm (fo1 (k1 := 1) (by decide) rfl).symm
        refine lv_if_eq (tgt := 67) hx hb dX10_guess_54 (by decide) (fun c13 => ?_) (fun c13 => ?_)
        · replace h := ite_t c13 h
          refine lv_aload_n hx hb dX10_guess_67 rfl (lv_at hl 1 rfl) ?_
          refine fg_X10_12 (v := .ref (ad 1 0)) hx hb hts hown hK hW 0 rfl (by rw [← hk0]; rfl) dX10_guess_68 ?_
          refine lv_iload hx hb dX10_guess_71 (lv_at hl 0 rfl) ?_
          refine lv_iconst (v := 0) hx hb dX10_guess_73 (by decide) ?_
          refine lv_iload_n hx hb dX10_guess_74 rfl (lv_at hl 3 rfl) ?_
          refine lv_iload_n hx hb dX10_guess_75 rfl (lv_at hl 4 rfl) ?_
          refine lv_iload hx hb dX10_guess_76 (lv_at hl 5 rfl) ?_
          refine lv_iload hx hb dX10_guess_78 (lv_at hl 6 rfl) ?_
          obtain ⟨r14, qq15, h⟩ := bnd1_s h
          refine cl_X10_127 hx hb hml hown hts hK hN hW (c_X10_pack l D T A (oc_X10 T (ad 0) (bb ad) (x_K 0) ++ (wkL T ad x_K L18 ++ Z)) p3 p4 p5 r14 qq15) ⟨Nat.le_of_ble_eq_true rfl, Nat.le_of_ble_eq_true rfl⟩ hl.1 rfl (Nat.le_of_ble_eq_true rfl) dX10_guess_80 ⟨Nat.zero_le _, Nat.zero_le _⟩ rfl (fun H locs hW => ?_)
          obtain ⟨r16, y_o17, qq18, h⟩ := bnd2_s h
          replace hW := hW.perm (fo1 (k1 := 1) (by decide) rfl)
          refine cl_X10_131 hx hb hml hown hts hK hN hW (c_X3_addToRow l D T A (ad 1) (oc_X10 T (ad 0) (bb ad) (x_K 0) ++ (wkL T ad x_K (L18.erase 1) ++ Z)) (x_K 1) w6_10 0 p2 r14 r16 y_o17 qq18) ⟨Nat.le_of_ble_eq_true rfl, Nat.le_of_ble_eq_true rfl⟩ hl.1 rfl (Nat.le_of_ble_eq_true rfl) dX10_guess_83 ⟨Nat.zero_le _, Nat.zero_le _⟩ rfl (fun H locs hW => ?_)
          obtain ⟨z_K19, ez_K19⟩ : ∃ y : Nat → Ob, y = va_up x_K 1 y_o17 := ⟨_, rfl⟩
          replace h := lb_at ez_K19 h
          replace hW := hW.perm (ba1 (K' := z_K19) (k1 := 1) (by decide) (by rw [ez_K19, va_up_ne _ _ (by omega)]) (fun k9 _ n0 => by rw [ez_K19, va_up_ne _ _ n0]) (by rw [ez_K19, va_up_self]; exact rfl))
          refine lv_istore (lv' := [(7, .int r16), (6, .int w6_10), (0, .ref (ad 0 0)), (1, .int p1), (2, .int p2), (3, .int p3), (4, .int p4), (5, .int p5)]) hx hb dX10_guess_86 hl (by decide) rfl (fun ls hl => ?_)
          refine lv_aload_n hx hb dX10_guess_88 rfl (lv_at hl 2 rfl) ?_
          obtain ⟨z_K20, qq21, h⟩ := bnd1_s h
          refine cl_X10_135 hx hb hml hown hts hK hN hW (c_X10_outdateAll l D T A ad hok Z z_K19 z_K20 qq21) ⟨Nat.le_of_ble_eq_true rfl, Nat.le_of_ble_eq_true rfl⟩ hl.1 rfl (Nat.le_of_ble_eq_true rfl) dX10_guess_89 ⟨Nat.zero_le _, Nat.zero_le _⟩ rfl (fun H locs hW => ?_)
          refine lv_iload hx hb dX10_guess_92 (lv_at hl 0 rfl) ?_
          obtain ⟨e90, e91, e92⟩ := ret3 h
          subst k
          subst r
          subst x_K9
          rw [hQ]
          exact x_reti hx hb hr hlk hW dX10_guess_94
        · replace h := ite_f c13 h
          obtain ⟨e90, e91, e92⟩ := ret3 h
          subst k
          subst r
          subst x_K9
          rw [hQ]
          exact xt_102_106 hx hb hfl hown hts hE hW hml hl.1 hout hlk (List.mem_of_getElem? (i := 5) rfl) dX10_guess_57 dX10_guess_60 dX10_guess_61 dX10_guess_63 dX10_guess_66 (by decide) (Nat.le_of_ble_eq_true rfl)
      · replace h := ite_t c9 h
        obtain ⟨e90, e91, e92⟩ := ret3 h
        subst k
        subst r
        subst x_K9
        rw [hQ]
        exact xt_91_95 hx hb hfl hown hts hE hW hml hl.1 hout hlk (List.mem_of_getElem? (i := 4) rfl) dX10_guess_29 dX10_guess_32 dX10_guess_33 dX10_guess_35 dX10_guess_38 (by decide) (Nat.le_of_ble_eq_true rfl)
set_option maxHeartbeats 4000000 in
set_option maxRecDepth 100000 in
theorem c_X10_readings (l : Launch) (hfl : l.stackTraces = false) (D : va_G) (T : Nat → ClassId) (A : Nat → Prop) (ad : Nat → Nat → Nat) (hok : okad ad) (Z : va_W) (x_K : Nat → Ob) (p1 : Int32)  (k : Nat) (r : Int32) (h : f_X10_readings x_K p1 = some (k, r)) : vx_Met l yX10_readings (Cond.code yX10_readings cX10_readings 2 (some .int) :: wsL_law) (rmx 7 k) (Px D T A (oc_X10 T (ad 0) (bb ad) (x_K 0) ++ (wkL T ad x_K L18 ++ Z)) [.ref (ad 0 0), .int p1]) (Qxi D A (oc_X10 T (ad 0) (bb ad) (x_K 0) ++ (wkL T ad x_K L18 ++ Z)) k r) (XCx D A (oc_X10 T (ad 0) (bb ad) (x_K 0) ++ (wkL T ad x_K L18 ++ Z)) k) (ex1 k) (ex6 k) A := by
  refine vx_ofW (cc := cX10_readings) (maxL := 2) (ret := (some .int)) (by decide +kernel) rfl ?_
  intro p e s m args below meth c s₁ B hml hout hv
  obtain ⟨ha, hP, hK, hD, hN, hE⟩ := hv
  have hx := B.exec
  have hb := B.bytes
  have hr := B.returns
  have hlk := B.notSynchronized
  have hts : ∀ w ∈ wsL_law, w.before args s = true := fun w hw => atoms_spec B.pre w (List.mem_cons_of_mem _ hw)
  have hown : s.vm.findClass RX10 = some m.cls := findClass_of_methodNamed B.named
  obtain ⟨hk0, hk1, hk2, hk3, hk4, hk5, hk6, hk7, hk9, hk10⟩ := id hok
  have hW : Wd D A s.heap (oc_X10 T (ad 0) (bb ad) (x_K 0) ++ (wkL T ad x_K L18 ++ Z)) s.heap [] := ⟨hP, hD, va_S.rf⟩
  have hl := lv_entry [.ref (ad 0 0), .int p1] (n := 2) (Nat.le_of_ble_eq_true rfl)
  refine W.eq (en_eq ha) ?_
  generalize (lg_sl [.ref (ad 0 0), .int p1] ++ List.replicate (2 - (lg_sl [.ref (ad 0 0), .int p1]).length) Slot.unset).toArray = ls at hl ⊢
  have hl : lv_has ls 2 [(0, .ref (ad 0 0)), (1, .int p1)] := hl
  clear hP hD B ha
  obtain ⟨Q, hQ⟩ : ∃ Q, Q = vx_MQ below (Qxi D A (oc_X10 T (ad 0) (bb ad) (x_K 0) ++ (wkL T ad x_K L18 ++ Z)) k r) (XCx D A (oc_X10 T (ad 0) (bb ad) (x_K 0) ++ (wkL T ad x_K L18 ++ Z)) k) args s (ex1 k) (ex6 k) A := ⟨_, rfl⟩
  rw [← hQ]
  change W p l e (rmx 7 k) s m args below meth c s.heap [] 0 0 Q (F0 m 0 ls [])
  rw [f_X10_readings] at h
  suffices hm : ∀ (H : Heap) (locs : List Loc), Wd D A s.heap (oc_X10 T (ad 0) (bb ad) (x_K 0) ++ (wkL T ad x_K L18 ++ Z)) H locs → W p l e (rmx 7 k) s m args below meth c H locs 0 0 Q (F0 m 0 ls []) from hm _ _ hW
  intro H locs hW
  refine lv_aload_n hx hb dX10_readings_0 rfl (lv_at hl 0 rfl) ?_
  refine lv_iload_n hx hb dX10_readings_1 rfl (lv_at hl 1 rfl) ?_
  obtain ⟨k1, qq2, h⟩ := bnd1_s h
  by_cases hk : k1 = 0
  case neg =>
    replace h := ite_f hk h
    obtain ⟨e90, e91⟩ := ret2 h
    subst k
    rw [hQ]
    exact xcx_X10_111 hk hout hlk (List.Perm.refl _) hx hb hml hown hts hK hN hE hW (c_X10_requireWord l hfl D T A ad hok Z x_K p1 k1 qq2) ⟨Nat.le_of_ble_eq_true rfl, Nat.le_of_ble_eq_true rfl⟩ rfl hl.1 rfl (Nat.le_of_ble_eq_true rfl) dX10_readings_2
  replace h := ite_t hk h
  subst hk
  refine xc0_X10_111 hx hb hml hown hts hK hN hE hW (c_X10_requireWord l hfl D T A ad hok Z x_K p1 0 qq2) ⟨Nat.le_of_ble_eq_true rfl, Nat.le_of_ble_eq_true rfl⟩ rfl hl.1 rfl (Nat.le_of_ble_eq_true rfl) dX10_readings_2 ⟨Nat.zero_le _, Nat.zero_le _⟩ (fun H locs hW => ?_)
  refine lv_aload_n hx hb dX10_readings_5 rfl (lv_at hl 0 rfl) ?_
  refine fg_X10_12 (v := .ref (ad 1 0)) hx hb hts hown hK hW 0 rfl (by rw [← hk0]; rfl) dX10_readings_6 ?_
  refine lv_aload_n hx hb dX10_readings_9 rfl (lv_at hl 0 rfl) ?_
  refine fg_X10_12 (v := .ref (ad 1 0)) hx hb hts hown hK hW 0 rfl (by rw [← hk0]; rfl) dX10_readings_10 ?_
  refine lv_iload_n hx hb dX10_readings_13 rfl (lv_at hl 1 rfl) ?_
  obtain ⟨r3, qq4, h⟩ := bnd1_s h
  replace hW := hW.perm (fo1 (k1 := 1) (by decide) rfl)
  refine cl_X10_142 hx hb hml hown hts hK hN hW (c_X3_rowOf l D T A (ad 1) (oc_X10 T (ad 0) (bb ad) (x_K 0) ++ (wkL T ad x_K (L18.erase 1) ++ Z)) (x_K 1) p1 r3 qq4) ⟨Nat.le_of_ble_eq_true rfl, Nat.le_of_ble_eq_true rfl⟩ hl.1 rfl (Nat.le_of_ble_eq_true rfl) dX10_readings_14 ⟨Nat.zero_le _, Nat.zero_le _⟩ rfl (fun H locs hW => ?_)
  replace hW := hW.perm (fo1 (k1 := 1) (by decide) rfl).symm
  obtain ⟨r5, qq6, h⟩ := bnd1_s h
  replace hW := hW.perm (fo1 (k1 := 1) (by decide) rfl)
  refine cl_X10_145 hx hb hml hown hts hK hN hW (c_X3_filledIn l D T A (ad 1) (oc_X10 T (ad 0) (bb ad) (x_K 0) ++ (wkL T ad x_K (L18.erase 1) ++ Z)) (x_K 1) r3 r5 qq6) ⟨Nat.le_of_ble_eq_true rfl, Nat.le_of_ble_eq_true rfl⟩ hl.1 rfl (Nat.le_of_ble_eq_true rfl) dX10_readings_17 ⟨Nat.zero_le _, Nat.zero_le _⟩ rfl (fun H locs hW => ?_)
  replace hW := hW.perm (fo1 (k1 := 1) (by decide) rfl).symm
  obtain ⟨e90, e91⟩ := ret2 h
  subst k
  subst r
  rw [hQ]
  exact x_reti hx hb hr hlk hW dX10_readings_20
set_option maxHeartbeats 4000000 in
set_option maxRecDepth 100000 in
theorem c_X10_sure (l : Launch) (hfl : l.stackTraces = false) (D : va_G) (T : Nat → ClassId) (A : Nat → Prop) (ad : Nat → Nat → Nat) (hok : okad ad) (Z : va_W) (x_K : Nat → Ob) (p1 : Int32) (p2 : Int32) (p3 : Int32)  (k : Nat) (r : Int32) (x_K9 : Nat → Ob) (h : f_X10_sure x_K p1 p2 p3 = some (k, r, x_K9)) : vx_Met l yX10_sure (Cond.code yX10_sure cX10_sure 6 (some .int) :: wsL_law) (rmx 6 k) (Px D T A (oc_X10 T (ad 0) (bb ad) (x_K 0) ++ (wkL T ad x_K L18 ++ Z)) [.ref (ad 0 0), .int p1, .int p2, .int p3]) (Qxi D A (oc_X10 T (ad 0) (bb ad) (x_K9 0) ++ (wkL T ad x_K9 L18 ++ Z)) k r) (XCx D A (oc_X10 T (ad 0) (bb ad) (x_K9 0) ++ (wkL T ad x_K9 L18 ++ Z)) k) (ex1 k) (ex6 k) A := by
  refine vx_ofW (cc := cX10_sure) (maxL := 6) (ret := (some .int)) (by decide +kernel) rfl ?_
  intro p e s m args below meth c s₁ B hml hout hv
  obtain ⟨ha, hP, hK, hD, hN, hE⟩ := hv
  have hx := B.exec
  have hb := B.bytes
  have hr := B.returns
  have hlk := B.notSynchronized
  have hts : ∀ w ∈ wsL_law, w.before args s = true := fun w hw => atoms_spec B.pre w (List.mem_cons_of_mem _ hw)
  have hown : s.vm.findClass RX10 = some m.cls := findClass_of_methodNamed B.named
  obtain ⟨hk0, hk1, hk2, hk3, hk4, hk5, hk6, hk7, hk9, hk10⟩ := id hok
  have hW : Wd D A s.heap (oc_X10 T (ad 0) (bb ad) (x_K 0) ++ (wkL T ad x_K L18 ++ Z)) s.heap [] := ⟨hP, hD, va_S.rf⟩
  have hl := lv_entry [.ref (ad 0 0), .int p1, .int p2, .int p3] (n := 6) (Nat.le_of_ble_eq_true rfl)
  refine W.eq (en_eq ha) ?_
  generalize (lg_sl [.ref (ad 0 0), .int p1, .int p2, .int p3] ++ List.replicate (6 - (lg_sl [.ref (ad 0 0), .int p1, .int p2, .int p3]).length) Slot.unset).toArray = ls at hl ⊢
  have hl : lv_has ls 6 [(0, .ref (ad 0 0)), (1, .int p1), (2, .int p2), (3, .int p3)] := hl
  clear hP hD B ha
  obtain ⟨Q, hQ⟩ : ∃ Q, Q = vx_MQ below (Qxi D A (oc_X10 T (ad 0) (bb ad) (x_K9 0) ++ (wkL T ad x_K9 L18 ++ Z)) k r) (XCx D A (oc_X10 T (ad 0) (bb ad) (x_K9 0) ++ (wkL T ad x_K9 L18 ++ Z)) k) args s (ex1 k) (ex6 k) A := ⟨_, rfl⟩
  rw [← hQ]
  change W p l e (rmx 6 k) s m args below meth c s.heap [] 0 0 Q (F0 m 0 ls [])
  have J20 : ∀ (x_K_20 : Nat → Ob) (v1_20 : Int32) (v2_20 : Int32) (v3_20 : Int32) (s0_20 : Int32) (H : Heap) (locs : List Loc) (ls : Array Slot), Wd D A s.heap (oc_X10 T (ad 0) (bb ad) (x_K_20 0) ++ (wkL T ad x_K_20 L18 ++ Z)) H locs → lv_has ls 6 [(0, .ref (ad 0 0)), (1, .int v1_20), (2, .int v2_20), (3, .int v3_20)] → f_X10_sure_J20 x_K_20 v1_20 v2_20 v3_20 s0_20 = some (k, r, x_K9) → W p l e (rmx 6 k) s m args below meth c H locs 0 0 Q (F0 m 20 ls [.int s0_20]) := by
    intro x_K_20 v1_20 v2_20 v3_20 s0_20 H locs ls hW hl h
    rw [f_X10_sure_J20] at h
    refine lv_istore (lv' := [(4, .int s0_20), (0, .ref (ad 0 0)), (1, .int v1_20), (2, .int v2_20), (3, .int v3_20)]) hx hb dX10_sure_20 hl (by decide) rfl (fun ls hl => ?_)
    refine lv_iload_n hx hb dX10_sure_22 rfl (lv_at hl 2 rfl) ?_
    refine lv_bipush (v := 10) hx hb dX10_sure_23 (by decide) ?_
    obtain ⟨r2, qq3, h⟩ := bnd1_s h
    refine cl_X10_87 hx hb hml hown hts hK hN hW (c_X10_isBelow l D T A (oc_X10 T (ad 0) (bb ad) (x_K_20 0) ++ (wkL T ad x_K_20 L18 ++ Z)) v1_20 10 r2 qq3) ⟨Nat.le_of_ble_eq_true rfl, Nat.le_of_ble_eq_true rfl⟩ hl.1 rfl (Nat.le_of_ble_eq_true rfl) dX10_sure_25 ⟨Nat.zero_le _, Nat.zero_le _⟩ rfl (fun H locs hW => ?_)
    refine lv_if_eq (tgt := 45) hx hb dX10_sure_28 (by decide) (fun c4 => ?_) (fun c4 => ?_)
    · replace h := ite_t c4 h
      obtain ⟨e90, e91, e92⟩ := ret3 h
      subst k
      subst r
      subst x_K9
      rw [hQ]
      exact xt_91_95 hx hb hfl hown hts hE hW hml hl.1 hout hlk (List.mem_of_getElem? (i := 6) rfl) dX10_sure_45 dX10_sure_48 dX10_sure_49 dX10_sure_51 dX10_sure_54 (by decide) (Nat.le_of_ble_eq_true rfl)
    · replace h := ite_f c4 h
      refine lv_iload hx hb dX10_sure_31 (lv_at hl 0 rfl) ?_
      refine lv_if_eq (tgt := 45) hx hb dX10_sure_33 (by decide) (fun c5 => ?_) (fun c5 => ?_)
      · replace h := ite_t c5 h
        obtain ⟨e90, e91, e92⟩ := ret3 h
        subst k
        subst r
        subst x_K9
        rw [hQ]
        exact xt_91_95 hx hb hfl hown hts hE hW hml hl.1 hout hlk (List.mem_of_getElem? (i := 6) rfl) dX10_sure_45 dX10_sure_48 dX10_sure_49 dX10_sure_51 dX10_sure_54 (by decide) (Nat.le_of_ble_eq_true rfl)
      · replace h := ite_f c5 h
        refine lv_iload_n hx hb dX10_sure_36 rfl (lv_at hl 4 rfl) ?_
        refine lv_bipush (v := 10) hx hb dX10_sure_37 (by decide) ?_
        obtain ⟨r6, qq7, h⟩ := bnd1_s h
        refine cl_X10_87 hx hb hml hown hts hK hN hW (c_X10_isBelow l D T A (oc_X10 T (ad 0) (bb ad) (x_K_20 0) ++ (wkL T ad x_K_20 L18 ++ Z)) v3_20 10 r6 qq7) ⟨Nat.le_of_ble_eq_true rfl, Nat.le_of_ble_eq_true rfl⟩ hl.1 rfl (Nat.le_of_ble_eq_true rfl) dX10_sure_39 ⟨Nat.zero_le _, Nat.zero_le _⟩ rfl (fun H locs hW => ?_)
        refine lv_if_ne (tgt := 55) hx hb dX10_sure_42 (by decide) (fun c8 => ?_) (fun c8 => ?_)
        · replace h := ite_f c8 h
          refine lv_aload_n hx hb dX10_sure_55 rfl (lv_at hl 1 rfl) ?_
          refine fg_X10_19 (v := .ref (ad 2 0)) hx hb hts hown hK hW 0 rfl (by rw [← hk1]; rfl) dX10_sure_56 ?_
          obtain ⟨r9, qq10, h⟩ := bnd1_s h
          replace hW := hW.perm (fo1 (k1 := 2) (by decide) rfl)
          refine cl_X10_150 hx hb hml hown hts hK hN hW (c_X7_isFull l D T A (ad 2) (oc_X10 T (ad 0) (bb ad) (x_K_20 0) ++ (wkL T ad x_K_20 (L18.erase 2) ++ Z)) (x_K_20 2) r9 qq10) ⟨Nat.le_of_ble_eq_true rfl, Nat.le_of_ble_eq_true rfl⟩ hl.1 rfl (Nat.le_of_ble_eq_true rfl) dX10_sure_59 ⟨Nat.zero_le _, Nat.zero_le _⟩ rfl (fun H locs hW => ?_)
          replace hW := hW.perm (fo1 (k1 := 2) (by decide) rfl).symm
          refine lv_if_eq (tgt := 75) hx hb dX10_sure_62 (by decide) (fun c11 => ?_) (fun c11 => ?_)
          · replace h := ite_t c11 h
            refine lv_aload_n hx hb dX10_sure_75 rfl (lv_at hl 1 rfl) ?_
            refine fg_X10_19 (v := .ref (ad 2 0)) hx hb hts hown hK hW 0 rfl (by rw [← hk1]; rfl) dX10_sure_76 ?_
            refine lv_iload_n hx hb dX10_sure_79 rfl (lv_at hl 2 rfl) ?_
            refine lv_iload_n hx hb dX10_sure_80 rfl (lv_at hl 3 rfl) ?_
            refine lv_iload_n hx hb dX10_sure_81 rfl (lv_at hl 4 rfl) ?_
            obtain ⟨r12, y_o13, qq14, h⟩ := bnd2_s h
            replace hW := hW.perm (fo1 (k1 := 2) (by decide) rfl)
            refine cl_X10_153 hx hb hml hown hts hK hN hW (c_X7_addSure l D T A (ad 2) (oc_X10 T (ad 0) (bb ad) (x_K_20 0) ++ (wkL T ad x_K_20 (L18.erase 2) ++ Z)) (x_K_20 2) v1_20 v2_20 v3_20 r12 y_o13 qq14) ⟨Nat.le_of_ble_eq_true rfl, Nat.le_of_ble_eq_true rfl⟩ hl.1 rfl (Nat.le_of_ble_eq_true rfl) dX10_sure_82 ⟨Nat.zero_le _, Nat.zero_le _⟩ rfl (fun H locs hW => ?_)
            obtain ⟨z_K15, ez_K15⟩ : ∃ y : Nat → Ob, y = va_up x_K_20 2 y_o13 := ⟨_, rfl⟩
            replace h := lb_at ez_K15 h
            replace hW := hW.perm (ba1 (K' := z_K15) (k1 := 2) (by decide) (by rw [ez_K15, va_up_ne _ _ (by omega)]) (fun k9 _ n0 => by rw [ez_K15, va_up_ne _ _ n0]) (by rw [ez_K15, va_up_self]; exact rfl))
            refine lv_istore (lv' := [(5, .int r12), (4, .int s0_20), (0, .ref (ad 0 0)), (1, .int v1_20), (2, .int v2_20), (3, .int v3_20)]) hx hb dX10_sure_85 hl (by decide) rfl (fun ls hl => ?_)
            refine lv_aload_n hx hb dX10_sure_87 rfl (lv_at hl 2 rfl) ?_
            obtain ⟨z_K16, qq17, h⟩ := bnd1_s h
            refine cl_X10_135 hx hb hml hown hts hK hN hW (c_X10_outdateAll l D T A ad hok Z z_K15 z_K16 qq17) ⟨Nat.le_of_ble_eq_true rfl, Nat.le_of_ble_eq_true rfl⟩ hl.1 rfl (Nat.le_of_ble_eq_true rfl) dX10_sure_88 ⟨Nat.zero_le _, Nat.zero_le _⟩ rfl (fun H locs hW => ?_)
            refine lv_iload hx hb dX10_sure_91 (lv_at hl 0 rfl) ?_
            obtain ⟨e90, e91, e92⟩ := ret3 h
            subst k
            subst r
            subst x_K9
            rw [hQ]
            exact x_reti hx hb hr hlk hW dX10_sure_93
          · replace h := ite_f c11 h
            obtain ⟨e90, e91, e92⟩ := ret3 h
            subst k
            subst r
            subst x_K9
            rw [hQ]
            exact xt_102_106 hx hb hfl hown hts hE hW hml hl.1 hout hlk (List.mem_of_getElem? (i := 7) rfl) dX10_sure_65 dX10_sure_68 dX10_sure_69 dX10_sure_71 dX10_sure_74 (by decide) (Nat.le_of_ble_eq_true rfl)
        · replace h := ite_t c8 h
          obtain ⟨e90, e91, e92⟩ := ret3 h
          subst k
          subst r
          subst x_K9
          rw [hQ]
          exact xt_91_95 hx hb hfl hown hts hE hW hml hl.1 hout hlk (List.mem_of_getElem? (i := 6) rfl) dX10_sure_45 dX10_sure_48 dX10_sure_49 dX10_sure_51 dX10_sure_54 (by decide) (Nat.le_of_ble_eq_true rfl)
  have J19 : ∀ (x_K_19 : Nat → Ob) (v1_19 : Int32) (v2_19 : Int32) (v3_19 : Int32) (H : Heap) (locs : List Loc) (ls : Array Slot), Wd D A s.heap (oc_X10 T (ad 0) (bb ad) (x_K_19 0) ++ (wkL T ad x_K_19 L18 ++ Z)) H locs → lv_has ls 6 [(0, .ref (ad 0 0)), (1, .int v1_19), (2, .int v2_19), (3, .int v3_19)] → f_X10_sure_J19 x_K_19 v1_19 v2_19 v3_19 = some (k, r, x_K9) → W p l e (rmx 6 k) s m args below meth c H locs 0 0 Q (F0 m 19 ls []) := by
    intro x_K_19 v1_19 v2_19 v3_19 H locs ls hW hl h
    rw [f_X10_sure_J19] at h
    refine lv_iconst (v := 0) hx hb dX10_sure_19 (by decide) ?_
    exact J20 _ _ _ _ _ H locs ls hW (lv_sub hl [0, 1, 2, 3] rfl) h
  rw [f_X10_sure] at h
  suffices hm : ∀ (H : Heap) (locs : List Loc), Wd D A s.heap (oc_X10 T (ad 0) (bb ad) (x_K 0) ++ (wkL T ad x_K L18 ++ Z)) H locs → W p l e (rmx 6 k) s m args below meth c H locs 0 0 Q (F0 m 0 ls []) from hm _ _ hW
  intro H locs hW
  refine lv_iload_n hx hb dX10_sure_0 rfl (lv_at hl 2 rfl) ?_
  refine lv_bipush (v := (-5)) hx hb dX10_sure_1 (by decide) ?_
  refine lv_icmp_lt (tgt := 19) hx hb dX10_sure_3 (by decide) (fun c1 => ?_) (fun c1 => ?_)
  · replace h := ite_t c1 h
    exact J19 _ _ _ _ H locs ls hW (lv_sub hl [0, 1, 2, 3] rfl) h
  · replace h := ite_f c1 h
    refine lv_iload_n hx hb dX10_sure_6 rfl (lv_at hl 2 rfl) ?_
    refine lv_iconst (v := 5) hx hb dX10_sure_7 (by decide) ?_
    refine lv_icmp_gt (tgt := 19) hx hb dX10_sure_8 (by decide) (fun c18 => ?_) (fun c18 => ?_)
    · replace h := ite_t c18 h
      exact J19 _ _ _ _ H locs ls hW (lv_sub hl [0, 1, 2, 3] rfl) h
    · replace h := ite_f c18 h
      refine lv_iload_n hx hb dX10_sure_11 rfl (lv_at hl 2 rfl) ?_
      refine lv_if_eq (tgt := 19) hx hb dX10_sure_12 (by decide) (fun c19 => ?_) (fun c19 => ?_)
      · replace h := ite_t c19 h
        exact J19 _ _ _ _ H locs ls hW (lv_sub hl [0, 1, 2, 3] rfl) h
      · replace h := ite_f c19 h
        refine lv_iconst (v := 1) hx hb dX10_sure_15 (by decide) ?_
        refine lv_goto (tgt := 20) hx hb dX10_sure_16 (by decide) ?_
        exact J20 _ _ _ _ _ H locs ls hW (lv_sub hl [0, 1, 2, 3] rfl) h
set_option maxHeartbeats 4000000 in
set_option maxRecDepth 100000 in
theorem c_X10_seen (l : Launch) (hfl : l.stackTraces = false) (D : va_G) (T : Nat → ClassId) (A : Nat → Prop) (ad : Nat → Nat → Nat) (hok : okad ad) (Z : va_W) (x_K : Nat → Ob) (p1 : Int32) (p2 : Int32) (p3 : Int32) (p4 : Int32)  (k : Nat) (r : Int32) (x_K9 : Nat → Ob) (h : f_X10_seen x_K p1 p2 p3 p4 = some (k, r, x_K9)) : vx_Met l yX10_seen (Cond.code yX10_seen cX10_seen 7 (some .int) :: wsL_law) (rmx 6 k) (Px D T A (oc_X10 T (ad 0) (bb ad) (x_K 0) ++ (wkL T ad x_K L18 ++ Z)) [.ref (ad 0 0), .int p1, .int p2, .int p3, .int p4]) (Qxi D A (oc_X10 T (ad 0) (bb ad) (x_K9 0) ++ (wkL T ad x_K9 L18 ++ Z)) k r) (XCx D A (oc_X10 T (ad 0) (bb ad) (x_K9 0) ++ (wkL T ad x_K9 L18 ++ Z)) k) (ex1 k) (ex6 k) A := by
  refine vx_ofW (cc := cX10_seen) (maxL := 7) (ret := (some .int)) (by decide +kernel) rfl ?_
  intro p e s m args below meth c s₁ B hml hout hv
  obtain ⟨ha, hP, hK, hD, hN, hE⟩ := hv
  have hx := B.exec
  have hb := B.bytes
  have hr := B.returns
  have hlk := B.notSynchronized
  have hts : ∀ w ∈ wsL_law, w.before args s = true := fun w hw => atoms_spec B.pre w (List.mem_cons_of_mem _ hw)
  have hown : s.vm.findClass RX10 = some m.cls := findClass_of_methodNamed B.named
  obtain ⟨hk0, hk1, hk2, hk3, hk4, hk5, hk6, hk7, hk9, hk10⟩ := id hok
  have hW : Wd D A s.heap (oc_X10 T (ad 0) (bb ad) (x_K 0) ++ (wkL T ad x_K L18 ++ Z)) s.heap [] := ⟨hP, hD, va_S.rf⟩
  have hl := lv_entry [.ref (ad 0 0), .int p1, .int p2, .int p3, .int p4] (n := 7) (Nat.le_of_ble_eq_true rfl)
  refine W.eq (en_eq ha) ?_
  generalize (lg_sl [.ref (ad 0 0), .int p1, .int p2, .int p3, .int p4] ++ List.replicate (7 - (lg_sl [.ref (ad 0 0), .int p1, .int p2, .int p3, .int p4]).length) Slot.unset).toArray = ls at hl ⊢
  have hl : lv_has ls 7 [(0, .ref (ad 0 0)), (1, .int p1), (2, .int p2), (3, .int p3), (4, .int p4)] := hl
  clear hP hD B ha
  obtain ⟨Q, hQ⟩ : ∃ Q, Q = vx_MQ below (Qxi D A (oc_X10 T (ad 0) (bb ad) (x_K9 0) ++ (wkL T ad x_K9 L18 ++ Z)) k r) (XCx D A (oc_X10 T (ad 0) (bb ad) (x_K9 0) ++ (wkL T ad x_K9 L18 ++ Z)) k) args s (ex1 k) (ex6 k) A := ⟨_, rfl⟩
  rw [← hQ]
  change W p l e (rmx 6 k) s m args below meth c s.heap [] 0 0 Q (F0 m 0 ls [])
  have J15 : ∀ (x_K_15 : Nat → Ob) (v1_15 : Int32) (v2_15 : Int32) (v3_15 : Int32) (v4_15 : Int32) (s0_15 : Int32) (H : Heap) (locs : List Loc) (ls : Array Slot), Wd D A s.heap (oc_X10 T (ad 0) (bb ad) (x_K_15 0) ++ (wkL T ad x_K_15 L18 ++ Z)) H locs → lv_has ls 7 [(0, .ref (ad 0 0)), (1, .int v1_15), (2, .int v2_15), (3, .int v3_15), (4, .int v4_15)] → f_X10_seen_J15 x_K_15 v1_15 v2_15 v3_15 v4_15 s0_15 = some (k, r, x_K9) → W p l e (rmx 6 k) s m args below meth c H locs 0 0 Q (F0 m 15 ls [.int s0_15]) := by
    intro x_K_15 v1_15 v2_15 v3_15 v4_15 s0_15 H locs ls hW hl h
    rw [f_X10_seen_J15] at h
    refine lv_istore (lv' := [(5, .int s0_15), (0, .ref (ad 0 0)), (1, .int v1_15), (2, .int v2_15), (3, .int v3_15), (4, .int v4_15)]) hx hb dX10_seen_15 hl (by decide) rfl (fun ls hl => ?_)
    refine lv_iload_n hx hb dX10_seen_17 rfl (lv_at hl 2 rfl) ?_
    refine lv_bipush (v := 10) hx hb dX10_seen_18 (by decide) ?_
    obtain ⟨r2, qq3, h⟩ := bnd1_s h
    refine cl_X10_87 hx hb hml hown hts hK hN hW (c_X10_isBelow l D T A (oc_X10 T (ad 0) (bb ad) (x_K_15 0) ++ (wkL T ad x_K_15 L18 ++ Z)) v1_15 10 r2 qq3) ⟨Nat.le_of_ble_eq_true rfl, Nat.le_of_ble_eq_true rfl⟩ hl.1 rfl (Nat.le_of_ble_eq_true rfl) dX10_seen_20 ⟨Nat.zero_le _, Nat.zero_le _⟩ rfl (fun H locs hW => ?_)
    refine lv_if_eq (tgt := 48) hx hb dX10_seen_23 (by decide) (fun c4 => ?_) (fun c4 => ?_)
    · replace h := ite_t c4 h
      obtain ⟨e90, e91, e92⟩ := ret3 h
      subst k
      subst r
      subst x_K9
      rw [hQ]
      exact xt_91_95 hx hb hfl hown hts hE hW hml hl.1 hout hlk (List.mem_of_getElem? (i := 8) rfl) dX10_seen_48 dX10_seen_51 dX10_seen_52 dX10_seen_54 dX10_seen_57 (by decide) (Nat.le_of_ble_eq_true rfl)
    · replace h := ite_f c4 h
      refine lv_iload hx hb dX10_seen_26 (lv_at hl 0 rfl) ?_
      refine lv_if_eq (tgt := 48) hx hb dX10_seen_28 (by decide) (fun c5 => ?_) (fun c5 => ?_)
      · replace h := ite_t c5 h
        obtain ⟨e90, e91, e92⟩ := ret3 h
        subst k
        subst r
        subst x_K9
        rw [hQ]
        exact xt_91_95 hx hb hfl hown hts hE hW hml hl.1 hout hlk (List.mem_of_getElem? (i := 8) rfl) dX10_seen_48 dX10_seen_51 dX10_seen_52 dX10_seen_54 dX10_seen_57 (by decide) (Nat.le_of_ble_eq_true rfl)
      · replace h := ite_f c5 h
        refine lv_iload_n hx hb dX10_seen_31 rfl (lv_at hl 4 rfl) ?_
        refine lv_bipush (v := 10) hx hb dX10_seen_32 (by decide) ?_
        obtain ⟨r6, qq7, h⟩ := bnd1_s h
        refine cl_X10_87 hx hb hml hown hts hK hN hW (c_X10_isBelow l D T A (oc_X10 T (ad 0) (bb ad) (x_K_15 0) ++ (wkL T ad x_K_15 L18 ++ Z)) v3_15 10 r6 qq7) ⟨Nat.le_of_ble_eq_true rfl, Nat.le_of_ble_eq_true rfl⟩ hl.1 rfl (Nat.le_of_ble_eq_true rfl) dX10_seen_34 ⟨Nat.zero_le _, Nat.zero_le _⟩ rfl (fun H locs hW => ?_)
        refine lv_if_eq (tgt := 48) hx hb dX10_seen_37 (by decide) (fun c8 => ?_) (fun c8 => ?_)
        · replace h := ite_t c8 h
          obtain ⟨e90, e91, e92⟩ := ret3 h
          subst k
          subst r
          subst x_K9
          rw [hQ]
          exact xt_91_95 hx hb hfl hown hts hE hW hml hl.1 hout hlk (List.mem_of_getElem? (i := 8) rfl) dX10_seen_48 dX10_seen_51 dX10_seen_52 dX10_seen_54 dX10_seen_57 (by decide) (Nat.le_of_ble_eq_true rfl)
        · replace h := ite_f c8 h
          refine lv_iload hx hb dX10_seen_40 (lv_at hl 5 rfl) ?_
          obtain ⟨r9, qq10, h⟩ := bnd1_s h
          refine cl_X10_156 hx hb hml hown hts hK hN hW (c_X10_isCategoryOrNone l D T A (oc_X10 T (ad 0) (bb ad) (x_K_15 0) ++ (wkL T ad x_K_15 L18 ++ Z)) v4_15 r9 qq10) ⟨Nat.le_of_ble_eq_true rfl, Nat.le_of_ble_eq_true rfl⟩ hl.1 rfl (Nat.le_of_ble_eq_true rfl) dX10_seen_42 ⟨Nat.zero_le _, Nat.zero_le _⟩ rfl (fun H locs hW => ?_)
          refine lv_if_ne (tgt := 58) hx hb dX10_seen_45 (by decide) (fun c11 => ?_) (fun c11 => ?_)
          · replace h := ite_f c11 h
            refine lv_aload_n hx hb dX10_seen_58 rfl (lv_at hl 1 rfl) ?_
            refine fg_X10_19 (v := .ref (ad 2 0)) hx hb hts hown hK hW 0 rfl (by rw [← hk1]; rfl) dX10_seen_59 ?_
            obtain ⟨r12, qq13, h⟩ := bnd1_s h
            replace hW := hW.perm (fo1 (k1 := 2) (by decide) rfl)
            refine cl_X10_150 hx hb hml hown hts hK hN hW (c_X7_isFull l D T A (ad 2) (oc_X10 T (ad 0) (bb ad) (x_K_15 0) ++ (wkL T ad x_K_15 (L18.erase 2) ++ Z)) (x_K_15 2) r12 qq13) ⟨Nat.le_of_ble_eq_true rfl, Nat.le_of_ble_eq_true rfl⟩ hl.1 rfl (Nat.le_of_ble_eq_true rfl) dX10_seen_62 ⟨Nat.zero_le _, Nat.zero_le _⟩ rfl (fun H locs hW => ?_)
            replace hW := hW.perm (fo1 (k1 := 2) (by decide) rfl).symm
            refine lv_if_eq (tgt := 78) hx hb dX10_seen_65 (by decide) (fun c14 => ?_) (fun c14 => ?_)
            · replace h := ite_t c14 h
              refine lv_aload_n hx hb dX10_seen_78 rfl (lv_at hl 1 rfl) ?_
              refine fg_X10_19 (v := .ref (ad 2 0)) hx hb hts hown hK hW 0 rfl (by rw [← hk1]; rfl) dX10_seen_79 ?_
              refine lv_iload_n hx hb dX10_seen_82 rfl (lv_at hl 2 rfl) ?_
              refine lv_iload_n hx hb dX10_seen_83 rfl (lv_at hl 3 rfl) ?_
              refine lv_iload_n hx hb dX10_seen_84 rfl (lv_at hl 4 rfl) ?_
              refine lv_iload hx hb dX10_seen_85 (lv_at hl 5 rfl) ?_
              obtain ⟨r15, y_o16, qq17, h⟩ := bnd2_s h
              replace hW := hW.perm (fo1 (k1 := 2) (by decide) rfl)
              refine cl_X10_161 hx hb hml hown hts hK hN hW (c_X7_addSeen l D T A (ad 2) (oc_X10 T (ad 0) (bb ad) (x_K_15 0) ++ (wkL T ad x_K_15 (L18.erase 2) ++ Z)) (x_K_15 2) v1_15 v2_15 v3_15 v4_15 r15 y_o16 qq17) ⟨Nat.le_of_ble_eq_true rfl, Nat.le_of_ble_eq_true rfl⟩ hl.1 rfl (Nat.le_of_ble_eq_true rfl) dX10_seen_87 ⟨Nat.zero_le _, Nat.zero_le _⟩ rfl (fun H locs hW => ?_)
              obtain ⟨z_K18, ez_K18⟩ : ∃ y : Nat → Ob, y = va_up x_K_15 2 y_o16 := ⟨_, rfl⟩
              replace h := lb_at ez_K18 h
              replace hW := hW.perm (ba1 (K' := z_K18) (k1 := 2) (by decide) (by rw [ez_K18, va_up_ne _ _ (by omega)]) (fun k9 _ n0 => by rw [ez_K18, va_up_ne _ _ n0]) (by rw [ez_K18, va_up_self]; exact rfl))
              refine lv_istore (lv' := [(6, .int r15), (5, .int s0_15), (0, .ref (ad 0 0)), (1, .int v1_15), (2, .int v2_15), (3, .int v3_15), (4, .int v4_15)]) hx hb dX10_seen_90 hl (by decide) rfl (fun ls hl => ?_)
              refine lv_aload_n hx hb dX10_seen_92 rfl (lv_at hl 2 rfl) ?_
              obtain ⟨z_K19, qq20, h⟩ := bnd1_s h
              refine cl_X10_135 hx hb hml hown hts hK hN hW (c_X10_outdateAll l D T A ad hok Z z_K18 z_K19 qq20) ⟨Nat.le_of_ble_eq_true rfl, Nat.le_of_ble_eq_true rfl⟩ hl.1 rfl (Nat.le_of_ble_eq_true rfl) dX10_seen_93 ⟨Nat.zero_le _, Nat.zero_le _⟩ rfl (fun H locs hW => ?_)
              refine lv_iload hx hb dX10_seen_96 (lv_at hl 0 rfl) ?_
              obtain ⟨e90, e91, e92⟩ := ret3 h
              subst k
              subst r
              subst x_K9
              rw [hQ]
              exact x_reti hx hb hr hlk hW dX10_seen_98
            · replace h := ite_f c14 h
              obtain ⟨e90, e91, e92⟩ := ret3 h
              subst k
              subst r
              subst x_K9
              rw [hQ]
              exact xt_102_106 hx hb hfl hown hts hE hW hml hl.1 hout hlk (List.mem_of_getElem? (i := 7) rfl) dX10_seen_68 dX10_seen_71 dX10_seen_72 dX10_seen_74 dX10_seen_77 (by decide) (Nat.le_of_ble_eq_true rfl)
          · replace h := ite_t c11 h
            obtain ⟨e90, e91, e92⟩ := ret3 h
            subst k
            subst r
            subst x_K9
            rw [hQ]
            exact xt_91_95 hx hb hfl hown hts hE hW hml hl.1 hout hlk (List.mem_of_getElem? (i := 8) rfl) dX10_seen_48 dX10_seen_51 dX10_seen_52 dX10_seen_54 dX10_seen_57 (by decide) (Nat.le_of_ble_eq_true rfl)
  have J10 : ∀ (x_K_10 : Nat → Ob) (v1_10 : Int32) (v2_10 : Int32) (v3_10 : Int32) (v4_10 : Int32) (H : Heap) (locs : List Loc) (ls : Array Slot), Wd D A s.heap (oc_X10 T (ad 0) (bb ad) (x_K_10 0) ++ (wkL T ad x_K_10 L18 ++ Z)) H locs → lv_has ls 7 [(0, .ref (ad 0 0)), (1, .int v1_10), (2, .int v2_10), (3, .int v3_10), (4, .int v4_10)] → f_X10_seen_J10 x_K_10 v1_10 v2_10 v3_10 v4_10 = some (k, r, x_K9) → W p l e (rmx 6 k) s m args below meth c H locs 0 0 Q (F0 m 10 ls []) := by
    intro x_K_10 v1_10 v2_10 v3_10 v4_10 H locs ls hW hl h
    rw [f_X10_seen_J10] at h
    refine lv_iconst (v := 1) hx hb dX10_seen_10 (by decide) ?_
    refine lv_goto (tgt := 15) hx hb dX10_seen_11 (by decide) ?_
    exact J15 _ _ _ _ _ _ H locs ls hW (lv_sub hl [0, 1, 2, 3, 4] rfl) h
  rw [f_X10_seen] at h
  suffices hm : ∀ (H : Heap) (locs : List Loc), Wd D A s.heap (oc_X10 T (ad 0) (bb ad) (x_K 0) ++ (wkL T ad x_K L18 ++ Z)) H locs → W p l e (rmx 6 k) s m args below meth c H locs 0 0 Q (F0 m 0 ls []) from hm _ _ hW
  intro H locs hW
  refine lv_iload_n hx hb dX10_seen_0 rfl (lv_at hl 2 rfl) ?_
  refine lv_iconst (v := (-1)) hx hb dX10_seen_1 (by decide) ?_
  refine lv_icmp_eq (tgt := 10) hx hb dX10_seen_2 (by decide) (fun c1 => ?_) (fun c1 => ?_)
  · replace h := ite_t c1 h
    exact J10 _ _ _ _ _ H locs ls hW (lv_sub hl [0, 1, 2, 3, 4] rfl) h
  · replace h := ite_f c1 h
    refine lv_iload_n hx hb dX10_seen_5 rfl (lv_at hl 2 rfl) ?_
    refine lv_iconst (v := 1) hx hb dX10_seen_6 (by decide) ?_
    refine lv_icmp_ne (tgt := 14) hx hb dX10_seen_7 (by decide) (fun c21 => ?_) (fun c21 => ?_)
    · replace h := ite_f c21 h
      refine lv_iconst (v := 0) hx hb dX10_seen_14 (by decide) ?_
      exact J15 _ _ _ _ _ _ H locs ls hW (lv_sub hl [0, 1, 2, 3, 4] rfl) h
    · replace h := ite_t c21 h
      exact J10 _ _ _ _ _ H locs ls hW (lv_sub hl [0, 1, 2, 3, 4] rfl) h
set_option maxHeartbeats 4000000 in
set_option maxRecDepth 100000 in
theorem c_X10_rule (l : Launch) (hfl : l.stackTraces = false) (D : va_G) (T : Nat → ClassId) (A : Nat → Prop) (ad : Nat → Nat → Nat) (hok : okad ad) (Z : va_W) (x_K : Nat → Ob) (p1 : Int32) (p2 : Int32) (p3 : Int32) (p4 : Int32)  (k : Nat) (r : Int32) (x_K9 : Nat → Ob) (h : f_X10_rule x_K p1 p2 p3 p4 = some (k, r, x_K9)) : vx_Met l yX10_rule (Cond.code yX10_rule cX10_rule 7 (some .int) :: wsL_law) (rmx 6 k) (Px D T A (oc_X10 T (ad 0) (bb ad) (x_K 0) ++ (wkL T ad x_K L18 ++ Z)) [.ref (ad 0 0), .int p1, .int p2, .int p3, .int p4]) (Qxi D A (oc_X10 T (ad 0) (bb ad) (x_K9 0) ++ (wkL T ad x_K9 L18 ++ Z)) k r) (XCx D A (oc_X10 T (ad 0) (bb ad) (x_K9 0) ++ (wkL T ad x_K9 L18 ++ Z)) k) (ex1 k) (ex6 k) A := by
  refine vx_ofW (cc := cX10_rule) (maxL := 7) (ret := (some .int)) (by decide +kernel) rfl ?_
  intro p e s m args below meth c s₁ B hml hout hv
  obtain ⟨ha, hP, hK, hD, hN, hE⟩ := hv
  have hx := B.exec
  have hb := B.bytes
  have hr := B.returns
  have hlk := B.notSynchronized
  have hts : ∀ w ∈ wsL_law, w.before args s = true := fun w hw => atoms_spec B.pre w (List.mem_cons_of_mem _ hw)
  have hown : s.vm.findClass RX10 = some m.cls := findClass_of_methodNamed B.named
  obtain ⟨hk0, hk1, hk2, hk3, hk4, hk5, hk6, hk7, hk9, hk10⟩ := id hok
  have hW : Wd D A s.heap (oc_X10 T (ad 0) (bb ad) (x_K 0) ++ (wkL T ad x_K L18 ++ Z)) s.heap [] := ⟨hP, hD, va_S.rf⟩
  have hl := lv_entry [.ref (ad 0 0), .int p1, .int p2, .int p3, .int p4] (n := 7) (Nat.le_of_ble_eq_true rfl)
  refine W.eq (en_eq ha) ?_
  generalize (lg_sl [.ref (ad 0 0), .int p1, .int p2, .int p3, .int p4] ++ List.replicate (7 - (lg_sl [.ref (ad 0 0), .int p1, .int p2, .int p3, .int p4]).length) Slot.unset).toArray = ls at hl ⊢
  have hl : lv_has ls 7 [(0, .ref (ad 0 0)), (1, .int p1), (2, .int p2), (3, .int p3), (4, .int p4)] := hl
  clear hP hD B ha
  obtain ⟨Q, hQ⟩ : ∃ Q, Q = vx_MQ below (Qxi D A (oc_X10 T (ad 0) (bb ad) (x_K9 0) ++ (wkL T ad x_K9 L18 ++ Z)) k r) (XCx D A (oc_X10 T (ad 0) (bb ad) (x_K9 0) ++ (wkL T ad x_K9 L18 ++ Z)) k) args s (ex1 k) (ex6 k) A := ⟨_, rfl⟩
  rw [← hQ]
  change W p l e (rmx 6 k) s m args below meth c s.heap [] 0 0 Q (F0 m 0 ls [])
  have J85 : ∀ (x_K_85 : Nat → Ob) (v1_85 : Int32) (v2_85 : Int32) (v3_85 : Int32) (v4_85 : Int32) (H : Heap) (locs : List Loc) (ls : Array Slot), Wd D A s.heap (oc_X10 T (ad 0) (bb ad) (x_K_85 0) ++ (wkL T ad x_K_85 L18 ++ Z)) H locs → lv_has ls 7 [(0, .ref (ad 0 0)), (1, .int v1_85), (2, .int v2_85), (3, .int v3_85), (4, .int v4_85)] → f_X10_rule_J85 x_K_85 v1_85 v2_85 v3_85 v4_85 = some (k, r, x_K9) → W p l e (rmx 6 k) s m args below meth c H locs 0 0 Q (F0 m 85 ls []) := by
    intro x_K_85 v1_85 v2_85 v3_85 v4_85 H locs ls hW hl h
    rw [f_X10_rule_J85] at h
    refine lv_aload_n hx hb dX10_rule_85 rfl (lv_at hl 0 rfl) ?_
    refine fg_X10_26 (v := .ref (ad 3 0)) hx hb hts hown hK hW 0 rfl (by rw [← hk2]; rfl) dX10_rule_86 ?_
    obtain ⟨r7, qq8, h⟩ := bnd1_s h
    replace hW := hW.perm (fo1 (k1 := 3) (by decide) rfl)
    refine cl_X10_168 hx hb hml hown hts hK hN hW (c_X2_isFull l D T A (ad 3) (oc_X10 T (ad 0) (bb ad) (x_K_85 0) ++ (wkL T ad x_K_85 (L18.erase 3) ++ Z)) (x_K_85 3) r7 qq8) ⟨Nat.le_of_ble_eq_true rfl, Nat.le_of_ble_eq_true rfl⟩ hl.1 rfl (Nat.le_of_ble_eq_true rfl) dX10_rule_89 ⟨Nat.zero_le _, Nat.zero_le _⟩ rfl (fun H locs hW => ?_)
    replace hW := hW.perm (fo1 (k1 := 3) (by decide) rfl).symm
    refine lv_if_eq (tgt := 105) hx hb dX10_rule_92 (by decide) (fun c9 => ?_) (fun c9 => ?_)
    · replace h := ite_t c9 h
      refine lv_aload_n hx hb dX10_rule_105 rfl (lv_at hl 0 rfl) ?_
      refine fg_X10_26 (v := .ref (ad 3 0)) hx hb hts hown hK hW 0 rfl (by rw [← hk2]; rfl) dX10_rule_106 ?_
      refine lv_iload_n hx hb dX10_rule_109 rfl (lv_at hl 1 rfl) ?_
      refine lv_iload_n hx hb dX10_rule_110 rfl (lv_at hl 2 rfl) ?_
      refine lv_iload_n hx hb dX10_rule_111 rfl (lv_at hl 3 rfl) ?_
      refine lv_iload hx hb dX10_rule_112 (lv_at hl 4 rfl) ?_
      obtain ⟨r10, y_o11, qq12, h⟩ := bnd2_s h
      replace hW := hW.perm (fo1 (k1 := 3) (by decide) rfl)
      refine cl_X10_171 hx hb hml hown hts hK hN hW (c_X2_addRule l D T A (ad 3) (oc_X10 T (ad 0) (bb ad) (x_K_85 0) ++ (wkL T ad x_K_85 (L18.erase 3) ++ Z)) (x_K_85 3) v1_85 v2_85 v3_85 v4_85 r10 y_o11 qq12) ⟨Nat.le_of_ble_eq_true rfl, Nat.le_of_ble_eq_true rfl⟩ hl.1 rfl (Nat.le_of_ble_eq_true rfl) dX10_rule_114 ⟨Nat.zero_le _, Nat.zero_le _⟩ rfl (fun H locs hW => ?_)
      obtain ⟨z_K13, ez_K13⟩ : ∃ y : Nat → Ob, y = va_up x_K_85 3 y_o11 := ⟨_, rfl⟩
      replace h := lb_at ez_K13 h
      replace hW := hW.perm (ba1 (K' := z_K13) (k1 := 3) (by decide) (by rw [ez_K13, va_up_ne _ _ (by omega)]) (fun k9 _ n0 => by rw [ez_K13, va_up_ne _ _ n0]) (by rw [ez_K13, va_up_self]; exact rfl))
      refine lv_istore (lv' := [(6, .int r10), (0, .ref (ad 0 0)), (1, .int v1_85), (2, .int v2_85), (3, .int v3_85), (4, .int v4_85)]) hx hb dX10_rule_117 hl (by decide) rfl (fun ls hl => ?_)
      refine lv_aload_n hx hb dX10_rule_119 rfl (lv_at hl 1 rfl) ?_
      obtain ⟨z_K14, qq15, h⟩ := bnd1_s h
      refine cl_X10_135 hx hb hml hown hts hK hN hW (c_X10_outdateAll l D T A ad hok Z z_K13 z_K14 qq15) ⟨Nat.le_of_ble_eq_true rfl, Nat.le_of_ble_eq_true rfl⟩ hl.1 rfl (Nat.le_of_ble_eq_true rfl) dX10_rule_120 ⟨Nat.zero_le _, Nat.zero_le _⟩ rfl (fun H locs hW => ?_)
      refine lv_iload hx hb dX10_rule_123 (lv_at hl 0 rfl) ?_
      obtain ⟨e90, e91, e92⟩ := ret3 h
      subst k
      subst r
      subst x_K9
      rw [hQ]
      exact x_reti hx hb hr hlk hW dX10_rule_125
    · replace h := ite_f c9 h
      obtain ⟨e90, e91, e92⟩ := ret3 h
      subst k
      subst r
      subst x_K9
      rw [hQ]
      exact xt_102_106 hx hb hfl hown hts hE hW hml hl.1 hout hlk (List.mem_of_getElem? (i := 11) rfl) dX10_rule_95 dX10_rule_98 dX10_rule_99 dX10_rule_101 dX10_rule_104 (by decide) (Nat.le_of_ble_eq_true rfl)
  have J59 : ∀ (x_K_59 : Nat → Ob) (v1_59 : Int32) (v2_59 : Int32) (v3_59 : Int32) (v4_59 : Int32) (H : Heap) (locs : List Loc) (ls : Array Slot), Wd D A s.heap (oc_X10 T (ad 0) (bb ad) (x_K_59 0) ++ (wkL T ad x_K_59 L18 ++ Z)) H locs → lv_has ls 7 [(0, .ref (ad 0 0)), (1, .int v1_59), (2, .int v2_59), (3, .int v3_59), (4, .int v4_59)] → f_X10_rule_J59 x_K_59 v1_59 v2_59 v3_59 v4_59 = some (k, r, x_K9) → W p l e (rmx 6 k) s m args below meth c H locs 0 0 Q (F0 m 59 ls []) := by
    intro x_K_59 v1_59 v2_59 v3_59 v4_59 H locs ls hW hl h
    rw [f_X10_rule_J59] at h
    refine lv_iload_n hx hb dX10_rule_59 rfl (lv_at hl 3 rfl) ?_
    refine lv_iconst (v := (-1)) hx hb dX10_rule_60 (by decide) ?_
    refine lv_icmp_ne (tgt := 85) hx hb dX10_rule_61 (by decide) (fun c6 => ?_) (fun c6 => ?_)
    · replace h := ite_f c6 h
      exact J85 _ _ _ _ _ H locs ls hW (lv_sub hl [0, 1, 2, 3, 4] rfl) h
    · replace h := ite_t c6 h
      refine lv_iload_n hx hb dX10_rule_64 rfl (lv_at hl 1 rfl) ?_
      refine lv_iload_n hx hb dX10_rule_65 rfl (lv_at hl 2 rfl) ?_
      refine lv_icmp_le (tgt := 75) hx hb dX10_rule_66 (by decide) (fun c16 => ?_) (fun c16 => ?_)
      · replace h := ite_t c16 h
        obtain ⟨e90, e91, e92⟩ := ret3 h
        subst k
        subst r
        subst x_K9
        rw [hQ]
        exact xt_91_95 hx hb hfl hown hts hE hW hml hl.1 hout hlk (List.mem_of_getElem? (i := 10) rfl) dX10_rule_75 dX10_rule_78 dX10_rule_79 dX10_rule_81 dX10_rule_84 (by decide) (Nat.le_of_ble_eq_true rfl)
      · replace h := ite_f c16 h
        refine lv_iload hx hb dX10_rule_69 (lv_at hl 4 rfl) ?_
        refine lv_iconst (v := 1) hx hb dX10_rule_71 (by decide) ?_
        refine lv_icmp_eq (tgt := 85) hx hb dX10_rule_72 (by decide) (fun c17 => ?_) (fun c17 => ?_)
        · replace h := ite_t c17 h
          exact J85 _ _ _ _ _ H locs ls hW (lv_sub hl [0, 1, 2, 3, 4] rfl) h
        · replace h := ite_f c17 h
          obtain ⟨e90, e91, e92⟩ := ret3 h
          subst k
          subst r
          subst x_K9
          rw [hQ]
          exact xt_91_95 hx hb hfl hown hts hE hW hml hl.1 hout hlk (List.mem_of_getElem? (i := 10) rfl) dX10_rule_75 dX10_rule_78 dX10_rule_79 dX10_rule_81 dX10_rule_84 (by decide) (Nat.le_of_ble_eq_true rfl)
  have J30 : ∀ (x_K_30 : Nat → Ob) (v1_30 : Int32) (v2_30 : Int32) (v3_30 : Int32) (v4_30 : Int32) (s0_30 : Int32) (H : Heap) (locs : List Loc) (ls : Array Slot), Wd D A s.heap (oc_X10 T (ad 0) (bb ad) (x_K_30 0) ++ (wkL T ad x_K_30 L18 ++ Z)) H locs → lv_has ls 7 [(0, .ref (ad 0 0)), (1, .int v1_30), (2, .int v2_30), (3, .int v3_30), (4, .int v4_30)] → f_X10_rule_J30 x_K_30 v1_30 v2_30 v3_30 v4_30 s0_30 = some (k, r, x_K9) → W p l e (rmx 6 k) s m args below meth c H locs 0 0 Q (F0 m 30 ls [.int s0_30]) := by
    intro x_K_30 v1_30 v2_30 v3_30 v4_30 s0_30 H locs ls hW hl h
    rw [f_X10_rule_J30] at h
    refine lv_istore (lv' := [(5, .int s0_30), (0, .ref (ad 0 0)), (1, .int v1_30), (2, .int v2_30), (3, .int v3_30), (4, .int v4_30)]) hx hb dX10_rule_30 hl (by decide) rfl (fun ls hl => ?_)
    refine lv_iload hx hb dX10_rule_32 (lv_at hl 0 rfl) ?_
    refine lv_if_eq (tgt := 49) hx hb dX10_rule_34 (by decide) (fun c4 => ?_) (fun c4 => ?_)
    · replace h := ite_t c4 h
      obtain ⟨e90, e91, e92⟩ := ret3 h
      subst k
      subst r
      subst x_K9
      rw [hQ]
      exact xt_91_95 hx hb hfl hown hts hE hW hml hl.1 hout hlk (List.mem_of_getElem? (i := 9) rfl) dX10_rule_49 dX10_rule_52 dX10_rule_53 dX10_rule_55 dX10_rule_58 (by decide) (Nat.le_of_ble_eq_true rfl)
    · replace h := ite_f c4 h
      refine lv_iload hx hb dX10_rule_37 (lv_at hl 5 rfl) ?_
      refine lv_iconst (v := 1) hx hb dX10_rule_39 (by decide) ?_
      refine lv_icmp_eq (tgt := 59) hx hb dX10_rule_40 (by decide) (fun c5 => ?_) (fun c5 => ?_)
      · replace h := ite_t c5 h
        exact J59 _ _ _ _ _ H locs ls hW (lv_sub hl [1, 2, 3, 4, 5] rfl) h
      · replace h := ite_f c5 h
        refine lv_iload hx hb dX10_rule_43 (lv_at hl 5 rfl) ?_
        refine lv_iconst (v := 2) hx hb dX10_rule_45 (by decide) ?_
        refine lv_icmp_eq (tgt := 59) hx hb dX10_rule_46 (by decide) (fun c18 => ?_) (fun c18 => ?_)
        · replace h := ite_t c18 h
          exact J59 _ _ _ _ _ H locs ls hW (lv_sub hl [1, 2, 3, 4, 5] rfl) h
        · replace h := ite_f c18 h
          obtain ⟨e90, e91, e92⟩ := ret3 h
          subst k
          subst r
          subst x_K9
          rw [hQ]
          exact xt_91_95 hx hb hfl hown hts hE hW hml hl.1 hout hlk (List.mem_of_getElem? (i := 9) rfl) dX10_rule_49 dX10_rule_52 dX10_rule_53 dX10_rule_55 dX10_rule_58 (by decide) (Nat.le_of_ble_eq_true rfl)
  have J29 : ∀ (x_K_29 : Nat → Ob) (v1_29 : Int32) (v2_29 : Int32) (v3_29 : Int32) (v4_29 : Int32) (H : Heap) (locs : List Loc) (ls : Array Slot), Wd D A s.heap (oc_X10 T (ad 0) (bb ad) (x_K_29 0) ++ (wkL T ad x_K_29 L18 ++ Z)) H locs → lv_has ls 7 [(0, .ref (ad 0 0)), (1, .int v1_29), (2, .int v2_29), (3, .int v3_29), (4, .int v4_29)] → f_X10_rule_J29 x_K_29 v1_29 v2_29 v3_29 v4_29 = some (k, r, x_K9) → W p l e (rmx 6 k) s m args below meth c H locs 0 0 Q (F0 m 29 ls []) := by
    intro x_K_29 v1_29 v2_29 v3_29 v4_29 H locs ls hW hl h
    rw [f_X10_rule_J29] at h
    refine lv_iconst (v := 0) hx hb dX10_rule_29 (by decide) ?_
    exact J30 _ _ _ _ _ _ H locs ls hW (lv_sub hl [0, 1, 2, 3, 4] rfl) h
  rw [f_X10_rule] at h
  suffices hm : ∀ (H : Heap) (locs : List Loc), Wd D A s.heap (oc_X10 T (ad 0) (bb ad) (x_K 0) ++ (wkL T ad x_K L18 ++ Z)) H locs → W p l e (rmx 6 k) s m args below meth c H locs 0 0 Q (F0 m 0 ls []) from hm _ _ hW
  intro H locs hW
  refine lv_iload_n hx hb dX10_rule_0 rfl (lv_at hl 1 rfl) ?_
  refine lv_bipush (v := 10) hx hb dX10_rule_1 (by decide) ?_
  obtain ⟨r1, qq2, h⟩ := bnd1_s h
  refine cl_X10_87 hx hb hml hown hts hK hN hW (c_X10_isBelow l D T A (oc_X10 T (ad 0) (bb ad) (x_K 0) ++ (wkL T ad x_K L18 ++ Z)) p1 10 r1 qq2) ⟨Nat.le_of_ble_eq_true rfl, Nat.le_of_ble_eq_true rfl⟩ hl.1 rfl (Nat.le_of_ble_eq_true rfl) dX10_rule_3 ⟨Nat.zero_le _, Nat.zero_le _⟩ rfl (fun H locs hW => ?_)
  refine lv_if_eq (tgt := 29) hx hb dX10_rule_6 (by decide) (fun c3 => ?_) (fun c3 => ?_)
  · replace h := ite_t c3 h
    exact J29 _ _ _ _ _ H locs ls hW (lv_sub hl [0, 1, 2, 3, 4] rfl) h
  · replace h := ite_f c3 h
    refine lv_iload_n hx hb dX10_rule_9 rfl (lv_at hl 2 rfl) ?_
    refine lv_bipush (v := 10) hx hb dX10_rule_10 (by decide) ?_
    obtain ⟨r19, qq20, h⟩ := bnd1_s h
    refine cl_X10_87 hx hb hml hown hts hK hN hW (c_X10_isBelow l D T A (oc_X10 T (ad 0) (bb ad) (x_K 0) ++ (wkL T ad x_K L18 ++ Z)) p2 10 r19 qq20) ⟨Nat.le_of_ble_eq_true rfl, Nat.le_of_ble_eq_true rfl⟩ hl.1 rfl (Nat.le_of_ble_eq_true rfl) dX10_rule_12 ⟨Nat.zero_le _, Nat.zero_le _⟩ rfl (fun H locs hW => ?_)
    refine lv_if_eq (tgt := 29) hx hb dX10_rule_15 (by decide) (fun c21 => ?_) (fun c21 => ?_)
    · replace h := ite_t c21 h
      exact J29 _ _ _ _ _ H locs ls hW (lv_sub hl [0, 1, 2, 3, 4] rfl) h
    · replace h := ite_f c21 h
      refine lv_iload_n hx hb dX10_rule_18 rfl (lv_at hl 3 rfl) ?_
      obtain ⟨r22, qq23, h⟩ := bnd1_s h
      refine cl_X10_156 hx hb hml hown hts hK hN hW (c_X10_isCategoryOrNone l D T A (oc_X10 T (ad 0) (bb ad) (x_K 0) ++ (wkL T ad x_K L18 ++ Z)) p3 r22 qq23) ⟨Nat.le_of_ble_eq_true rfl, Nat.le_of_ble_eq_true rfl⟩ hl.1 rfl (Nat.le_of_ble_eq_true rfl) dX10_rule_19 ⟨Nat.zero_le _, Nat.zero_le _⟩ rfl (fun H locs hW => ?_)
      refine lv_if_eq (tgt := 29) hx hb dX10_rule_22 (by decide) (fun c24 => ?_) (fun c24 => ?_)
      · replace h := ite_t c24 h
        exact J29 _ _ _ _ _ H locs ls hW (lv_sub hl [0, 1, 2, 3, 4] rfl) h
      · replace h := ite_f c24 h
        refine lv_iconst (v := 1) hx hb dX10_rule_25 (by decide) ?_
        refine lv_goto (tgt := 30) hx hb dX10_rule_26 (by decide) ?_
        exact J30 _ _ _ _ _ _ H locs ls hW (lv_sub hl [0, 1, 2, 3, 4] rfl) h
set_option maxHeartbeats 4000000 in
set_option maxRecDepth 100000 in
theorem c_X10_equate (l : Launch) (hfl : l.stackTraces = false) (D : va_G) (T : Nat → ClassId) (A : Nat → Prop) (ad : Nat → Nat → Nat) (hok : okad ad) (Z : va_W) (x_K : Nat → Ob) (p1 : Int32) (p2 : Int32) (p3 : Int32) (p4 : Int32) (p5 : Int32)  (k : Nat) (r : Int32) (x_K9 : Nat → Ob) (h : f_X10_equate x_K p1 p2 p3 p4 p5 = some (k, r, x_K9)) : vx_Met l yX10_equate (Cond.code yX10_equate cX10_equate 7 (some .int) :: wsL_law) (rmx 6 k) (Px D T A (oc_X10 T (ad 0) (bb ad) (x_K 0) ++ (wkL T ad x_K L18 ++ Z)) [.ref (ad 0 0), .int p1, .int p2, .int p3, .int p4, .int p5]) (Qxi D A (oc_X10 T (ad 0) (bb ad) (x_K9 0) ++ (wkL T ad x_K9 L18 ++ Z)) k r) (XCx D A (oc_X10 T (ad 0) (bb ad) (x_K9 0) ++ (wkL T ad x_K9 L18 ++ Z)) k) (ex1 k) (ex6 k) A := by
  refine vx_ofW (cc := cX10_equate) (maxL := 7) (ret := (some .int)) (by decide +kernel) rfl ?_
  intro p e s m args below meth c s₁ B hml hout hv
  obtain ⟨ha, hP, hK, hD, hN, hE⟩ := hv
  have hx := B.exec
  have hb := B.bytes
  have hr := B.returns
  have hlk := B.notSynchronized
  have hts : ∀ w ∈ wsL_law, w.before args s = true := fun w hw => atoms_spec B.pre w (List.mem_cons_of_mem _ hw)
  have hown : s.vm.findClass RX10 = some m.cls := findClass_of_methodNamed B.named
  obtain ⟨hk0, hk1, hk2, hk3, hk4, hk5, hk6, hk7, hk9, hk10⟩ := id hok
  have hW : Wd D A s.heap (oc_X10 T (ad 0) (bb ad) (x_K 0) ++ (wkL T ad x_K L18 ++ Z)) s.heap [] := ⟨hP, hD, va_S.rf⟩
  have hl := lv_entry [.ref (ad 0 0), .int p1, .int p2, .int p3, .int p4, .int p5] (n := 7) (Nat.le_of_ble_eq_true rfl)
  refine W.eq (en_eq ha) ?_
  generalize (lg_sl [.ref (ad 0 0), .int p1, .int p2, .int p3, .int p4, .int p5] ++ List.replicate (7 - (lg_sl [.ref (ad 0 0), .int p1, .int p2, .int p3, .int p4, .int p5]).length) Slot.unset).toArray = ls at hl ⊢
  have hl : lv_has ls 7 [(0, .ref (ad 0 0)), (1, .int p1), (2, .int p2), (3, .int p3), (4, .int p4), (5, .int p5)] := hl
  clear hP hD B ha
  obtain ⟨Q, hQ⟩ : ∃ Q, Q = vx_MQ below (Qxi D A (oc_X10 T (ad 0) (bb ad) (x_K9 0) ++ (wkL T ad x_K9 L18 ++ Z)) k r) (XCx D A (oc_X10 T (ad 0) (bb ad) (x_K9 0) ++ (wkL T ad x_K9 L18 ++ Z)) k) args s (ex1 k) (ex6 k) A := ⟨_, rfl⟩
  rw [← hQ]
  change W p l e (rmx 6 k) s m args below meth c s.heap [] 0 0 Q (F0 m 0 ls [])
  have J105 : ∀ (x_K_105 : Nat → Ob) (v1_105 : Int32) (v2_105 : Int32) (v3_105 : Int32) (v4_105 : Int32) (v5_105 : Int32) (H : Heap) (locs : List Loc) (ls : Array Slot), Wd D A s.heap (oc_X10 T (ad 0) (bb ad) (x_K_105 0) ++ (wkL T ad x_K_105 L18 ++ Z)) H locs → lv_has ls 7 [(0, .ref (ad 0 0)), (1, .int v1_105), (2, .int v2_105), (3, .int v3_105), (4, .int v4_105), (5, .int v5_105)] → f_X10_equate_J105 x_K_105 v1_105 v2_105 v3_105 v4_105 v5_105 = some (k, r, x_K9) → W p l e (rmx 6 k) s m args below meth c H locs 0 0 Q (F0 m 105 ls []) := by
    intro x_K_105 v1_105 v2_105 v3_105 v4_105 v5_105 H locs ls hW hl h
    rw [f_X10_equate_J105] at h
    refine lv_aload_n hx hb dX10_equate_105 rfl (lv_at hl 0 rfl) ?_
    refine fg_X10_26 (v := .ref (ad 3 0)) hx hb hts hown hK hW 0 rfl (by rw [← hk2]; rfl) dX10_equate_106 ?_
    refine lv_iload_n hx hb dX10_equate_109 rfl (lv_at hl 1 rfl) ?_
    obtain ⟨r21, qq22, h⟩ := bnd1_s h
    replace hW := hW.perm (fo1 (k1 := 3) (by decide) rfl)
    refine cl_X10_189 hx hb hml hown hts hK hN hW (c_X2_isRuleFull l D T A (ad 3) (oc_X10 T (ad 0) (bb ad) (x_K_105 0) ++ (wkL T ad x_K_105 (L18.erase 3) ++ Z)) (x_K_105 3) v1_105 r21 qq22) ⟨Nat.le_of_ble_eq_true rfl, Nat.le_of_ble_eq_true rfl⟩ hl.1 rfl (Nat.le_of_ble_eq_true rfl) dX10_equate_110 ⟨Nat.zero_le _, Nat.zero_le _⟩ rfl (fun H locs hW => ?_)
    replace hW := hW.perm (fo1 (k1 := 3) (by decide) rfl).symm
    refine lv_if_eq (tgt := 126) hx hb dX10_equate_113 (by decide) (fun c23 => ?_) (fun c23 => ?_)
    · replace h := ite_t c23 h
      refine lv_aload_n hx hb dX10_equate_126 rfl (lv_at hl 0 rfl) ?_
      refine fg_X10_26 (v := .ref (ad 3 0)) hx hb hts hown hK hW 0 rfl (by rw [← hk2]; rfl) dX10_equate_127 ?_
      refine lv_iload_n hx hb dX10_equate_130 rfl (lv_at hl 1 rfl) ?_
      refine lv_iload_n hx hb dX10_equate_131 rfl (lv_at hl 2 rfl) ?_
      refine lv_iload_n hx hb dX10_equate_132 rfl (lv_at hl 3 rfl) ?_
      refine lv_iload hx hb dX10_equate_133 (lv_at hl 4 rfl) ?_
      refine lv_iload hx hb dX10_equate_135 (lv_at hl 5 rfl) ?_
      obtain ⟨r24, y_o25, qq26, h⟩ := bnd2_s h
      replace hW := hW.perm (fo1 (k1 := 3) (by decide) rfl)
      refine cl_X10_194 hx hb hml hown hts hK hN hW (c_X2_addEquation l D T A (ad 3) (oc_X10 T (ad 0) (bb ad) (x_K_105 0) ++ (wkL T ad x_K_105 (L18.erase 3) ++ Z)) (x_K_105 3) v1_105 v2_105 v3_105 v4_105 v5_105 r24 y_o25 qq26) ⟨Nat.le_of_ble_eq_true rfl, Nat.le_of_ble_eq_true rfl⟩ hl.1 rfl (Nat.le_of_ble_eq_true rfl) dX10_equate_137 ⟨Nat.zero_le _, Nat.zero_le _⟩ rfl (fun H locs hW => ?_)
      obtain ⟨z_K27, ez_K27⟩ : ∃ y : Nat → Ob, y = va_up x_K_105 3 y_o25 := ⟨_, rfl⟩
      replace h := lb_at ez_K27 h
      replace hW := hW.perm (ba1 (K' := z_K27) (k1 := 3) (by decide) (by rw [ez_K27, va_up_ne _ _ (by omega)]) (fun k9 _ n0 => by rw [ez_K27, va_up_ne _ _ n0]) (by rw [ez_K27, va_up_self]; exact rfl))
      refine lv_istore (lv' := [(6, .int r24), (0, .ref (ad 0 0)), (1, .int v1_105), (2, .int v2_105), (3, .int v3_105), (4, .int v4_105), (5, .int v5_105)]) hx hb dX10_equate_140 hl (by decide) rfl (fun ls hl => ?_)
      refine lv_aload_n hx hb dX10_equate_142 rfl (lv_at hl 1 rfl) ?_
      obtain ⟨z_K28, qq29, h⟩ := bnd1_s h
      refine cl_X10_135 hx hb hml hown hts hK hN hW (c_X10_outdateAll l D T A ad hok Z z_K27 z_K28 qq29) ⟨Nat.le_of_ble_eq_true rfl, Nat.le_of_ble_eq_true rfl⟩ hl.1 rfl (Nat.le_of_ble_eq_true rfl) dX10_equate_143 ⟨Nat.zero_le _, Nat.zero_le _⟩ rfl (fun H locs hW => ?_)
      refine lv_iload hx hb dX10_equate_146 (lv_at hl 0 rfl) ?_
      obtain ⟨e90, e91, e92⟩ := ret3 h
      subst k
      subst r
      subst x_K9
      rw [hQ]
      exact x_reti hx hb hr hlk hW dX10_equate_148
    · replace h := ite_f c23 h
      obtain ⟨e90, e91, e92⟩ := ret3 h
      subst k
      subst r
      subst x_K9
      rw [hQ]
      exact xt_102_106 hx hb hfl hown hts hE hW hml hl.1 hout hlk (List.mem_of_getElem? (i := 15) rfl) dX10_equate_116 dX10_equate_119 dX10_equate_120 dX10_equate_122 dX10_equate_125 (by decide) (Nat.le_of_ble_eq_true rfl)
  have J83 : ∀ (x_K_83 : Nat → Ob) (v1_83 : Int32) (v2_83 : Int32) (v3_83 : Int32) (v4_83 : Int32) (v5_83 : Int32) (H : Heap) (locs : List Loc) (ls : Array Slot), Wd D A s.heap (oc_X10 T (ad 0) (bb ad) (x_K_83 0) ++ (wkL T ad x_K_83 L18 ++ Z)) H locs → lv_has ls 7 [(0, .ref (ad 0 0)), (1, .int v1_83), (2, .int v2_83), (3, .int v3_83), (4, .int v4_83), (5, .int v5_83)] → f_X10_equate_J83 x_K_83 v1_83 v2_83 v3_83 v4_83 v5_83 = some (k, r, x_K9) → W p l e (rmx 6 k) s m args below meth c H locs 0 0 Q (F0 m 83 ls []) := by
    intro x_K_83 v1_83 v2_83 v3_83 v4_83 v5_83 H locs ls hW hl h
    rw [f_X10_equate_J83] at h
    refine lv_aload_n hx hb dX10_equate_83 rfl (lv_at hl 0 rfl) ?_
    refine fg_X10_26 (v := .ref (ad 3 0)) hx hb hts hown hK hW 0 rfl (by rw [← hk2]; rfl) dX10_equate_84 ?_
    refine lv_iload_n hx hb dX10_equate_87 rfl (lv_at hl 1 rfl) ?_
    obtain ⟨r18, qq19, h⟩ := bnd1_s h
    replace hW := hW.perm (fo1 (k1 := 3) (by decide) rfl)
    refine cl_X10_184 hx hb hml hown hts hK hN hW (c_X2_rightOf l D T A (ad 3) (oc_X10 T (ad 0) (bb ad) (x_K_83 0) ++ (wkL T ad x_K_83 (L18.erase 3) ++ Z)) (x_K_83 3) v1_83 r18 qq19) ⟨Nat.le_of_ble_eq_true rfl, Nat.le_of_ble_eq_true rfl⟩ hl.1 rfl (Nat.le_of_ble_eq_true rfl) dX10_equate_88 ⟨Nat.zero_le _, Nat.zero_le _⟩ rfl (fun H locs hW => ?_)
    replace hW := hW.perm (fo1 (k1 := 3) (by decide) rfl).symm
    refine lv_iconst (v := (-1)) hx hb dX10_equate_91 (by decide) ?_
    refine lv_icmp_ne (tgt := 105) hx hb dX10_equate_92 (by decide) (fun c20 => ?_) (fun c20 => ?_)
    · replace h := ite_f c20 h
      exact J105 _ _ _ _ _ _ H locs ls hW (lv_sub hl [0, 1, 2, 3, 4, 5] rfl) h
    · replace h := ite_t c20 h
      obtain ⟨e90, e91, e92⟩ := ret3 h
      subst k
      subst r
      subst x_K9
      rw [hQ]
      exact xt_91_95 hx hb hfl hown hts hE hW hml hl.1 hout hlk (List.mem_of_getElem? (i := 14) rfl) dX10_equate_95 dX10_equate_98 dX10_equate_99 dX10_equate_101 dX10_equate_104 (by decide) (Nat.le_of_ble_eq_true rfl)
  rw [f_X10_equate] at h
  suffices hm : ∀ (H : Heap) (locs : List Loc), Wd D A s.heap (oc_X10 T (ad 0) (bb ad) (x_K 0) ++ (wkL T ad x_K L18 ++ Z)) H locs → W p l e (rmx 6 k) s m args below meth c H locs 0 0 Q (F0 m 0 ls []) from hm _ _ hW
  intro H locs hW
  refine lv_aload_n hx hb dX10_equate_0 rfl (lv_at hl 0 rfl) ?_
  refine fg_X10_26 (v := .ref (ad 3 0)) hx hb hts hown hK hW 0 rfl (by rw [← hk2]; rfl) dX10_equate_1 ?_
  refine lv_iload_n hx hb dX10_equate_4 rfl (lv_at hl 1 rfl) ?_
  obtain ⟨r1, qq2, h⟩ := bnd1_s h
  replace hW := hW.perm (fo1 (k1 := 3) (by decide) rfl)
  refine cl_X10_174 hx hb hml hown hts hK hN hW (c_X2_hasRule l D T A (ad 3) (oc_X10 T (ad 0) (bb ad) (x_K 0) ++ (wkL T ad x_K (L18.erase 3) ++ Z)) (x_K 3) p1 r1 qq2) ⟨Nat.le_of_ble_eq_true rfl, Nat.le_of_ble_eq_true rfl⟩ hl.1 rfl (Nat.le_of_ble_eq_true rfl) dX10_equate_5 ⟨Nat.zero_le _, Nat.zero_le _⟩ rfl (fun H locs hW => ?_)
  replace hW := hW.perm (fo1 (k1 := 3) (by decide) rfl).symm
  refine lv_if_ne (tgt := 21) hx hb dX10_equate_8 (by decide) (fun c3 => ?_) (fun c3 => ?_)
  · replace h := ite_f c3 h
    refine lv_iload_n hx hb dX10_equate_21 rfl (lv_at hl 2 rfl) ?_
    refine lv_iconst (v := 3) hx hb dX10_equate_22 (by decide) ?_
    obtain ⟨r4, qq5, h⟩ := bnd1_s h
    refine cl_X10_87 hx hb hml hown hts hK hN hW (c_X10_isBelow l D T A (oc_X10 T (ad 0) (bb ad) (x_K 0) ++ (wkL T ad x_K L18 ++ Z)) p2 3 r4 qq5) ⟨Nat.le_of_ble_eq_true rfl, Nat.le_of_ble_eq_true rfl⟩ hl.1 rfl (Nat.le_of_ble_eq_true rfl) dX10_equate_23 ⟨Nat.zero_le _, Nat.zero_le _⟩ rfl (fun H locs hW => ?_)
    refine lv_if_eq (tgt := 62) hx hb dX10_equate_26 (by decide) (fun c6 => ?_) (fun c6 => ?_)
    · replace h := ite_t c6 h
      obtain ⟨e90, e91, e92⟩ := ret3 h
      subst k
      subst r
      subst x_K9
      rw [hQ]
      exact xt_91_95 hx hb hfl hown hts hE hW hml hl.1 hout hlk (List.mem_of_getElem? (i := 13) rfl) dX10_equate_62 dX10_equate_65 dX10_equate_66 dX10_equate_68 dX10_equate_71 (by decide) (Nat.le_of_ble_eq_true rfl)
    · replace h := ite_f c6 h
      refine lv_iload_n hx hb dX10_equate_29 rfl (lv_at hl 3 rfl) ?_
      refine lv_iconst (v := 3) hx hb dX10_equate_30 (by decide) ?_
      obtain ⟨r7, qq8, h⟩ := bnd1_s h
      refine cl_X10_87 hx hb hml hown hts hK hN hW (c_X10_isBelow l D T A (oc_X10 T (ad 0) (bb ad) (x_K 0) ++ (wkL T ad x_K L18 ++ Z)) p3 3 r7 qq8) ⟨Nat.le_of_ble_eq_true rfl, Nat.le_of_ble_eq_true rfl⟩ hl.1 rfl (Nat.le_of_ble_eq_true rfl) dX10_equate_31 ⟨Nat.zero_le _, Nat.zero_le _⟩ rfl (fun H locs hW => ?_)
      refine lv_if_eq (tgt := 62) hx hb dX10_equate_34 (by decide) (fun c9 => ?_) (fun c9 => ?_)
      · replace h := ite_t c9 h
        obtain ⟨e90, e91, e92⟩ := ret3 h
        subst k
        subst r
        subst x_K9
        rw [hQ]
        exact xt_91_95 hx hb hfl hown hts hE hW hml hl.1 hout hlk (List.mem_of_getElem? (i := 13) rfl) dX10_equate_62 dX10_equate_65 dX10_equate_66 dX10_equate_68 dX10_equate_71 (by decide) (Nat.le_of_ble_eq_true rfl)
      · replace h := ite_f c9 h
        refine lv_iload hx hb dX10_equate_37 (lv_at hl 4 rfl) ?_
        refine lv_iconst (v := 3) hx hb dX10_equate_39 (by decide) ?_
        obtain ⟨r10, qq11, h⟩ := bnd1_s h
        refine cl_X10_87 hx hb hml hown hts hK hN hW (c_X10_isBelow l D T A (oc_X10 T (ad 0) (bb ad) (x_K 0) ++ (wkL T ad x_K L18 ++ Z)) p4 3 r10 qq11) ⟨Nat.le_of_ble_eq_true rfl, Nat.le_of_ble_eq_true rfl⟩ hl.1 rfl (Nat.le_of_ble_eq_true rfl) dX10_equate_40 ⟨Nat.zero_le _, Nat.zero_le _⟩ rfl (fun H locs hW => ?_)
        refine lv_if_eq (tgt := 62) hx hb dX10_equate_43 (by decide) (fun c12 => ?_) (fun c12 => ?_)
        · replace h := ite_t c12 h
          obtain ⟨e90, e91, e92⟩ := ret3 h
          subst k
          subst r
          subst x_K9
          rw [hQ]
          exact xt_91_95 hx hb hfl hown hts hE hW hml hl.1 hout hlk (List.mem_of_getElem? (i := 13) rfl) dX10_equate_62 dX10_equate_65 dX10_equate_66 dX10_equate_68 dX10_equate_71 (by decide) (Nat.le_of_ble_eq_true rfl)
        · replace h := ite_f c12 h
          refine lv_iload_n hx hb dX10_equate_46 rfl (lv_at hl 3 rfl) ?_
          refine lv_iload hx hb dX10_equate_47 (lv_at hl 4 rfl) ?_
          refine lv_icmp_eq (tgt := 62) hx hb dX10_equate_49 (by decide) (fun c13 => ?_) (fun c13 => ?_)
          · replace h := ite_t c13 h
            obtain ⟨e90, e91, e92⟩ := ret3 h
            subst k
            subst r
            subst x_K9
            rw [hQ]
            exact xt_91_95 hx hb hfl hown hts hE hW hml hl.1 hout hlk (List.mem_of_getElem? (i := 13) rfl) dX10_equate_62 dX10_equate_65 dX10_equate_66 dX10_equate_68 dX10_equate_71 (by decide) (Nat.le_of_ble_eq_true rfl)
          · replace h := ite_f c13 h
            refine lv_iload hx hb dX10_equate_52 (lv_at hl 5 rfl) ?_
            refine lv_bipush (v := 21) hx hb dX10_equate_54 (by decide) ?_
            obtain ⟨r14, qq15, h⟩ := bnd1_s h
            refine cl_X10_87 hx hb hml hown hts hK hN hW (c_X10_isBelow l D T A (oc_X10 T (ad 0) (bb ad) (x_K 0) ++ (wkL T ad x_K L18 ++ Z)) p5 21 r14 qq15) ⟨Nat.le_of_ble_eq_true rfl, Nat.le_of_ble_eq_true rfl⟩ hl.1 rfl (Nat.le_of_ble_eq_true rfl) dX10_equate_56 ⟨Nat.zero_le _, Nat.zero_le _⟩ rfl (fun H locs hW => ?_)
            refine lv_if_ne (tgt := 72) hx hb dX10_equate_59 (by decide) (fun c16 => ?_) (fun c16 => ?_)
            · replace h := ite_f c16 h
              refine lv_iload_n hx hb dX10_equate_72 rfl (lv_at hl 3 rfl) ?_
              refine lv_iconst (v := 2) hx hb dX10_equate_73 (by decide) ?_
              refine lv_icmp_eq (tgt := 83) hx hb dX10_equate_74 (by decide) (fun c17 => ?_) (fun c17 => ?_)
              · replace h := ite_t c17 h
                exact J83 _ _ _ _ _ _ H locs ls hW (lv_sub hl [0, 1, 2, 3, 4, 5] rfl) h
              · replace h := ite_f c17 h
                refine lv_iload hx hb dX10_equate_77 (lv_at hl 4 rfl) ?_
                refine lv_iconst (v := 2) hx hb dX10_equate_79 (by decide) ?_
                refine lv_icmp_ne (tgt := 105) hx hb dX10_equate_80 (by decide) (fun c30 => ?_) (fun c30 => ?_)
                · replace h := ite_f c30 h
                  exact J105 _ _ _ _ _ _ H locs ls hW (lv_sub hl [0, 1, 2, 3, 4, 5] rfl) h
                · replace h := ite_t c30 h
                  exact J83 _ _ _ _ _ _ H locs ls hW (lv_sub hl [0, 1, 2, 3, 4, 5] rfl) h
            · replace h := ite_t c16 h
              obtain ⟨e90, e91, e92⟩ := ret3 h
              subst k
              subst r
              subst x_K9
              rw [hQ]
              exact xt_91_95 hx hb hfl hown hts hE hW hml hl.1 hout hlk (List.mem_of_getElem? (i := 13) rfl) dX10_equate_62 dX10_equate_65 dX10_equate_66 dX10_equate_68 dX10_equate_71 (by decide) (Nat.le_of_ble_eq_true rfl)
  · replace h := ite_t c3 h
    obtain ⟨e90, e91, e92⟩ := ret3 h
    subst k
    subst r
    subst x_K9
    rw [hQ]
    exact xt_177_181 hx hb hfl hown hts hE hW hml hl.1 hout hlk (List.mem_of_getElem? (i := 12) rfl) dX10_equate_11 dX10_equate_14 dX10_equate_15 dX10_equate_17 dX10_equate_20 (by decide) (Nat.le_of_ble_eq_true rfl)
set_option maxHeartbeats 4000000 in
set_option maxRecDepth 100000 in
theorem c_X10_sentenceAt (l : Launch) (hfl : l.stackTraces = false) (D : va_G) (T : Nat → ClassId) (A : Nat → Prop) (ad : Nat → Nat → Nat) (hok : okad ad) (Z : va_W) (x_K : Nat → Ob) (p1 : Int32)  (k : Nat) (r : Nat) (h : f_X10_sentenceAt x_K p1 = some (k, r)) : vx_Met l yX10_sentenceAt (Cond.code yX10_sentenceAt cX10_sentenceAt 2 (some (.object "ReadingChart$Sentence")) :: wsL_law) (rmx 6 k) (Px D T A (oc_X10 T (ad 0) (bb ad) (x_K 0) ++ (wkL T ad x_K L18 ++ Z)) [.ref (ad 0 0), .int p1]) (Qxr D A (oc_X10 T (ad 0) (bb ad) (x_K 0) ++ (wkL T ad x_K L18 ++ Z)) k (ad (9 + r) 0)) (XCx D A (oc_X10 T (ad 0) (bb ad) (x_K 0) ++ (wkL T ad x_K L18 ++ Z)) k) (ex1 k) (ex6 k) A := by
  refine vx_ofW (cc := cX10_sentenceAt) (maxL := 2) (ret := (some (.object "ReadingChart$Sentence"))) (by decide +kernel) rfl ?_
  intro p e s m args below meth c s₁ B hml hout hv
  obtain ⟨ha, hP, hK, hD, hN, hE⟩ := hv
  have hx := B.exec
  have hb := B.bytes
  have hr := B.returns
  have hlk := B.notSynchronized
  have hts : ∀ w ∈ wsL_law, w.before args s = true := fun w hw => atoms_spec B.pre w (List.mem_cons_of_mem _ hw)
  have hown : s.vm.findClass RX10 = some m.cls := findClass_of_methodNamed B.named
  obtain ⟨hk0, hk1, hk2, hk3, hk4, hk5, hk6, hk7, hk9, hk10⟩ := id hok
  have hW : Wd D A s.heap (oc_X10 T (ad 0) (bb ad) (x_K 0) ++ (wkL T ad x_K L18 ++ Z)) s.heap [] := ⟨hP, hD, va_S.rf⟩
  have hl := lv_entry [.ref (ad 0 0), .int p1] (n := 2) (Nat.le_of_ble_eq_true rfl)
  refine W.eq (en_eq ha) ?_
  generalize (lg_sl [.ref (ad 0 0), .int p1] ++ List.replicate (2 - (lg_sl [.ref (ad 0 0), .int p1]).length) Slot.unset).toArray = ls at hl ⊢
  have hl : lv_has ls 2 [(0, .ref (ad 0 0)), (1, .int p1)] := hl
  clear hP hD B ha
  obtain ⟨Q, hQ⟩ : ∃ Q, Q = vx_MQ below (Qxr D A (oc_X10 T (ad 0) (bb ad) (x_K 0) ++ (wkL T ad x_K L18 ++ Z)) k (ad (9 + r) 0)) (XCx D A (oc_X10 T (ad 0) (bb ad) (x_K 0) ++ (wkL T ad x_K L18 ++ Z)) k) args s (ex1 k) (ex6 k) A := ⟨_, rfl⟩
  rw [← hQ]
  change W p l e (rmx 6 k) s m args below meth c s.heap [] 0 0 Q (F0 m 0 ls [])
  rw [f_X10_sentenceAt] at h
  suffices hm : ∀ (H : Heap) (locs : List Loc), Wd D A s.heap (oc_X10 T (ad 0) (bb ad) (x_K 0) ++ (wkL T ad x_K L18 ++ Z)) H locs → W p l e (rmx 6 k) s m args below meth c H locs 0 0 Q (F0 m 0 ls []) from hm _ _ hW
  intro H locs hW
  refine lv_iload_n hx hb dX10_sentenceAt_0 rfl (lv_at hl 1 rfl) ?_
  refine lv_if_lt (tgt := 13) hx hb dX10_sentenceAt_1 (by decide) (fun c1 => ?_) (fun c1 => ?_)
  · replace h := ite_t c1 h
    obtain ⟨e90, e91⟩ := ret2 h
    subst k
    subst r
    rw [hQ]
    exact xtw_177_181 hx hb hfl hown hts hE hW hml hl.1 hout hlk (List.mem_of_getElem? (i := 23) rfl) dX10_sentenceAt_13 dX10_sentenceAt_16 dX10_sentenceAt_17 dX10_sentenceAt_20 dX10_sentenceAt_23 (by decide) (Nat.le_of_ble_eq_true rfl)
  · replace h := ite_f c1 h
    refine lv_iload_n hx hb dX10_sentenceAt_4 rfl (lv_at hl 1 rfl) ?_
    refine lv_aload_n hx hb dX10_sentenceAt_5 rfl (lv_at hl 0 rfl) ?_
    refine fg_X10_67 (v := .ref (ad 0 1)) hx hb hts hown hK hW 0 rfl rfl dX10_sentenceAt_6 ?_
    refine g_alen (v := 4) hx hb hK hW 1 2 rfl rfl rfl dX10_sentenceAt_9 ?_
    refine lv_icmp_lt (tgt := 24) hx hb dX10_sentenceAt_10 (by decide) (fun c2 => ?_) (fun c2 => ?_)
    · replace h := ite_t c2 h
      refine lv_aload_n hx hb dX10_sentenceAt_24 rfl (lv_at hl 0 rfl) ?_
      refine fg_X10_67 (v := .ref (ad 0 1)) hx hb hts hown hK hW 0 rfl rfl dX10_sentenceAt_25 ?_
      refine lv_iload_n hx hb dX10_sentenceAt_28 rfl (lv_at hl 1 rfl) ?_
      obtain ⟨g3, h⟩ := grd_s h
      have hs4 : p1.toNatClampNeg < 5 := Nat.lt_of_lt_of_le (gd_lt g3) (by decide)
      refine g_aldq (b := ad (9 + p1.toNatClampNeg) 0) hx hb hK hW 1 rfl g3 rfl dX10_sentenceAt_29 ?_
      obtain ⟨e90, e91⟩ := ret2 h
      subst k
      subst r
      rw [hQ]
      exact x_retr hx hb hr hlk hW dX10_sentenceAt_30
    · replace h := ite_f c2 h
      obtain ⟨e90, e91⟩ := ret2 h
      subst k
      subst r
      rw [hQ]
      exact xtw_177_181 hx hb hfl hown hts hE hW hml hl.1 hout hlk (List.mem_of_getElem? (i := 23) rfl) dX10_sentenceAt_13 dX10_sentenceAt_16 dX10_sentenceAt_17 dX10_sentenceAt_20 dX10_sentenceAt_23 (by decide) (Nat.le_of_ble_eq_true rfl)
set_option maxHeartbeats 4000000 in
set_option maxRecDepth 100000 in
theorem c_X10_append (l : Launch) (hfl : l.stackTraces = false) (D : va_G) (T : Nat → ClassId) (A : Nat → Prop) (ad : Nat → Nat → Nat) (hok : okad ad) (Z : va_W) (x_K : Nat → Ob) (p1 : Int32) (p2 : Int32)  (k : Nat) (r : Int32) (x_K9 : Nat → Ob) (h : f_X10_append x_K p1 p2 = some (k, r, x_K9)) : vx_Met l yX10_append (Cond.code yX10_append cX10_append 4 (some .int) :: wsL_law) (rmx 7 k) (Px D T A (oc_X10 T (ad 0) (bb ad) (x_K 0) ++ (wkL T ad x_K L18 ++ Z)) [.ref (ad 0 0), .int p1, .int p2]) (Qxi D A (oc_X10 T (ad 0) (bb ad) (x_K9 0) ++ (wkL T ad x_K9 L18 ++ Z)) k r) (XCx D A (oc_X10 T (ad 0) (bb ad) (x_K9 0) ++ (wkL T ad x_K9 L18 ++ Z)) k) (ex1 k) (ex6 k) A := by
  refine vx_ofW (cc := cX10_append) (maxL := 4) (ret := (some .int)) (by decide +kernel) rfl ?_
  intro p e s m args below meth c s₁ B hml hout hv
  obtain ⟨ha, hP, hK, hD, hN, hE⟩ := hv
  have hx := B.exec
  have hb := B.bytes
  have hr := B.returns
  have hlk := B.notSynchronized
  have hts : ∀ w ∈ wsL_law, w.before args s = true := fun w hw => atoms_spec B.pre w (List.mem_cons_of_mem _ hw)
  have hown : s.vm.findClass RX10 = some m.cls := findClass_of_methodNamed B.named
  obtain ⟨hk0, hk1, hk2, hk3, hk4, hk5, hk6, hk7, hk9, hk10⟩ := id hok
  have hW : Wd D A s.heap (oc_X10 T (ad 0) (bb ad) (x_K 0) ++ (wkL T ad x_K L18 ++ Z)) s.heap [] := ⟨hP, hD, va_S.rf⟩
  have hl := lv_entry [.ref (ad 0 0), .int p1, .int p2] (n := 4) (Nat.le_of_ble_eq_true rfl)
  refine W.eq (en_eq ha) ?_
  generalize (lg_sl [.ref (ad 0 0), .int p1, .int p2] ++ List.replicate (4 - (lg_sl [.ref (ad 0 0), .int p1, .int p2]).length) Slot.unset).toArray = ls at hl ⊢
  have hl : lv_has ls 4 [(0, .ref (ad 0 0)), (1, .int p1), (2, .int p2)] := hl
  clear hP hD B ha
  obtain ⟨Q, hQ⟩ : ∃ Q, Q = vx_MQ below (Qxi D A (oc_X10 T (ad 0) (bb ad) (x_K9 0) ++ (wkL T ad x_K9 L18 ++ Z)) k r) (XCx D A (oc_X10 T (ad 0) (bb ad) (x_K9 0) ++ (wkL T ad x_K9 L18 ++ Z)) k) args s (ex1 k) (ex6 k) A := ⟨_, rfl⟩
  rw [← hQ]
  change W p l e (rmx 7 k) s m args below meth c s.heap [] 0 0 Q (F0 m 0 ls [])
  rw [f_X10_append] at h
  suffices hm : ∀ (H : Heap) (locs : List Loc), Wd D A s.heap (oc_X10 T (ad 0) (bb ad) (x_K 0) ++ (wkL T ad x_K L18 ++ Z)) H locs → W p l e (rmx 7 k) s m args below meth c H locs 0 0 Q (F0 m 0 ls []) from hm _ _ hW
  intro H locs hW
  refine lv_aload_n hx hb dX10_append_0 rfl (lv_at hl 0 rfl) ?_
  refine lv_iload_n hx hb dX10_append_1 rfl (lv_at hl 1 rfl) ?_
  obtain ⟨k1, r2, qq3, h⟩ := bnd2_s h
  by_cases hk : k1 = 0
  case neg =>
    replace h := ite_f hk h
    obtain ⟨e90, e91, e92⟩ := ret3 h
    subst k
    subst x_K9
    rw [hQ]
    exact xcx_X10_198 hk hout hlk (List.Perm.refl _) hx hb hml hown hts hK hN hE hW (c_X10_sentenceAt l hfl D T A ad hok Z x_K p1 k1 r2 qq3) ⟨Nat.le_of_ble_eq_true rfl, Nat.le_of_ble_eq_true rfl⟩ rfl hl.1 rfl (Nat.le_of_ble_eq_true rfl) dX10_append_2
  replace h := ite_t hk h
  subst hk
  refine xc0_X10_198 hx hb hml hown hts hK hN hE hW (c_X10_sentenceAt l hfl D T A ad hok Z x_K p1 0 r2 qq3) ⟨Nat.le_of_ble_eq_true rfl, Nat.le_of_ble_eq_true rfl⟩ rfl hl.1 rfl (Nat.le_of_ble_eq_true rfl) dX10_append_2 ⟨Nat.zero_le _, Nat.zero_le _⟩ (fun H locs hW => ?_)
  obtain ⟨g4, h⟩ := grd_s h
  have h4hs5 : r2 < 4 := of_decide_eq_true g4
  have hs5 : r2 < 5 := by omega
  refine lv_astore_n (lv' := [(3, .ref (ad (9 + r2) 0)), (0, .ref (ad 0 0)), (1, .int p1), (2, .int p2)]) hx hb dX10_append_5 rfl hl (by decide) rfl (fun ls hl => ?_)
  refine lv_aload_n hx hb dX10_append_6 rfl (lv_at hl 1 rfl) ?_
  refine lv_iload_n hx hb dX10_append_7 rfl (lv_at hl 3 rfl) ?_
  obtain ⟨k6, qq7, h⟩ := bnd1_s h
  by_cases hk : k6 = 0
  case neg =>
    replace h := ite_f hk h
    obtain ⟨e90, e91, e92⟩ := ret3 h
    subst k
    subst x_K9
    rw [hQ]
    exact xcx_X10_111 hk hout hlk (List.Perm.refl _) hx hb hml hown hts hK hN hE hW (c_X10_requireWord l hfl D T A ad hok Z x_K p2 k6 qq7) ⟨Nat.le_of_ble_eq_true rfl, Nat.le_of_ble_eq_true rfl⟩ rfl hl.1 rfl (Nat.le_of_ble_eq_true rfl) dX10_append_8
  replace h := ite_t hk h
  subst hk
  refine xc0_X10_111 hx hb hml hown hts hK hN hE hW (c_X10_requireWord l hfl D T A ad hok Z x_K p2 0 qq7) ⟨Nat.le_of_ble_eq_true rfl, Nat.le_of_ble_eq_true rfl⟩ rfl hl.1 rfl (Nat.le_of_ble_eq_true rfl) dX10_append_8 ⟨Nat.zero_le _, Nat.zero_le _⟩ (fun H locs hW => ?_)
  refine lv_aload_n hx hb dX10_append_11 rfl (lv_at hl 0 rfl) ?_
  obtain ⟨r8, qq9, h⟩ := bnd1_s h
  replace hW := hW.perm (fo1 (k1 := (9 + r2)) (mS hs5) (cS hs5))
  refine cl_X10_202 hx hb hml hown hts hK hN hW (c_X6_isFull l D T A (ad (9 + r2)) (oc_X10 T (ad 0) (bb ad) (x_K 0) ++ (wkL T ad x_K (L18.erase (9 + r2)) ++ Z)) (x_K (9 + r2)) r8 qq9) ⟨Nat.le_of_ble_eq_true rfl, Nat.le_of_ble_eq_true rfl⟩ hl.1 rfl (Nat.le_of_ble_eq_true rfl) dX10_append_12 ⟨Nat.zero_le _, Nat.zero_le _⟩ rfl (fun H locs hW => ?_)
  replace hW := hW.perm (fo1 (k1 := (9 + r2)) (mS hs5) (cS hs5)).symm
  refine lv_if_eq (tgt := 28) hx hb dX10_append_15 (by decide) (fun c10 => ?_) (fun c10 => ?_)
  · replace h := ite_t c10 h
    refine lv_aload_n hx hb dX10_append_28 rfl (lv_at hl 0 rfl) ?_
    refine lv_iload_n hx hb dX10_append_29 rfl (lv_at hl 3 rfl) ?_
    obtain ⟨y_o11, qq12, h⟩ := bnd1_s h
    replace hW := hW.perm (fo1 (k1 := (9 + r2)) (mS hs5) (cS hs5))
    refine cl_X10_205 hx hb hml hown hts hK hN hW (c_X6_addWord l D T A (ad (9 + r2)) (oc_X10 T (ad 0) (bb ad) (x_K 0) ++ (wkL T ad x_K (L18.erase (9 + r2)) ++ Z)) (x_K (9 + r2)) p2 y_o11 qq12) ⟨Nat.le_of_ble_eq_true rfl, Nat.le_of_ble_eq_true rfl⟩ hl.1 rfl (Nat.le_of_ble_eq_true rfl) dX10_append_30 ⟨Nat.zero_le _, Nat.zero_le _⟩ rfl (fun H locs hW => ?_)
    obtain ⟨z_K13, ez_K13⟩ : ∃ y : Nat → Ob, y = va_up x_K (9 + r2) y_o11 := ⟨_, rfl⟩
    replace h := lb_at ez_K13 h
    replace hW := hW.perm (ba1 (K' := z_K13) (k1 := (9 + r2)) (mS hs5) (by rw [ez_K13, va_up_ne _ _ (by omega)]) (fun k9 _ n0 => by rw [ez_K13, va_up_ne _ _ n0]) (by rw [ez_K13, va_up_self]; exact (cS hs5)))
    refine lv_aload_n hx hb dX10_append_33 rfl (lv_at hl 0 rfl) ?_
    obtain ⟨y_o14, qq15, h⟩ := bnd1_s h
    replace hW := hW.perm (fo1 (k1 := (9 + r2)) (mS hs5) (cS hs5))
    refine cl_X10_207 hx hb hml hown hts hK hN hW (c_X6_outdate l D T A (ad (9 + r2)) (oc_X10 T (ad 0) (bb ad) (z_K13 0) ++ (wkL T ad z_K13 (L18.erase (9 + r2)) ++ Z)) (z_K13 (9 + r2)) y_o14 qq15) ⟨Nat.le_of_ble_eq_true rfl, Nat.le_of_ble_eq_true rfl⟩ hl.1 rfl (Nat.le_of_ble_eq_true rfl) dX10_append_34 ⟨Nat.zero_le _, Nat.zero_le _⟩ rfl (fun H locs hW => ?_)
    obtain ⟨z_K16, ez_K16⟩ : ∃ y : Nat → Ob, y = va_up z_K13 (9 + r2) y_o14 := ⟨_, rfl⟩
    replace h := lb_at ez_K16 h
    replace hW := hW.perm (ba1 (K' := z_K16) (k1 := (9 + r2)) (mS hs5) (by rw [ez_K16, va_up_ne _ _ (by omega)]) (fun k9 _ n0 => by rw [ez_K16, va_up_ne _ _ n0]) (by rw [ez_K16, va_up_self]; exact (cS hs5)))
    refine lv_aload_n hx hb dX10_append_37 rfl (lv_at hl 0 rfl) ?_
    refine fg_X10_210 (v := .int (z_K16 (9 + r2) 0 0)) hx hb hts hN hown hK (hW.perm (fo1 (k1 := (9 + r2)) (mS hs5) (cS hs5))) 0 rfl rfl dX10_append_38 ?_
    obtain ⟨e90, e91, e92⟩ := ret3 h
    subst k
    subst r
    subst x_K9
    rw [hQ]
    exact x_reti hx hb hr hlk hW dX10_append_41
  · replace h := ite_f c10 h
    obtain ⟨e90, e91, e92⟩ := ret3 h
    subst k
    subst r
    subst x_K9
    rw [hQ]
    exact xt_102_106 hx hb hfl hown hts hE hW hml hl.1 hout hlk (List.mem_of_getElem? (i := 16) rfl) dX10_append_18 dX10_append_21 dX10_append_22 dX10_append_24 dX10_append_27 (by decide) (Nat.le_of_ble_eq_true rfl)
set_option maxHeartbeats 4000000 in
set_option maxRecDepth 100000 in
theorem c_X10_requirePlace (l : Launch) (hfl : l.stackTraces = false) (D : va_G) (T : Nat → ClassId) (A : Nat → Prop) (ad : Nat → Nat → Nat) (hok : okad ad) (Z : va_W) (x_K : Nat → Ob) (q1 : Nat) (p2 : Int32) (hq1 : q1 < 5) (k : Nat) (h : f_X10_requirePlace x_K q1 p2 = some k) : vx_Met l yX10_requirePlace (Cond.code yX10_requirePlace cX10_requirePlace 2 none :: wsL_law) (rmx 6 k) (Px D T A (oc_X10 T (ad 0) (bb ad) (x_K 0) ++ (wkL T ad x_K L18 ++ Z)) [.ref (ad (9 + q1) 0), .int p2]) (Qxv D A (oc_X10 T (ad 0) (bb ad) (x_K 0) ++ (wkL T ad x_K L18 ++ Z)) k) (XCx D A (oc_X10 T (ad 0) (bb ad) (x_K 0) ++ (wkL T ad x_K L18 ++ Z)) k) (ex1 k) (ex6 k) A := by
  refine vx_ofW (cc := cX10_requirePlace) (maxL := 2) (ret := none) (by decide +kernel) rfl ?_
  intro p e s m args below meth c s₁ B hml hout hv
  obtain ⟨ha, hP, hK, hD, hN, hE⟩ := hv
  have hx := B.exec
  have hb := B.bytes
  have hr := B.returns
  have hlk := B.notSynchronized
  have hts : ∀ w ∈ wsL_law, w.before args s = true := fun w hw => atoms_spec B.pre w (List.mem_cons_of_mem _ hw)
  have hown : s.vm.findClass RX10 = some m.cls := findClass_of_methodNamed B.named
  obtain ⟨hk0, hk1, hk2, hk3, hk4, hk5, hk6, hk7, hk9, hk10⟩ := id hok
  have hW : Wd D A s.heap (oc_X10 T (ad 0) (bb ad) (x_K 0) ++ (wkL T ad x_K L18 ++ Z)) s.heap [] := ⟨hP, hD, va_S.rf⟩
  have hl := lv_entry [.ref (ad (9 + q1) 0), .int p2] (n := 2) (Nat.le_of_ble_eq_true rfl)
  refine W.eq (en_eq ha) ?_
  generalize (lg_sl [.ref (ad (9 + q1) 0), .int p2] ++ List.replicate (2 - (lg_sl [.ref (ad (9 + q1) 0), .int p2]).length) Slot.unset).toArray = ls at hl ⊢
  have hl : lv_has ls 2 [(0, .ref (ad (9 + q1) 0)), (1, .int p2)] := hl
  clear hP hD B ha
  obtain ⟨Q, hQ⟩ : ∃ Q, Q = vx_MQ below (Qxv D A (oc_X10 T (ad 0) (bb ad) (x_K 0) ++ (wkL T ad x_K L18 ++ Z)) k) (XCx D A (oc_X10 T (ad 0) (bb ad) (x_K 0) ++ (wkL T ad x_K L18 ++ Z)) k) args s (ex1 k) (ex6 k) A := ⟨_, rfl⟩
  rw [← hQ]
  change W p l e (rmx 6 k) s m args below meth c s.heap [] 0 0 Q (F0 m 0 ls [])
  rw [f_X10_requirePlace] at h
  suffices hm : ∀ (H : Heap) (locs : List Loc), Wd D A s.heap (oc_X10 T (ad 0) (bb ad) (x_K 0) ++ (wkL T ad x_K L18 ++ Z)) H locs → W p l e (rmx 6 k) s m args below meth c H locs 0 0 Q (F0 m 0 ls []) from hm _ _ hW
  intro H locs hW
  refine lv_iload_n hx hb dX10_requirePlace_0 rfl (lv_at hl 1 rfl) ?_
  refine lv_aload_n hx hb dX10_requirePlace_1 rfl (lv_at hl 0 rfl) ?_
  refine fg_X10_210 (v := .int (x_K (9 + q1) 0 0)) hx hb hts hN hown hK (hW.perm (fo1 (k1 := (9 + q1)) (mS hq1) (cS hq1))) 0 rfl rfl dX10_requirePlace_2 ?_
  obtain ⟨r1, qq2, h⟩ := bnd1_s h
  refine cl_X10_87 hx hb hml hown hts hK hN hW (c_X10_isBelow l D T A (oc_X10 T (ad 0) (bb ad) (x_K 0) ++ (wkL T ad x_K L18 ++ Z)) p2 (x_K (9 + q1) 0 0) r1 qq2) ⟨Nat.le_of_ble_eq_true rfl, Nat.le_of_ble_eq_true rfl⟩ hl.1 rfl (Nat.le_of_ble_eq_true rfl) dX10_requirePlace_5 ⟨Nat.zero_le _, Nat.zero_le _⟩ rfl (fun H locs hW => ?_)
  refine lv_if_ne (tgt := 22) hx hb dX10_requirePlace_8 (by decide) (fun c3 => ?_) (fun c3 => ?_)
  · replace h := ite_f c3 h
    have e90 := ret1 h
    subst k
    rw [hQ]
    exact x_retv hx hb hr hlk hW dX10_requirePlace_22
  · replace h := ite_t c3 h
    have e90 := ret1 h
    subst k
    rw [hQ]
    exact xtw_177_181 hx hb hfl hown hts hE hW hml hl.1 hout hlk (List.mem_of_getElem? (i := 24) rfl) dX10_requirePlace_11 dX10_requirePlace_14 dX10_requirePlace_15 dX10_requirePlace_18 dX10_requirePlace_21 (by decide) (Nat.le_of_ble_eq_true rfl)
set_option maxHeartbeats 4000000 in
set_option maxRecDepth 100000 in
theorem c_X10_change (l : Launch) (hfl : l.stackTraces = false) (D : va_G) (T : Nat → ClassId) (A : Nat → Prop) (ad : Nat → Nat → Nat) (hok : okad ad) (Z : va_W) (x_K : Nat → Ob) (p1 : Int32) (p2 : Int32) (p3 : Int32)  (k : Nat) (r : Int32) (x_K9 : Nat → Ob) (h : f_X10_change x_K p1 p2 p3 = some (k, r, x_K9)) : vx_Met l yX10_change (Cond.code yX10_change cX10_change 6 (some .int) :: wsL_law) (rmx 7 k) (Px D T A (oc_X10 T (ad 0) (bb ad) (x_K 0) ++ (wkL T ad x_K L18 ++ Z)) [.ref (ad 0 0), .int p1, .int p2, .int p3]) (Qxi D A (oc_X10 T (ad 0) (bb ad) (x_K9 0) ++ (wkL T ad x_K9 L18 ++ Z)) k r) (XCx D A (oc_X10 T (ad 0) (bb ad) (x_K9 0) ++ (wkL T ad x_K9 L18 ++ Z)) k) (ex1 k) (ex6 k) A := by
  refine vx_ofW (cc := cX10_change) (maxL := 6) (ret := (some .int)) (by decide +kernel) rfl ?_
  intro p e s m args below meth c s₁ B hml hout hv
  obtain ⟨ha, hP, hK, hD, hN, hE⟩ := hv
  have hx := B.exec
  have hb := B.bytes
  have hr := B.returns
  have hlk := B.notSynchronized
  have hts : ∀ w ∈ wsL_law, w.before args s = true := fun w hw => atoms_spec B.pre w (List.mem_cons_of_mem _ hw)
  have hown : s.vm.findClass RX10 = some m.cls := findClass_of_methodNamed B.named
  obtain ⟨hk0, hk1, hk2, hk3, hk4, hk5, hk6, hk7, hk9, hk10⟩ := id hok
  have hW : Wd D A s.heap (oc_X10 T (ad 0) (bb ad) (x_K 0) ++ (wkL T ad x_K L18 ++ Z)) s.heap [] := ⟨hP, hD, va_S.rf⟩
  have hl := lv_entry [.ref (ad 0 0), .int p1, .int p2, .int p3] (n := 6) (Nat.le_of_ble_eq_true rfl)
  refine W.eq (en_eq ha) ?_
  generalize (lg_sl [.ref (ad 0 0), .int p1, .int p2, .int p3] ++ List.replicate (6 - (lg_sl [.ref (ad 0 0), .int p1, .int p2, .int p3]).length) Slot.unset).toArray = ls at hl ⊢
  have hl : lv_has ls 6 [(0, .ref (ad 0 0)), (1, .int p1), (2, .int p2), (3, .int p3)] := hl
  clear hP hD B ha
  obtain ⟨Q, hQ⟩ : ∃ Q, Q = vx_MQ below (Qxi D A (oc_X10 T (ad 0) (bb ad) (x_K9 0) ++ (wkL T ad x_K9 L18 ++ Z)) k r) (XCx D A (oc_X10 T (ad 0) (bb ad) (x_K9 0) ++ (wkL T ad x_K9 L18 ++ Z)) k) args s (ex1 k) (ex6 k) A := ⟨_, rfl⟩
  rw [← hQ]
  change W p l e (rmx 7 k) s m args below meth c s.heap [] 0 0 Q (F0 m 0 ls [])
  rw [f_X10_change] at h
  suffices hm : ∀ (H : Heap) (locs : List Loc), Wd D A s.heap (oc_X10 T (ad 0) (bb ad) (x_K 0) ++ (wkL T ad x_K L18 ++ Z)) H locs → W p l e (rmx 7 k) s m args below meth c H locs 0 0 Q (F0 m 0 ls []) from hm _ _ hW
  intro H locs hW
  refine lv_aload_n hx hb dX10_change_0 rfl (lv_at hl 0 rfl) ?_
  refine lv_iload_n hx hb dX10_change_1 rfl (lv_at hl 1 rfl) ?_
  obtain ⟨k1, r2, qq3, h⟩ := bnd2_s h
  by_cases hk : k1 = 0
  case neg =>
    replace h := ite_f hk h
    obtain ⟨e90, e91, e92⟩ := ret3 h
    subst k
    subst x_K9
    rw [hQ]
    exact xcx_X10_198 hk hout hlk (List.Perm.refl _) hx hb hml hown hts hK hN hE hW (c_X10_sentenceAt l hfl D T A ad hok Z x_K p1 k1 r2 qq3) ⟨Nat.le_of_ble_eq_true rfl, Nat.le_of_ble_eq_true rfl⟩ rfl hl.1 rfl (Nat.le_of_ble_eq_true rfl) dX10_change_2
  replace h := ite_t hk h
  subst hk
  refine xc0_X10_198 hx hb hml hown hts hK hN hE hW (c_X10_sentenceAt l hfl D T A ad hok Z x_K p1 0 r2 qq3) ⟨Nat.le_of_ble_eq_true rfl, Nat.le_of_ble_eq_true rfl⟩ rfl hl.1 rfl (Nat.le_of_ble_eq_true rfl) dX10_change_2 ⟨Nat.zero_le _, Nat.zero_le _⟩ (fun H locs hW => ?_)
  obtain ⟨g4, h⟩ := grd_s h
  have h4hs5 : r2 < 4 := of_decide_eq_true g4
  have hs5 : r2 < 5 := by omega
  refine lv_astore (lv' := [(4, .ref (ad (9 + r2) 0)), (0, .ref (ad 0 0)), (1, .int p1), (2, .int p2), (3, .int p3)]) hx hb dX10_change_5 hl (by decide) rfl (fun ls hl => ?_)
  refine lv_aload hx hb dX10_change_7 (lv_at hl 0 rfl) ?_
  refine lv_iload_n hx hb dX10_change_9 rfl (lv_at hl 3 rfl) ?_
  obtain ⟨k6, qq7, h⟩ := bnd1_s h
  by_cases hk : k6 = 0
  case neg =>
    replace h := ite_f hk h
    obtain ⟨e90, e91, e92⟩ := ret3 h
    subst k
    subst x_K9
    rw [hQ]
    exact xcx_X10_213 hk hout hlk (List.Perm.refl _) hx hb hml hown hts hK hN hE hW (c_X10_requirePlace l hfl D T A ad hok Z x_K r2 p2 hs5 k6 qq7) ⟨Nat.le_of_ble_eq_true rfl, Nat.le_of_ble_eq_true rfl⟩ rfl hl.1 rfl (Nat.le_of_ble_eq_true rfl) dX10_change_10
  replace h := ite_t hk h
  subst hk
  refine xc0_X10_213 hx hb hml hown hts hK hN hE hW (c_X10_requirePlace l hfl D T A ad hok Z x_K r2 p2 hs5 0 qq7) ⟨Nat.le_of_ble_eq_true rfl, Nat.le_of_ble_eq_true rfl⟩ rfl hl.1 rfl (Nat.le_of_ble_eq_true rfl) dX10_change_10 ⟨Nat.zero_le _, Nat.zero_le _⟩ (fun H locs hW => ?_)
  refine lv_aload_n hx hb dX10_change_13 rfl (lv_at hl 1 rfl) ?_
  refine lv_iload_n hx hb dX10_change_14 rfl (lv_at hl 4 rfl) ?_
  obtain ⟨k8, qq9, h⟩ := bnd1_s h
  by_cases hk : k8 = 0
  case neg =>
    replace h := ite_f hk h
    obtain ⟨e90, e91, e92⟩ := ret3 h
    subst k
    subst x_K9
    rw [hQ]
    exact xcx_X10_111 hk hout hlk (List.Perm.refl _) hx hb hml hown hts hK hN hE hW (c_X10_requireWord l hfl D T A ad hok Z x_K p3 k8 qq9) ⟨Nat.le_of_ble_eq_true rfl, Nat.le_of_ble_eq_true rfl⟩ rfl hl.1 rfl (Nat.le_of_ble_eq_true rfl) dX10_change_15
  replace h := ite_t hk h
  subst hk
  refine xc0_X10_111 hx hb hml hown hts hK hN hE hW (c_X10_requireWord l hfl D T A ad hok Z x_K p3 0 qq9) ⟨Nat.le_of_ble_eq_true rfl, Nat.le_of_ble_eq_true rfl⟩ rfl hl.1 rfl (Nat.le_of_ble_eq_true rfl) dX10_change_15 ⟨Nat.zero_le _, Nat.zero_le _⟩ (fun H locs hW => ?_)
  refine lv_aload hx hb dX10_change_18 (lv_at hl 0 rfl) ?_
  refine lv_iload_n hx hb dX10_change_20 rfl (lv_at hl 3 rfl) ?_
  obtain ⟨r10, qq11, h⟩ := bnd1_s h
  replace hW := hW.perm (fo1 (k1 := (9 + r2)) (mS hs5) (cS hs5))
  refine cl_X10_217 hx hb hml hown hts hK hN hW (c_X6_wordIn l D T A (ad (9 + r2)) (oc_X10 T (ad 0) (bb ad) (x_K 0) ++ (wkL T ad x_K (L18.erase (9 + r2)) ++ Z)) (x_K (9 + r2)) p2 r10 qq11) ⟨Nat.le_of_ble_eq_true rfl, Nat.le_of_ble_eq_true rfl⟩ hl.1 rfl (Nat.le_of_ble_eq_true rfl) dX10_change_21 ⟨Nat.zero_le _, Nat.zero_le _⟩ rfl (fun H locs hW => ?_)
  replace hW := hW.perm (fo1 (k1 := (9 + r2)) (mS hs5) (cS hs5)).symm
  refine lv_istore (lv' := [(5, .int r10), (4, .ref (ad (9 + r2) 0)), (0, .ref (ad 0 0)), (1, .int p1), (2, .int p2), (3, .int p3)]) hx hb dX10_change_24 hl (by decide) rfl (fun ls hl => ?_)
  refine lv_iload hx hb dX10_change_26 (lv_at hl 0 rfl) ?_
  refine lv_iload_n hx hb dX10_change_28 rfl (lv_at hl 5 rfl) ?_
  refine lv_icmp_eq (tgt := 44) hx hb dX10_change_29 (by decide) (fun c12 => ?_) (fun c12 => ?_)
  · replace h := ite_t c12 h
    refine lv_iload hx hb dX10_change_44 (lv_at hl 0 rfl) ?_
    obtain ⟨e90, e91, e92⟩ := ret3 h
    subst k
    subst r
    subst x_K9
    rw [hQ]
    exact x_reti hx hb hr hlk hW dX10_change_46
  · replace h := ite_f c12 h
    refine lv_aload hx hb dX10_change_32 (lv_at hl 1 rfl) ?_
    refine lv_iload_n hx hb dX10_change_34 rfl (lv_at hl 4 rfl) ?_
    refine lv_iload_n hx hb dX10_change_35 rfl (lv_at hl 5 rfl) ?_
    obtain ⟨y_o13, qq14, h⟩ := bnd1_s h
    replace hW := hW.perm (fo1 (k1 := (9 + r2)) (mS hs5) (cS hs5))
    refine cl_X10_220 hx hb hml hown hts hK hN hW (c_X6_putWord l D T A (ad (9 + r2)) (oc_X10 T (ad 0) (bb ad) (x_K 0) ++ (wkL T ad x_K (L18.erase (9 + r2)) ++ Z)) (x_K (9 + r2)) p2 p3 y_o13 qq14) ⟨Nat.le_of_ble_eq_true rfl, Nat.le_of_ble_eq_true rfl⟩ hl.1 rfl (Nat.le_of_ble_eq_true rfl) dX10_change_36 ⟨Nat.zero_le _, Nat.zero_le _⟩ rfl (fun H locs hW => ?_)
    obtain ⟨z_K15, ez_K15⟩ : ∃ y : Nat → Ob, y = va_up x_K (9 + r2) y_o13 := ⟨_, rfl⟩
    replace h := lb_at ez_K15 h
    replace hW := hW.perm (ba1 (K' := z_K15) (k1 := (9 + r2)) (mS hs5) (by rw [ez_K15, va_up_ne _ _ (by omega)]) (fun k9 _ n0 => by rw [ez_K15, va_up_ne _ _ n0]) (by rw [ez_K15, va_up_self]; exact (cS hs5)))
    refine lv_aload hx hb dX10_change_39 (lv_at hl 1 rfl) ?_
    obtain ⟨y_o16, qq17, h⟩ := bnd1_s h
    replace hW := hW.perm (fo1 (k1 := (9 + r2)) (mS hs5) (cS hs5))
    refine cl_X10_207 hx hb hml hown hts hK hN hW (c_X6_outdate l D T A (ad (9 + r2)) (oc_X10 T (ad 0) (bb ad) (z_K15 0) ++ (wkL T ad z_K15 (L18.erase (9 + r2)) ++ Z)) (z_K15 (9 + r2)) y_o16 qq17) ⟨Nat.le_of_ble_eq_true rfl, Nat.le_of_ble_eq_true rfl⟩ hl.1 rfl (Nat.le_of_ble_eq_true rfl) dX10_change_41 ⟨Nat.zero_le _, Nat.zero_le _⟩ rfl (fun H locs hW => ?_)
    obtain ⟨z_K18, ez_K18⟩ : ∃ y : Nat → Ob, y = va_up z_K15 (9 + r2) y_o16 := ⟨_, rfl⟩
    replace h := lb_at ez_K18 h
    replace hW := hW.perm (ba1 (K' := z_K18) (k1 := (9 + r2)) (mS hs5) (by rw [ez_K18, va_up_ne _ _ (by omega)]) (fun k9 _ n0 => by rw [ez_K18, va_up_ne _ _ n0]) (by rw [ez_K18, va_up_self]; exact (cS hs5)))
    refine lv_iload hx hb dX10_change_44 (lv_at hl 0 rfl) ?_
    obtain ⟨e90, e91, e92⟩ := ret3 h
    subst k
    subst r
    subst x_K9
    rw [hQ]
    exact x_reti hx hb hr hlk hW dX10_change_46
set_option maxHeartbeats 4000000 in
set_option maxRecDepth 100000 in
theorem c_X10_remove (l : Launch) (hfl : l.stackTraces = false) (D : va_G) (T : Nat → ClassId) (A : Nat → Prop) (ad : Nat → Nat → Nat) (hok : okad ad) (Z : va_W) (x_K : Nat → Ob) (p1 : Int32) (p2 : Int32)  (k : Nat) (r : Int32) (x_K9 : Nat → Ob) (h : f_X10_remove x_K p1 p2 = some (k, r, x_K9)) : vx_Met l yX10_remove (Cond.code yX10_remove cX10_remove 5 (some .int) :: wsL_law) (rmx 7 k) (Px D T A (oc_X10 T (ad 0) (bb ad) (x_K 0) ++ (wkL T ad x_K L18 ++ Z)) [.ref (ad 0 0), .int p1, .int p2]) (Qxi D A (oc_X10 T (ad 0) (bb ad) (x_K9 0) ++ (wkL T ad x_K9 L18 ++ Z)) k r) (XCx D A (oc_X10 T (ad 0) (bb ad) (x_K9 0) ++ (wkL T ad x_K9 L18 ++ Z)) k) (ex1 k) (ex6 k) A := by
  refine vx_ofW (cc := cX10_remove) (maxL := 5) (ret := (some .int)) (by decide +kernel) rfl ?_
  intro p e s m args below meth c s₁ B hml hout hv
  obtain ⟨ha, hP, hK, hD, hN, hE⟩ := hv
  have hx := B.exec
  have hb := B.bytes
  have hr := B.returns
  have hlk := B.notSynchronized
  have hts : ∀ w ∈ wsL_law, w.before args s = true := fun w hw => atoms_spec B.pre w (List.mem_cons_of_mem _ hw)
  have hown : s.vm.findClass RX10 = some m.cls := findClass_of_methodNamed B.named
  obtain ⟨hk0, hk1, hk2, hk3, hk4, hk5, hk6, hk7, hk9, hk10⟩ := id hok
  have hW : Wd D A s.heap (oc_X10 T (ad 0) (bb ad) (x_K 0) ++ (wkL T ad x_K L18 ++ Z)) s.heap [] := ⟨hP, hD, va_S.rf⟩
  have hl := lv_entry [.ref (ad 0 0), .int p1, .int p2] (n := 5) (Nat.le_of_ble_eq_true rfl)
  refine W.eq (en_eq ha) ?_
  generalize (lg_sl [.ref (ad 0 0), .int p1, .int p2] ++ List.replicate (5 - (lg_sl [.ref (ad 0 0), .int p1, .int p2]).length) Slot.unset).toArray = ls at hl ⊢
  have hl : lv_has ls 5 [(0, .ref (ad 0 0)), (1, .int p1), (2, .int p2)] := hl
  clear hP hD B ha
  obtain ⟨Q, hQ⟩ : ∃ Q, Q = vx_MQ below (Qxi D A (oc_X10 T (ad 0) (bb ad) (x_K9 0) ++ (wkL T ad x_K9 L18 ++ Z)) k r) (XCx D A (oc_X10 T (ad 0) (bb ad) (x_K9 0) ++ (wkL T ad x_K9 L18 ++ Z)) k) args s (ex1 k) (ex6 k) A := ⟨_, rfl⟩
  rw [← hQ]
  change W p l e (rmx 7 k) s m args below meth c s.heap [] 0 0 Q (F0 m 0 ls [])
  rw [f_X10_remove] at h
  suffices hm : ∀ (H : Heap) (locs : List Loc), Wd D A s.heap (oc_X10 T (ad 0) (bb ad) (x_K 0) ++ (wkL T ad x_K L18 ++ Z)) H locs → W p l e (rmx 7 k) s m args below meth c H locs 0 0 Q (F0 m 0 ls []) from hm _ _ hW
  intro H locs hW
  refine lv_aload_n hx hb dX10_remove_0 rfl (lv_at hl 0 rfl) ?_
  refine lv_iload_n hx hb dX10_remove_1 rfl (lv_at hl 1 rfl) ?_
  obtain ⟨k1, r2, qq3, h⟩ := bnd2_s h
  by_cases hk : k1 = 0
  case neg =>
    replace h := ite_f hk h
    obtain ⟨e90, e91, e92⟩ := ret3 h
    subst k
    subst x_K9
    rw [hQ]
    exact xcx_X10_198 hk hout hlk (List.Perm.refl _) hx hb hml hown hts hK hN hE hW (c_X10_sentenceAt l hfl D T A ad hok Z x_K p1 k1 r2 qq3) ⟨Nat.le_of_ble_eq_true rfl, Nat.le_of_ble_eq_true rfl⟩ rfl hl.1 rfl (Nat.le_of_ble_eq_true rfl) dX10_remove_2
  replace h := ite_t hk h
  subst hk
  refine xc0_X10_198 hx hb hml hown hts hK hN hE hW (c_X10_sentenceAt l hfl D T A ad hok Z x_K p1 0 r2 qq3) ⟨Nat.le_of_ble_eq_true rfl, Nat.le_of_ble_eq_true rfl⟩ rfl hl.1 rfl (Nat.le_of_ble_eq_true rfl) dX10_remove_2 ⟨Nat.zero_le _, Nat.zero_le _⟩ (fun H locs hW => ?_)
  obtain ⟨g4, h⟩ := grd_s h
  have h4hs5 : r2 < 4 := of_decide_eq_true g4
  have hs5 : r2 < 5 := by omega
  refine lv_astore_n (lv' := [(3, .ref (ad (9 + r2) 0)), (0, .ref (ad 0 0)), (1, .int p1), (2, .int p2)]) hx hb dX10_remove_5 rfl hl (by decide) rfl (fun ls hl => ?_)
  refine lv_aload_n hx hb dX10_remove_6 rfl (lv_at hl 0 rfl) ?_
  refine lv_iload_n hx hb dX10_remove_7 rfl (lv_at hl 3 rfl) ?_
  obtain ⟨k6, qq7, h⟩ := bnd1_s h
  by_cases hk : k6 = 0
  case neg =>
    replace h := ite_f hk h
    obtain ⟨e90, e91, e92⟩ := ret3 h
    subst k
    subst x_K9
    rw [hQ]
    exact xcx_X10_213 hk hout hlk (List.Perm.refl _) hx hb hml hown hts hK hN hE hW (c_X10_requirePlace l hfl D T A ad hok Z x_K r2 p2 hs5 k6 qq7) ⟨Nat.le_of_ble_eq_true rfl, Nat.le_of_ble_eq_true rfl⟩ rfl hl.1 rfl (Nat.le_of_ble_eq_true rfl) dX10_remove_8
  replace h := ite_t hk h
  subst hk
  refine xc0_X10_213 hx hb hml hown hts hK hN hE hW (c_X10_requirePlace l hfl D T A ad hok Z x_K r2 p2 hs5 0 qq7) ⟨Nat.le_of_ble_eq_true rfl, Nat.le_of_ble_eq_true rfl⟩ rfl hl.1 rfl (Nat.le_of_ble_eq_true rfl) dX10_remove_8 ⟨Nat.zero_le _, Nat.zero_le _⟩ (fun H locs hW => ?_)
  refine lv_aload_n hx hb dX10_remove_11 rfl (lv_at hl 0 rfl) ?_
  refine lv_iload_n hx hb dX10_remove_12 rfl (lv_at hl 3 rfl) ?_
  obtain ⟨r8, qq9, h⟩ := bnd1_s h
  replace hW := hW.perm (fo1 (k1 := (9 + r2)) (mS hs5) (cS hs5))
  refine cl_X10_217 hx hb hml hown hts hK hN hW (c_X6_wordIn l D T A (ad (9 + r2)) (oc_X10 T (ad 0) (bb ad) (x_K 0) ++ (wkL T ad x_K (L18.erase (9 + r2)) ++ Z)) (x_K (9 + r2)) p2 r8 qq9) ⟨Nat.le_of_ble_eq_true rfl, Nat.le_of_ble_eq_true rfl⟩ hl.1 rfl (Nat.le_of_ble_eq_true rfl) dX10_remove_13 ⟨Nat.zero_le _, Nat.zero_le _⟩ rfl (fun H locs hW => ?_)
  replace hW := hW.perm (fo1 (k1 := (9 + r2)) (mS hs5) (cS hs5)).symm
  refine lv_istore (lv' := [(4, .int r8), (3, .ref (ad (9 + r2) 0)), (0, .ref (ad 0 0)), (1, .int p1), (2, .int p2)]) hx hb dX10_remove_16 hl (by decide) rfl (fun ls hl => ?_)
  refine lv_aload_n hx hb dX10_remove_18 rfl (lv_at hl 1 rfl) ?_
  refine lv_iload_n hx hb dX10_remove_19 rfl (lv_at hl 4 rfl) ?_
  obtain ⟨y_o10, qq11, h⟩ := bnd1_s h
  replace hW := hW.perm (fo1 (k1 := (9 + r2)) (mS hs5) (cS hs5))
  refine cl_X10_224 hx hb hml hown hts hK hN hW (c_X6_takeOut l D T A (ad (9 + r2)) (oc_X10 T (ad 0) (bb ad) (x_K 0) ++ (wkL T ad x_K (L18.erase (9 + r2)) ++ Z)) (x_K (9 + r2)) p2 y_o10 qq11) ⟨Nat.le_of_ble_eq_true rfl, Nat.le_of_ble_eq_true rfl⟩ hl.1 rfl (Nat.le_of_ble_eq_true rfl) dX10_remove_20 ⟨Nat.zero_le _, Nat.zero_le _⟩ rfl (fun H locs hW => ?_)
  obtain ⟨z_K12, ez_K12⟩ : ∃ y : Nat → Ob, y = va_up x_K (9 + r2) y_o10 := ⟨_, rfl⟩
  replace h := lb_at ez_K12 h
  replace hW := hW.perm (ba1 (K' := z_K12) (k1 := (9 + r2)) (mS hs5) (by rw [ez_K12, va_up_ne _ _ (by omega)]) (fun k9 _ n0 => by rw [ez_K12, va_up_ne _ _ n0]) (by rw [ez_K12, va_up_self]; exact (cS hs5)))
  refine lv_aload_n hx hb dX10_remove_23 rfl (lv_at hl 1 rfl) ?_
  obtain ⟨y_o13, qq14, h⟩ := bnd1_s h
  replace hW := hW.perm (fo1 (k1 := (9 + r2)) (mS hs5) (cS hs5))
  refine cl_X10_207 hx hb hml hown hts hK hN hW (c_X6_outdate l D T A (ad (9 + r2)) (oc_X10 T (ad 0) (bb ad) (z_K12 0) ++ (wkL T ad z_K12 (L18.erase (9 + r2)) ++ Z)) (z_K12 (9 + r2)) y_o13 qq14) ⟨Nat.le_of_ble_eq_true rfl, Nat.le_of_ble_eq_true rfl⟩ hl.1 rfl (Nat.le_of_ble_eq_true rfl) dX10_remove_24 ⟨Nat.zero_le _, Nat.zero_le _⟩ rfl (fun H locs hW => ?_)
  obtain ⟨z_K15, ez_K15⟩ : ∃ y : Nat → Ob, y = va_up z_K12 (9 + r2) y_o13 := ⟨_, rfl⟩
  replace h := lb_at ez_K15 h
  replace hW := hW.perm (ba1 (K' := z_K15) (k1 := (9 + r2)) (mS hs5) (by rw [ez_K15, va_up_ne _ _ (by omega)]) (fun k9 _ n0 => by rw [ez_K15, va_up_ne _ _ n0]) (by rw [ez_K15, va_up_self]; exact (cS hs5)))
  refine lv_iload hx hb dX10_remove_27 (lv_at hl 0 rfl) ?_
  obtain ⟨e90, e91, e92⟩ := ret3 h
  subst k
  subst r
  subst x_K9
  rw [hQ]
  exact x_reti hx hb hr hlk hW dX10_remove_29
set_option maxHeartbeats 4000000 in
set_option maxRecDepth 100000 in
theorem c_X10_length (l : Launch) (hfl : l.stackTraces = false) (D : va_G) (T : Nat → ClassId) (A : Nat → Prop) (ad : Nat → Nat → Nat) (hok : okad ad) (Z : va_W) (x_K : Nat → Ob) (p1 : Int32)  (k : Nat) (r : Int32) (h : f_X10_length x_K p1 = some (k, r)) : vx_Met l yX10_length (Cond.code yX10_length cX10_length 2 (some .int) :: wsL_law) (rmx 7 k) (Px D T A (oc_X10 T (ad 0) (bb ad) (x_K 0) ++ (wkL T ad x_K L18 ++ Z)) [.ref (ad 0 0), .int p1]) (Qxi D A (oc_X10 T (ad 0) (bb ad) (x_K 0) ++ (wkL T ad x_K L18 ++ Z)) k r) (XCx D A (oc_X10 T (ad 0) (bb ad) (x_K 0) ++ (wkL T ad x_K L18 ++ Z)) k) (ex1 k) (ex6 k) A := by
  refine vx_ofW (cc := cX10_length) (maxL := 2) (ret := (some .int)) (by decide +kernel) rfl ?_
  intro p e s m args below meth c s₁ B hml hout hv
  obtain ⟨ha, hP, hK, hD, hN, hE⟩ := hv
  have hx := B.exec
  have hb := B.bytes
  have hr := B.returns
  have hlk := B.notSynchronized
  have hts : ∀ w ∈ wsL_law, w.before args s = true := fun w hw => atoms_spec B.pre w (List.mem_cons_of_mem _ hw)
  have hown : s.vm.findClass RX10 = some m.cls := findClass_of_methodNamed B.named
  obtain ⟨hk0, hk1, hk2, hk3, hk4, hk5, hk6, hk7, hk9, hk10⟩ := id hok
  have hW : Wd D A s.heap (oc_X10 T (ad 0) (bb ad) (x_K 0) ++ (wkL T ad x_K L18 ++ Z)) s.heap [] := ⟨hP, hD, va_S.rf⟩
  have hl := lv_entry [.ref (ad 0 0), .int p1] (n := 2) (Nat.le_of_ble_eq_true rfl)
  refine W.eq (en_eq ha) ?_
  generalize (lg_sl [.ref (ad 0 0), .int p1] ++ List.replicate (2 - (lg_sl [.ref (ad 0 0), .int p1]).length) Slot.unset).toArray = ls at hl ⊢
  have hl : lv_has ls 2 [(0, .ref (ad 0 0)), (1, .int p1)] := hl
  clear hP hD B ha
  obtain ⟨Q, hQ⟩ : ∃ Q, Q = vx_MQ below (Qxi D A (oc_X10 T (ad 0) (bb ad) (x_K 0) ++ (wkL T ad x_K L18 ++ Z)) k r) (XCx D A (oc_X10 T (ad 0) (bb ad) (x_K 0) ++ (wkL T ad x_K L18 ++ Z)) k) args s (ex1 k) (ex6 k) A := ⟨_, rfl⟩
  rw [← hQ]
  change W p l e (rmx 7 k) s m args below meth c s.heap [] 0 0 Q (F0 m 0 ls [])
  rw [f_X10_length] at h
  suffices hm : ∀ (H : Heap) (locs : List Loc), Wd D A s.heap (oc_X10 T (ad 0) (bb ad) (x_K 0) ++ (wkL T ad x_K L18 ++ Z)) H locs → W p l e (rmx 7 k) s m args below meth c H locs 0 0 Q (F0 m 0 ls []) from hm _ _ hW
  intro H locs hW
  refine lv_aload_n hx hb dX10_length_0 rfl (lv_at hl 0 rfl) ?_
  refine lv_iload_n hx hb dX10_length_1 rfl (lv_at hl 1 rfl) ?_
  obtain ⟨k1, r2, qq3, h⟩ := bnd2_s h
  by_cases hk : k1 = 0
  case neg =>
    replace h := ite_f hk h
    obtain ⟨e90, e91⟩ := ret2 h
    subst k
    rw [hQ]
    exact xcx_X10_198 hk hout hlk (List.Perm.refl _) hx hb hml hown hts hK hN hE hW (c_X10_sentenceAt l hfl D T A ad hok Z x_K p1 k1 r2 qq3) ⟨Nat.le_of_ble_eq_true rfl, Nat.le_of_ble_eq_true rfl⟩ rfl hl.1 rfl (Nat.le_of_ble_eq_true rfl) dX10_length_2
  replace h := ite_t hk h
  subst hk
  refine xc0_X10_198 hx hb hml hown hts hK hN hE hW (c_X10_sentenceAt l hfl D T A ad hok Z x_K p1 0 r2 qq3) ⟨Nat.le_of_ble_eq_true rfl, Nat.le_of_ble_eq_true rfl⟩ rfl hl.1 rfl (Nat.le_of_ble_eq_true rfl) dX10_length_2 ⟨Nat.zero_le _, Nat.zero_le _⟩ (fun H locs hW => ?_)
  obtain ⟨g4, h⟩ := grd_s h
  have h4hs5 : r2 < 4 := of_decide_eq_true g4
  have hs5 : r2 < 5 := by omega
  refine fg_X10_210 (v := .int (x_K (9 + r2) 0 0)) hx hb hts hN hown hK (hW.perm (fo1 (k1 := (9 + r2)) (mS hs5) (cS hs5))) 0 rfl rfl dX10_length_5 ?_
  obtain ⟨e90, e91⟩ := ret2 h
  subst k
  subst r
  rw [hQ]
  exact x_reti hx hb hr hlk hW dX10_length_8
set_option maxHeartbeats 4000000 in
set_option maxRecDepth 100000 in
theorem c_X10_wordAt (l : Launch) (hfl : l.stackTraces = false) (D : va_G) (T : Nat → ClassId) (A : Nat → Prop) (ad : Nat → Nat → Nat) (hok : okad ad) (Z : va_W) (x_K : Nat → Ob) (p1 : Int32) (p2 : Int32)  (k : Nat) (r : Int32) (h : f_X10_wordAt x_K p1 p2 = some (k, r)) : vx_Met l yX10_wordAt (Cond.code yX10_wordAt cX10_wordAt 4 (some .int) :: wsL_law) (rmx 7 k) (Px D T A (oc_X10 T (ad 0) (bb ad) (x_K 0) ++ (wkL T ad x_K L18 ++ Z)) [.ref (ad 0 0), .int p1, .int p2]) (Qxi D A (oc_X10 T (ad 0) (bb ad) (x_K 0) ++ (wkL T ad x_K L18 ++ Z)) k r) (XCx D A (oc_X10 T (ad 0) (bb ad) (x_K 0) ++ (wkL T ad x_K L18 ++ Z)) k) (ex1 k) (ex6 k) A := by
  refine vx_ofW (cc := cX10_wordAt) (maxL := 4) (ret := (some .int)) (by decide +kernel) rfl ?_
  intro p e s m args below meth c s₁ B hml hout hv
  obtain ⟨ha, hP, hK, hD, hN, hE⟩ := hv
  have hx := B.exec
  have hb := B.bytes
  have hr := B.returns
  have hlk := B.notSynchronized
  have hts : ∀ w ∈ wsL_law, w.before args s = true := fun w hw => atoms_spec B.pre w (List.mem_cons_of_mem _ hw)
  have hown : s.vm.findClass RX10 = some m.cls := findClass_of_methodNamed B.named
  obtain ⟨hk0, hk1, hk2, hk3, hk4, hk5, hk6, hk7, hk9, hk10⟩ := id hok
  have hW : Wd D A s.heap (oc_X10 T (ad 0) (bb ad) (x_K 0) ++ (wkL T ad x_K L18 ++ Z)) s.heap [] := ⟨hP, hD, va_S.rf⟩
  have hl := lv_entry [.ref (ad 0 0), .int p1, .int p2] (n := 4) (Nat.le_of_ble_eq_true rfl)
  refine W.eq (en_eq ha) ?_
  generalize (lg_sl [.ref (ad 0 0), .int p1, .int p2] ++ List.replicate (4 - (lg_sl [.ref (ad 0 0), .int p1, .int p2]).length) Slot.unset).toArray = ls at hl ⊢
  have hl : lv_has ls 4 [(0, .ref (ad 0 0)), (1, .int p1), (2, .int p2)] := hl
  clear hP hD B ha
  obtain ⟨Q, hQ⟩ : ∃ Q, Q = vx_MQ below (Qxi D A (oc_X10 T (ad 0) (bb ad) (x_K 0) ++ (wkL T ad x_K L18 ++ Z)) k r) (XCx D A (oc_X10 T (ad 0) (bb ad) (x_K 0) ++ (wkL T ad x_K L18 ++ Z)) k) args s (ex1 k) (ex6 k) A := ⟨_, rfl⟩
  rw [← hQ]
  change W p l e (rmx 7 k) s m args below meth c s.heap [] 0 0 Q (F0 m 0 ls [])
  rw [f_X10_wordAt] at h
  suffices hm : ∀ (H : Heap) (locs : List Loc), Wd D A s.heap (oc_X10 T (ad 0) (bb ad) (x_K 0) ++ (wkL T ad x_K L18 ++ Z)) H locs → W p l e (rmx 7 k) s m args below meth c H locs 0 0 Q (F0 m 0 ls []) from hm _ _ hW
  intro H locs hW
  refine lv_aload_n hx hb dX10_wordAt_0 rfl (lv_at hl 0 rfl) ?_
  refine lv_iload_n hx hb dX10_wordAt_1 rfl (lv_at hl 1 rfl) ?_
  obtain ⟨k1, r2, qq3, h⟩ := bnd2_s h
  by_cases hk : k1 = 0
  case neg =>
    replace h := ite_f hk h
    obtain ⟨e90, e91⟩ := ret2 h
    subst k
    rw [hQ]
    exact xcx_X10_198 hk hout hlk (List.Perm.refl _) hx hb hml hown hts hK hN hE hW (c_X10_sentenceAt l hfl D T A ad hok Z x_K p1 k1 r2 qq3) ⟨Nat.le_of_ble_eq_true rfl, Nat.le_of_ble_eq_true rfl⟩ rfl hl.1 rfl (Nat.le_of_ble_eq_true rfl) dX10_wordAt_2
  replace h := ite_t hk h
  subst hk
  refine xc0_X10_198 hx hb hml hown hts hK hN hE hW (c_X10_sentenceAt l hfl D T A ad hok Z x_K p1 0 r2 qq3) ⟨Nat.le_of_ble_eq_true rfl, Nat.le_of_ble_eq_true rfl⟩ rfl hl.1 rfl (Nat.le_of_ble_eq_true rfl) dX10_wordAt_2 ⟨Nat.zero_le _, Nat.zero_le _⟩ (fun H locs hW => ?_)
  obtain ⟨g4, h⟩ := grd_s h
  have h4hs5 : r2 < 4 := of_decide_eq_true g4
  have hs5 : r2 < 5 := by omega
  refine lv_astore_n (lv' := [(3, .ref (ad (9 + r2) 0)), (0, .ref (ad 0 0)), (1, .int p1), (2, .int p2)]) hx hb dX10_wordAt_5 rfl hl (by decide) rfl (fun ls hl => ?_)
  refine lv_aload_n hx hb dX10_wordAt_6 rfl (lv_at hl 0 rfl) ?_
  refine lv_iload_n hx hb dX10_wordAt_7 rfl (lv_at hl 3 rfl) ?_
  obtain ⟨k6, qq7, h⟩ := bnd1_s h
  by_cases hk : k6 = 0
  case neg =>
    replace h := ite_f hk h
    obtain ⟨e90, e91⟩ := ret2 h
    subst k
    rw [hQ]
    exact xcx_X10_213 hk hout hlk (List.Perm.refl _) hx hb hml hown hts hK hN hE hW (c_X10_requirePlace l hfl D T A ad hok Z x_K r2 p2 hs5 k6 qq7) ⟨Nat.le_of_ble_eq_true rfl, Nat.le_of_ble_eq_true rfl⟩ rfl hl.1 rfl (Nat.le_of_ble_eq_true rfl) dX10_wordAt_8
  replace h := ite_t hk h
  subst hk
  refine xc0_X10_213 hx hb hml hown hts hK hN hE hW (c_X10_requirePlace l hfl D T A ad hok Z x_K r2 p2 hs5 0 qq7) ⟨Nat.le_of_ble_eq_true rfl, Nat.le_of_ble_eq_true rfl⟩ rfl hl.1 rfl (Nat.le_of_ble_eq_true rfl) dX10_wordAt_8 ⟨Nat.zero_le _, Nat.zero_le _⟩ (fun H locs hW => ?_)
  refine lv_aload_n hx hb dX10_wordAt_11 rfl (lv_at hl 0 rfl) ?_
  refine lv_iload_n hx hb dX10_wordAt_12 rfl (lv_at hl 3 rfl) ?_
  obtain ⟨r8, qq9, h⟩ := bnd1_s h
  replace hW := hW.perm (fo1 (k1 := (9 + r2)) (mS hs5) (cS hs5))
  refine cl_X10_217 hx hb hml hown hts hK hN hW (c_X6_wordIn l D T A (ad (9 + r2)) (oc_X10 T (ad 0) (bb ad) (x_K 0) ++ (wkL T ad x_K (L18.erase (9 + r2)) ++ Z)) (x_K (9 + r2)) p2 r8 qq9) ⟨Nat.le_of_ble_eq_true rfl, Nat.le_of_ble_eq_true rfl⟩ hl.1 rfl (Nat.le_of_ble_eq_true rfl) dX10_wordAt_13 ⟨Nat.zero_le _, Nat.zero_le _⟩ rfl (fun H locs hW => ?_)
  replace hW := hW.perm (fo1 (k1 := (9 + r2)) (mS hs5) (cS hs5)).symm
  obtain ⟨e90, e91⟩ := ret2 h
  subst k
  subst r
  rw [hQ]
  exact x_reti hx hb hr hlk hW dX10_wordAt_16
set_option maxHeartbeats 4000000 in
set_option maxRecDepth 100000 in
theorem c_X10_strikeAsNeeded (l : Launch) (D : va_G) (T : Nat → ClassId) (A : Nat → Prop) (ad : Nat → Nat → Nat) (hok : okad ad) (Z : va_W) (x_K : Nat → Ob) (q1 : Nat) (hq1 : q1 < 5) (x_K9 : Nat → Ob) (h : f_X10_strikeAsNeeded x_K q1 = some x_K9) : Met l yX10_strikeAsNeeded (Cond.code yX10_strikeAsNeeded cX10_strikeAsNeeded 2 none :: wsL_law) (rmd 3) (Pg D T A (oc_X10 T (ad 0) (bb ad) (x_K 0) ++ (wkL T ad x_K L18 ++ Z)) [.ref (ad 0 0), .ref (ad (9 + q1) 0)]) (Qgv D A (oc_X10 T (ad 0) (bb ad) (x_K9 0) ++ (wkL T ad x_K9 L18 ++ Z))) 0 0 A := by
  refine Met.ofW (cc := cX10_strikeAsNeeded) (maxL := 2) (ret := none) (by decide +kernel) rfl ?_
  intro p e s m args below meth c s₁ B hml hv
  obtain ⟨ha, hP, hK, hD, hN⟩ := hv
  have hx := B.exec
  have hb := B.bytes
  have hr := B.returns
  have hlk := B.notSynchronized
  have hts : ∀ w ∈ wsL_law, w.before args s = true := fun w hw => atoms_spec B.pre w (List.mem_cons_of_mem _ hw)
  have hown : s.vm.findClass RX10 = some m.cls := findClass_of_methodNamed B.named
  obtain ⟨hk0, hk1, hk2, hk3, hk4, hk5, hk6, hk7, hk9, hk10⟩ := id hok
  have hW : Wd D A s.heap (oc_X10 T (ad 0) (bb ad) (x_K 0) ++ (wkL T ad x_K L18 ++ Z)) s.heap [] := ⟨hP, hD, va_S.rf⟩
  have hl := lv_entry [.ref (ad 0 0), .ref (ad (9 + q1) 0)] (n := 2) (Nat.le_of_ble_eq_true rfl)
  refine W.eq (en_eq ha) ?_
  generalize (lg_sl [.ref (ad 0 0), .ref (ad (9 + q1) 0)] ++ List.replicate (2 - (lg_sl [.ref (ad 0 0), .ref (ad (9 + q1) 0)]).length) Slot.unset).toArray = ls at hl ⊢
  have hl : lv_has ls 2 [(0, .ref (ad 0 0)), (1, .ref (ad (9 + q1) 0))] := hl
  clear hP hD B ha
  obtain ⟨Q, hQ⟩ : ∃ Q, Q = MQ below (Qgv D A (oc_X10 T (ad 0) (bb ad) (x_K9 0) ++ (wkL T ad x_K9 L18 ++ Z))) args s 0 0 A := ⟨_, rfl⟩
  rw [← hQ]
  change W p l e (rmd 3) s m args below meth c s.heap [] 0 0 Q (F0 m 0 ls [])
  rw [f_X10_strikeAsNeeded] at h
  suffices hm : ∀ (H : Heap) (locs : List Loc), Wd D A s.heap (oc_X10 T (ad 0) (bb ad) (x_K 0) ++ (wkL T ad x_K L18 ++ Z)) H locs → W p l e (rmd 3) s m args below meth c H locs 0 0 Q (F0 m 0 ls []) from hm _ _ hW
  intro H locs hW
  refine lv_aload_n hx hb dX10_strikeAsNeeded_0 rfl (lv_at hl 1 rfl) ?_
  refine fg_X10_382 (v := .int (x_K (9 + q1) 7 0)) hx hb hts hN hown hK (hW.perm (fo1 (k1 := (9 + q1)) (mS hq1) (cS hq1))) 0 rfl rfl dX10_strikeAsNeeded_1 ?_
  refine lv_if_ne (tgt := 19) hx hb dX10_strikeAsNeeded_4 (by decide) (fun c1 => ?_) (fun c1 => ?_)
  · replace h := ite_f c1 h
    have e90 := ret1 h
    subst x_K9
    rw [hQ]
    exact g_retv hx hb hr hlk hW dX10_strikeAsNeeded_19
  · replace h := ite_t c1 h
    refine lv_aload_n hx hb dX10_strikeAsNeeded_7 rfl (lv_at hl 0 rfl) ?_
    refine fg_X10_19 (v := .ref (ad 2 0)) hx hb hts hown hK hW 0 rfl (by rw [← hk1]; rfl) dX10_strikeAsNeeded_8 ?_
    refine lv_aload_n hx hb dX10_strikeAsNeeded_11 rfl (lv_at hl 0 rfl) ?_
    refine fg_X10_12 (v := .ref (ad 1 0)) hx hb hts hown hK hW 0 rfl (by rw [← hk0]; rfl) dX10_strikeAsNeeded_12 ?_
    refine lv_aload_n hx hb dX10_strikeAsNeeded_15 rfl (lv_at hl 1 rfl) ?_
    obtain ⟨y_q22, qq3, h⟩ := bnd1_s h
    replace hW := hW.perm (fo3 (k1 := 2) (k2 := 1) (k3 := (9 + q1)) (by decide) (by decide) (mS hq1) (by omega) (by omega) (by omega) rfl rfl (cS hq1))
    refine cl_X10_386 hx hb hml hown hts hK hN hW (c_X7_strike l D T A (ad 2) (ad 1) (ad (9 + q1)) (oc_X10 T (ad 0) (bb ad) (x_K 0) ++ (wkL T ad x_K (((L18.erase 2).erase 1).erase (9 + q1)) ++ Z)) (x_K 2) (x_K 1) (x_K (9 + q1)) y_q22 qq3) ⟨Nat.le_of_ble_eq_true rfl, Nat.le_of_ble_eq_true rfl⟩ hl.1 rfl (Nat.le_of_ble_eq_true rfl) dX10_strikeAsNeeded_16 ⟨Nat.zero_le _, Nat.zero_le _⟩ rfl (fun H locs hW => ?_)
    obtain ⟨z_K4, ez_K4⟩ : ∃ y : Nat → Ob, y = va_up x_K (9 + q1) y_q22 := ⟨_, rfl⟩
    replace h := lb_at ez_K4 h
    replace hW := hW.perm (ba3 (K' := z_K4) (k1 := 2) (k2 := 1) (k3 := (9 + q1)) (by decide) (by decide) (mS hq1) (by omega) (by omega) (by omega) (by rw [ez_K4, va_up_ne _ _ (by omega)]) (fun k9 _ n0 n1 n2 => by rw [ez_K4, va_up_ne _ _ n2]) (by rw [ez_K4, va_up_ne _ _ (by omega)]; exact rfl) (by rw [ez_K4, va_up_ne _ _ (by omega)]; exact rfl) (by rw [ez_K4, va_up_self]; exact (cS hq1)))
    have e90 := ret1 h
    subst x_K9
    rw [hQ]
    exact g_retv hx hb hr hlk hW dX10_strikeAsNeeded_19
