set_option maxHeartbeats 4000000 in
set_option maxRecDepth 100000 in
theorem c_X10_left (l : Launch) (hfl : l.stackTraces = false) (D : va_G) (T : Nat → ClassId) (A : Nat → Prop) (ad : Nat → Nat → Nat) (hok : okad ad) (Z : va_W) (x_K : Nat → Ob) (p1 : Int32) (p2 : Int32)  (k : Nat) (r : Int32) (x_K9 : Nat → Ob) (h : f_X10_left x_K p1 p2 = some (k, r, x_K9)) : vx_Met l yX10_left (Cond.code yX10_left cX10_left 4 (some .int) :: wsL_law) (rmx 7 k) (Px D T A (oc_X10 T (ad 0) (bb ad) (x_K 0) ++ (wkL T ad x_K L18 ++ Z)) [.ref (ad 0 0), .int p1, .int p2]) (Qxi D A (oc_X10 T (ad 0) (bb ad) (x_K9 0) ++ (wkL T ad x_K9 L18 ++ Z)) k r) (XCx D A (oc_X10 T (ad 0) (bb ad) (x_K9 0) ++ (wkL T ad x_K9 L18 ++ Z)) k) (ex1 k) (ex6 k) A := by
  refine vx_ofW (cc := cX10_left) (maxL := 4) (ret := (some .int)) (by decide +kernel) rfl ?_
  intro p e s m args below meth c s₁ B hml hout hv
  obtain ⟨ha, hP, hK, hD, hN, hE⟩ := hv
  have hx := B.exec
  have hb := B.bytes
  have hr := B.returns
  have hlk := B.notSynchronized
  have hts : ∀ w ∈ wsL_law, w.before args s = true := fun w hw => atoms_spec B.pre w (List.mem_cons_of_mem _ hw)
  have hown : s.vm.findClass RX10 = some m.cls := findClass_of_methodNamed B.named
  obtain ⟨hk0, hk1, hk2, hk3, hk4, hk5, hk6, hk7, hk9, hk10⟩ := id hok
  have hW : Wd D A s.heap (oc_X10 T (ad 0) (bb ad) (x_K 0) ++ (wkL T ad x_K L18 ++ Z)) s.heap [] := ⟨hP, hD, va_S.rf⟩
  have hl := lv_entry [.ref (ad 0 0), .int p1, .int p2] (n := 4) (Nat.le_of_ble_eq_true rfl)
  refine W.eq (en_eq ha) ?_
  generalize (lg_sl [.ref (ad 0 0), .int p1, .int p2] ++ List.replicate (4 - (lg_sl [.ref (ad 0 0), .int p1, .int p2]).length) Slot.unset).toArray = ls at hl ⊢
  have hl : lv_has ls 4 [(0, .ref (ad 0 0)), (1, .int p1), (2, .int p2)] := hl
  clear hP hD B ha
  obtain ⟨Q, hQ⟩ : ∃ Q, Q = vx_MQ below (Qxi D A (oc_X10 T (ad 0) (bb ad) (x_K9 0) ++ (wkL T ad x_K9 L18 ++ Z)) k r) (XCx D A (oc_X10 T (ad 0) (bb ad) (x_K9 0) ++ (wkL T ad x_K9 L18 ++ Z)) k) args s (ex1 k) (ex6 k) A := ⟨_, rfl⟩
  rw [← hQ]
  change W p l e (rmx 7 k) s m args below meth c s.heap [] 0 0 Q (F0 m 0 ls [])
  rw [f_X10_left] at h
  suffices hm : ∀ (H : Heap) (locs : List Loc), Wd D A s.heap (oc_X10 T (ad 0) (bb ad) (x_K 0) ++ (wkL T ad x_K L18 ++ Z)) H locs → W p l e (rmx 7 k) s m args below meth c H locs 0 0 Q (F0 m 0 ls []) from hm _ _ hW
  intro H locs hW
  refine lv_aload_n hx hb dX10_left_0 rfl (lv_at hl 0 rfl) ?_
  refine lv_iload_n hx hb dX10_left_1 rfl (lv_at hl 1 rfl) ?_
  obtain ⟨k1, r2, qq3, h⟩ := bnd2_s h
  by_cases hk : k1 = 0
  case neg =>
    replace h := ite_f hk h
    obtain ⟨e90, e91, e92⟩ := ret3 h
    subst k
    subst x_K9
    rw [hQ]
    exact xcx_X10_198 hk hout hlk (List.Perm.refl _) hx hb hml hown hts hK hN hE hW (c_X10_sentenceAt l hfl D T A ad hok Z x_K p1 k1 r2 qq3) ⟨Nat.le_of_ble_eq_true rfl, Nat.le_of_ble_eq_true rfl⟩ rfl hl.1 rfl (Nat.le_of_ble_eq_true rfl) dX10_left_2
  replace h := ite_t hk h
  subst hk
  refine xc0_X10_198 hx hb hml hown hts hK hN hE hW (c_X10_sentenceAt l hfl D T A ad hok Z x_K p1 0 r2 qq3) ⟨Nat.le_of_ble_eq_true rfl, Nat.le_of_ble_eq_true rfl⟩ rfl hl.1 rfl (Nat.le_of_ble_eq_true rfl) dX10_left_2 ⟨Nat.zero_le _, Nat.zero_le _⟩ (fun H locs hW => ?_)
  obtain ⟨g4, h⟩ := grd_s h
  have h4hs5 : r2 < 4 := of_decide_eq_true g4
  have hs5 : r2 < 5 := by omega
  refine lv_astore_n (lv' := [(3, .ref (ad (9 + r2) 0)), (0, .ref (ad 0 0)), (1, .int p1), (2, .int p2)]) hx hb dX10_left_5 rfl hl (by decide) rfl (fun ls hl => ?_)
  refine lv_aload_n hx hb dX10_left_6 rfl (lv_at hl 0 rfl) ?_
  refine lv_iload_n hx hb dX10_left_7 rfl (lv_at hl 3 rfl) ?_
  obtain ⟨k6, qq7, h⟩ := bnd1_s h
  by_cases hk : k6 = 0
  case neg =>
    replace h := ite_f hk h
    obtain ⟨e90, e91, e92⟩ := ret3 h
    subst k
    subst x_K9
    rw [hQ]
    exact xcx_X10_213 hk hout hlk (List.Perm.refl _) hx hb hml hown hts hK hN hE hW (c_X10_requirePlace l hfl D T A ad hok Z x_K r2 p2 hs5 k6 qq7) ⟨Nat.le_of_ble_eq_true rfl, Nat.le_of_ble_eq_true rfl⟩ rfl hl.1 rfl (Nat.le_of_ble_eq_true rfl) dX10_left_8
  replace h := ite_t hk h
  subst hk
  refine xc0_X10_213 hx hb hml hown hts hK hN hE hW (c_X10_requirePlace l hfl D T A ad hok Z x_K r2 p2 hs5 0 qq7) ⟨Nat.le_of_ble_eq_true rfl, Nat.le_of_ble_eq_true rfl⟩ rfl hl.1 rfl (Nat.le_of_ble_eq_true rfl) dX10_left_8 ⟨Nat.zero_le _, Nat.zero_le _⟩ (fun H locs hW => ?_)
  refine lv_aload_n hx hb dX10_left_11 rfl (lv_at hl 1 rfl) ?_
  refine lv_aload_n hx hb dX10_left_12 rfl (lv_at hl 0 rfl) ?_
  obtain ⟨z_K8, qq9, h⟩ := bnd1_s h
  refine cl_X10_227 hx hb hml hown hts hK hN hW (c_X10_strikeAsNeeded l D T A ad hok Z x_K r2 hs5 z_K8 qq9) ⟨Nat.le_of_ble_eq_true rfl, Nat.le_of_ble_eq_true rfl⟩ hl.1 rfl (Nat.le_of_ble_eq_true rfl) dX10_left_13 ⟨Nat.zero_le _, Nat.zero_le _⟩ rfl (fun H locs hW => ?_)
  refine lv_aload_n hx hb dX10_left_16 rfl (lv_at hl 0 rfl) ?_
  refine lv_iload_n hx hb dX10_left_17 rfl (lv_at hl 3 rfl) ?_
  obtain ⟨r10, qq11, h⟩ := bnd1_s h
  replace hW := hW.perm (fo1 (k1 := (9 + r2)) (mS hs5) (cS hs5))
  refine cl_X10_231 hx hb hml hown hts hK hN hW (c_X6_leftIn l D T A (ad (9 + r2)) (oc_X10 T (ad 0) (bb ad) (z_K8 0) ++ (wkL T ad z_K8 (L18.erase (9 + r2)) ++ Z)) (z_K8 (9 + r2)) p2 r10 qq11) ⟨Nat.le_of_ble_eq_true rfl, Nat.le_of_ble_eq_true rfl⟩ hl.1 rfl (Nat.le_of_ble_eq_true rfl) dX10_left_18 ⟨Nat.zero_le _, Nat.zero_le _⟩ rfl (fun H locs hW => ?_)
  replace hW := hW.perm (fo1 (k1 := (9 + r2)) (mS hs5) (cS hs5)).symm
  obtain ⟨e90, e91, e92⟩ := ret3 h
  subst k
  subst r
  subst x_K9
  rw [hQ]
  exact x_reti hx hb hr hlk hW dX10_left_21
set_option maxHeartbeats 4000000 in
set_option maxRecDepth 100000 in
theorem c_X10_strikeUpTo (l : Launch) (D : va_G) (T : Nat → ClassId) (A : Nat → Prop) (ad : Nat → Nat → Nat) (hok : okad ad) (Z : va_W) (x_K : Nat → Ob) (p1 : Int32)  (x_K9 : Nat → Ob) (h : f_X10_strikeUpTo x_K p1 = some x_K9) : Met l yX10_strikeUpTo (Cond.code yX10_strikeUpTo cX10_strikeUpTo 3 none :: wsL_law) (rmd 3) (Pg D T A (oc_X10 T (ad 0) (bb ad) (x_K 0) ++ (wkL T ad x_K L18 ++ Z)) [.ref (ad 0 0), .int p1]) (Qgv D A (oc_X10 T (ad 0) (bb ad) (x_K9 0) ++ (wkL T ad x_K9 L18 ++ Z))) 0 0 A := by
  refine Met.ofW (cc := cX10_strikeUpTo) (maxL := 3) (ret := none) (by decide +kernel) rfl ?_
  intro p e s m args below meth c s₁ B hml hv
  obtain ⟨ha, hP, hK, hD, hN⟩ := hv
  have hx := B.exec
  have hb := B.bytes
  have hr := B.returns
  have hlk := B.notSynchronized
  have hts : ∀ w ∈ wsL_law, w.before args s = true := fun w hw => atoms_spec B.pre w (List.mem_cons_of_mem _ hw)
  have hown : s.vm.findClass RX10 = some m.cls := findClass_of_methodNamed B.named
  obtain ⟨hk0, hk1, hk2, hk3, hk4, hk5, hk6, hk7, hk9, hk10⟩ := id hok
  have hW : Wd D A s.heap (oc_X10 T (ad 0) (bb ad) (x_K 0) ++ (wkL T ad x_K L18 ++ Z)) s.heap [] := ⟨hP, hD, va_S.rf⟩
  have hl := lv_entry [.ref (ad 0 0), .int p1] (n := 3) (Nat.le_of_ble_eq_true rfl)
  refine W.eq (en_eq ha) ?_
  generalize (lg_sl [.ref (ad 0 0), .int p1] ++ List.replicate (3 - (lg_sl [.ref (ad 0 0), .int p1]).length) Slot.unset).toArray = ls at hl ⊢
  have hl : lv_has ls 3 [(0, .ref (ad 0 0)), (1, .int p1)] := hl
  clear hP hD B ha
  obtain ⟨Q, hQ⟩ : ∃ Q, Q = MQ below (Qgv D A (oc_X10 T (ad 0) (bb ad) (x_K9 0) ++ (wkL T ad x_K9 L18 ++ Z))) args s 0 0 A := ⟨_, rfl⟩
  rw [← hQ]
  change W p l e (rmd 3) s m args below meth c s.heap [] 0 0 Q (F0 m 0 ls [])
  have L8 : ∀ (n : Nat) (x_K_8 : Nat → Ob) (v1_8 : Int32) (v2_8 : Int32) (H : Heap) (locs : List Loc) (ls : Array Slot) (o2_8r : Int32) (y_K_8r : Nat → Ob), Wd D A s.heap (oc_X10 T (ad 0) (bb ad) (x_K_8 0) ++ (wkL T ad x_K_8 L18 ++ Z)) H locs → lv_has ls 3 [(0, .ref (ad 0 0)), (1, .int v1_8), (2, .int v2_8)] → f_X10_strikeUpTo_L8 n x_K_8 v1_8 v2_8 = some (o2_8r, y_K_8r) → (∀ (H : Heap) (locs : List Loc) (ls : Array Slot), Wd D A s.heap (oc_X10 T (ad 0) (bb ad) (y_K_8r 0) ++ (wkL T ad y_K_8r L18 ++ Z)) H locs → lv_has ls 3 [] → W p l e (rmd 3) s m args below meth c H locs 0 0 Q (F0 m 57 ls [])) → W p l e (rmd 3) s m args below meth c H locs 0 0 Q (F0 m 8 ls []) := by
    intro n
    induction n with
    | zero =>
      intro x_K_8 v1_8 v2_8 H locs ls o2_8r y_K_8r hW hl h k1
      rw [f_X10_strikeUpTo_L8] at h
      cases h
    | succ n ih =>
      intro x_K_8 v1_8 v2_8 H locs ls o2_8r y_K_8r hW hl h k1
      rw [f_X10_strikeUpTo_L8] at h
      refine lv_iload_n hx hb dX10_strikeUpTo_8 rfl (lv_at hl 2 rfl) ?_
      refine lv_iload_n hx hb dX10_strikeUpTo_9 rfl (lv_at hl 1 rfl) ?_
      refine lv_icmp_gt (tgt := 57) hx hb dX10_strikeUpTo_10 (by decide) (fun c2 => ?_) (fun c2 => ?_)
      · replace h := ite_t c2 h
        obtain ⟨rfl, rfl⟩ := ret2 h
        exact k1 H locs ls hW (lv_sub hl [] rfl)
      · replace h := ite_f c2 h
        refine lv_iload_n hx hb dX10_strikeUpTo_13 rfl (lv_at hl 2 rfl) ?_
        refine lv_aload_n hx hb dX10_strikeUpTo_14 rfl (lv_at hl 0 rfl) ?_
        refine fg_X10_67 (v := .ref (ad 0 1)) hx hb hts hown hK hW 0 rfl rfl dX10_strikeUpTo_15 ?_
        refine g_alen (v := 4) hx hb hK hW 1 2 rfl rfl rfl dX10_strikeUpTo_18 ?_
        refine lv_icmp_ge (tgt := 57) hx hb dX10_strikeUpTo_19 (by decide) (fun c3 => ?_) (fun c3 => ?_)
        · replace h := ite_t c3 h
          obtain ⟨rfl, rfl⟩ := ret2 h
          exact k1 H locs ls hW (lv_sub hl [] rfl)
        · replace h := ite_f c3 h
          refine lv_aload_n hx hb dX10_strikeUpTo_22 rfl (lv_at hl 0 rfl) ?_
          refine fg_X10_67 (v := .ref (ad 0 1)) hx hb hts hown hK hW 0 rfl rfl dX10_strikeUpTo_23 ?_
          refine lv_iload_n hx hb dX10_strikeUpTo_26 rfl (lv_at hl 2 rfl) ?_
          obtain ⟨g4, h⟩ := grd_s h
          have hs5 : v2_8.toNatClampNeg < 5 := Nat.lt_of_lt_of_le (gd_lt g4) (by decide)
          refine g_aldq (b := ad (9 + v2_8.toNatClampNeg) 0) hx hb hK hW 1 rfl g4 rfl dX10_strikeUpTo_27 ?_
          refine fg_X10_382 (v := .int (x_K_8 (9 + v2_8.toNatClampNeg) 7 0)) hx hb hts hN hown hK (hW.perm (fo1 (k1 := (9 + v2_8.toNatClampNeg)) (mS hs5) (cS hs5))) 0 rfl rfl dX10_strikeUpTo_28 ?_
          refine lv_if_ne (tgt := 51) hx hb dX10_strikeUpTo_31 (by decide) (fun c6 => ?_) (fun c6 => ?_)
          · replace h := ite_f c6 h
            obtain ⟨w2_7, ew2_7⟩ : ∃ y : Int32, y = v2_8 + 1 := ⟨_, rfl⟩
            replace h := lb_at ew2_7 h
            refine lv_iinc (v := w2_7) (lv' := [(2, .int w2_7), (0, .ref (ad 0 0)), (1, .int v1_8)]) hx hb dX10_strikeUpTo_51 hl (k := 2) rfl (by rw [ew2_7]; rfl) (by decide) rfl (fun ls hl => ?_)
            refine lv_goto (tgt := 8) hx hb dX10_strikeUpTo_54 (by decide) ?_
            exact ih _ _ _ H locs ls _ _ hW (lv_sub hl [1, 2, 0] rfl) h k1
          · replace h := ite_t c6 h
            refine lv_aload_n hx hb dX10_strikeUpTo_34 rfl (lv_at hl 0 rfl) ?_
            refine fg_X10_19 (v := .ref (ad 2 0)) hx hb hts hown hK hW 0 rfl (by rw [← hk1]; rfl) dX10_strikeUpTo_35 ?_
            refine lv_aload_n hx hb dX10_strikeUpTo_38 rfl (lv_at hl 0 rfl) ?_
            refine fg_X10_12 (v := .ref (ad 1 0)) hx hb hts hown hK hW 0 rfl (by rw [← hk0]; rfl) dX10_strikeUpTo_39 ?_
            refine lv_aload_n hx hb dX10_strikeUpTo_42 rfl (lv_at hl 0 rfl) ?_
            refine fg_X10_67 (v := .ref (ad 0 1)) hx hb hts hown hK hW 0 rfl rfl dX10_strikeUpTo_43 ?_
            refine lv_iload_n hx hb dX10_strikeUpTo_46 rfl (lv_at hl 2 rfl) ?_
            obtain ⟨g8, h⟩ := grd_s h
            have hs9 : v2_8.toNatClampNeg < 5 := Nat.lt_of_lt_of_le (gd_lt g8) (by decide)
            refine g_aldq (b := ad (9 + v2_8.toNatClampNeg) 0) hx hb hK hW 1 rfl g8 rfl dX10_strikeUpTo_47 ?_
            obtain ⟨y_q210, qq11, h⟩ := bnd1_s h
            replace hW := hW.perm (fo3 (k1 := 2) (k2 := 1) (k3 := (9 + v2_8.toNatClampNeg)) (by decide) (by decide) (mS hs9) (by omega) (by omega) (by omega) rfl rfl (cS hs9))
            refine cl_X10_386 hx hb hml hown hts hK hN hW (c_X7_strike l D T A (ad 2) (ad 1) (ad (9 + v2_8.toNatClampNeg)) (oc_X10 T (ad 0) (bb ad) (x_K_8 0) ++ (wkL T ad x_K_8 (((L18.erase 2).erase 1).erase (9 + v2_8.toNatClampNeg)) ++ Z)) (x_K_8 2) (x_K_8 1) (x_K_8 (9 + v2_8.toNatClampNeg)) y_q210 qq11) ⟨Nat.le_of_ble_eq_true rfl, Nat.le_of_ble_eq_true rfl⟩ hl.1 rfl (Nat.le_of_ble_eq_true rfl) dX10_strikeUpTo_48 ⟨Nat.zero_le _, Nat.zero_le _⟩ rfl (fun H locs hW => ?_)
            obtain ⟨z_K12, ez_K12⟩ : ∃ y : Nat → Ob, y = va_up x_K_8 (9 + v2_8.toNatClampNeg) y_q210 := ⟨_, rfl⟩
            replace h := lb_at ez_K12 h
            replace hW := hW.perm (ba3 (K' := z_K12) (k1 := 2) (k2 := 1) (k3 := (9 + v2_8.toNatClampNeg)) (by decide) (by decide) (mS hs9) (by omega) (by omega) (by omega) (by rw [ez_K12, va_up_ne _ _ (by omega)]) (fun k9 _ n0 n1 n2 => by rw [ez_K12, va_up_ne _ _ n2]) (by rw [ez_K12, va_up_ne _ _ (by omega)]; exact rfl) (by rw [ez_K12, va_up_ne _ _ (by omega)]; exact rfl) (by rw [ez_K12, va_up_self]; exact (cS hs9)))
            obtain ⟨w2_13, ew2_13⟩ : ∃ y : Int32, y = v2_8 + 1 := ⟨_, rfl⟩
            replace h := lb_at ew2_13 h
            refine lv_iinc (v := w2_13) (lv' := [(2, .int w2_13), (0, .ref (ad 0 0)), (1, .int v1_8)]) hx hb dX10_strikeUpTo_51 hl (k := 2) rfl (by rw [ew2_13]; rfl) (by decide) rfl (fun ls hl => ?_)
            refine lv_goto (tgt := 8) hx hb dX10_strikeUpTo_54 (by decide) ?_
            exact ih _ _ _ H locs ls _ _ hW (lv_sub hl [1, 2, 0] rfl) h k1
  rw [f_X10_strikeUpTo] at h
  suffices hm : ∀ (H : Heap) (locs : List Loc), Wd D A s.heap (oc_X10 T (ad 0) (bb ad) (x_K 0) ++ (wkL T ad x_K L18 ++ Z)) H locs → W p l e (rmd 3) s m args below meth c H locs 0 0 Q (F0 m 0 ls []) from hm _ _ hW
  intro H locs hW
  refine lv_iconst (v := 0) hx hb dX10_strikeUpTo_0 (by decide) ?_
  refine lv_iload_n hx hb dX10_strikeUpTo_1 rfl (lv_at hl 1 rfl) ?_
  refine lv_iconst (v := 2) hx hb dX10_strikeUpTo_2 (by decide) ?_
  refine lv_isub hx hb dX10_strikeUpTo_3 ?_
  refine va_mmax hx hb (hml.trans hl.1.symm) hown (hts _ wm18_23) (hts _ wm19_0) (hts _ wm12_17) (hts _ wm19_1) (Nat.le_of_ble_eq_true rfl) (Nat.le_of_ble_eq_true rfl) (Nat.zero_le _) (Nat.zero_le _) dX10_strikeUpTo_4 ?_
  refine lv_topi (fun w2_1 ew2_1 => ?_)
  replace h := lb_at ew2_1 h
  refine lv_istore_n (lv' := [(2, .int w2_1), (0, .ref (ad 0 0)), (1, .int p1)]) hx hb dX10_strikeUpTo_7 rfl hl (by decide) rfl (fun ls hl => ?_)
  obtain ⟨o2_u14, y_K_u14, qq15, h⟩ := bnd2_s h
  refine L8 200 _ _ _ H locs ls o2_u14 y_K_u14 hW (lv_sub hl [1, 2, 0] rfl) qq15 (fun H locs ls hW hl => ?_)
  have e90 := ret1 h
  subst x_K9
  rw [hQ]
  exact g_retv hx hb hr hlk hW dX10_strikeUpTo_57
set_option maxHeartbeats 4000000 in
set_option maxRecDepth 100000 in
theorem c_X10_refers (l : Launch) (hfl : l.stackTraces = false) (D : va_G) (T : Nat → ClassId) (A : Nat → Prop) (ad : Nat → Nat → Nat) (hok : okad ad) (Z : va_W) (x_K : Nat → Ob) (p1 : Int32) (q2 : Nat) (p3 : Int32) (hq2 : q2 < 5) (k : Nat) (r : Int32) (x_K9 : Nat → Ob) (h : f_X10_refers x_K p1 q2 p3 = some (k, r, x_K9)) : vx_Met l yX10_refers (Cond.code yX10_refers cX10_refers 8 (some .boolean) :: wsL_law) (rmx 7 k) (Px D T A (oc_X10 T (ad 0) (bb ad) (x_K 0) ++ (wkL T ad x_K L18 ++ Z)) [.ref (ad 0 0), .int p1, .ref (ad (9 + q2) 0), .int p3]) (Qxi D A (oc_X10 T (ad 0) (bb ad) (x_K9 0) ++ (wkL T ad x_K9 L18 ++ Z)) k r) (XCx D A (oc_X10 T (ad 0) (bb ad) (x_K9 0) ++ (wkL T ad x_K9 L18 ++ Z)) k) (ex1 k) (ex6 k) A := by
  refine vx_ofW (cc := cX10_refers) (maxL := 8) (ret := (some .boolean)) (by decide +kernel) rfl ?_
  intro p e s m args below meth c s₁ B hml hout hv
  obtain ⟨ha, hP, hK, hD, hN, hE⟩ := hv
  have hx := B.exec
  have hb := B.bytes
  have hr := B.returns
  have hlk := B.notSynchronized
  have hts : ∀ w ∈ wsL_law, w.before args s = true := fun w hw => atoms_spec B.pre w (List.mem_cons_of_mem _ hw)
  have hown : s.vm.findClass RX10 = some m.cls := findClass_of_methodNamed B.named
  obtain ⟨hk0, hk1, hk2, hk3, hk4, hk5, hk6, hk7, hk9, hk10⟩ := id hok
  have hW : Wd D A s.heap (oc_X10 T (ad 0) (bb ad) (x_K 0) ++ (wkL T ad x_K L18 ++ Z)) s.heap [] := ⟨hP, hD, va_S.rf⟩
  have hl := lv_entry [.ref (ad 0 0), .int p1, .ref (ad (9 + q2) 0), .int p3] (n := 8) (Nat.le_of_ble_eq_true rfl)
  refine W.eq (en_eq ha) ?_
  generalize (lg_sl [.ref (ad 0 0), .int p1, .ref (ad (9 + q2) 0), .int p3] ++ List.replicate (8 - (lg_sl [.ref (ad 0 0), .int p1, .ref (ad (9 + q2) 0), .int p3]).length) Slot.unset).toArray = ls at hl ⊢
  have hl : lv_has ls 8 [(0, .ref (ad 0 0)), (1, .int p1), (2, .ref (ad (9 + q2) 0)), (3, .int p3)] := hl
  clear hP hD B ha
  obtain ⟨Q, hQ⟩ : ∃ Q, Q = vx_MQ below (Qxi D A (oc_X10 T (ad 0) (bb ad) (x_K9 0) ++ (wkL T ad x_K9 L18 ++ Z)) k r) (XCx D A (oc_X10 T (ad 0) (bb ad) (x_K9 0) ++ (wkL T ad x_K9 L18 ++ Z)) k) args s (ex1 k) (ex6 k) A := ⟨_, rfl⟩
  rw [← hQ]
  change W p l e (rmx 7 k) s m args below meth c s.heap [] 0 0 Q (F0 m 0 ls [])
  have L45 : ∀ (n : Nat) (x_K_45 : Nat → Ob) (v1_45 : Int32) (v5_45 : Int32) (v6_45 : Int32) (H : Heap) (locs : List Loc) (ls : Array Slot) (code : Nat) (o6_45r : Int32) (y_K_45r : Nat → Ob), Wd D A s.heap (oc_X10 T (ad 0) (bb ad) (x_K_45 0) ++ (wkL T ad x_K_45 L18 ++ Z)) H locs → lv_has ls 8 [(0, .ref (ad 0 0)), (1, .int v1_45), (5, .int v5_45), (6, .int v6_45)] → f_X10_refers_L45 n x_K_45 v1_45 v5_45 v6_45 = some (code, o6_45r, y_K_45r) → (code = 1 → ∀ (H : Heap) (locs : List Loc) (ls : Array Slot), Wd D A s.heap (oc_X10 T (ad 0) (bb ad) (y_K_45r 0) ++ (wkL T ad y_K_45r L18 ++ Z)) H locs → lv_has ls 8 [] → W p l e (rmx 7 k) s m args below meth c H locs 0 0 Q (F0 m 98 ls [])) → (code = 2 → ∀ (H : Heap) (locs : List Loc) (ls : Array Slot), Wd D A s.heap (oc_X10 T (ad 0) (bb ad) (y_K_45r 0) ++ (wkL T ad y_K_45r L18 ++ Z)) H locs → lv_has ls 8 [] → W p l e (rmx 7 k) s m args below meth c H locs 0 0 Q (F0 m 90 ls [])) → (∀ k1 : Nat, code = 100 + k1 → k = k1 ∧ x_K9 = y_K_45r) → W p l e (rmx 7 k) s m args below meth c H locs 0 0 Q (F0 m 45 ls []) := by
    intro n
    induction n with
    | zero =>
      intro x_K_45 v1_45 v5_45 v6_45 H locs ls code o6_45r y_K_45r hW hl h k1 k2 kx
      rw [f_X10_refers_L45] at h
      cases h
    | succ n ih =>
      intro x_K_45 v1_45 v5_45 v6_45 H locs ls code o6_45r y_K_45r hW hl h k1 k2 kx
      rw [f_X10_refers_L45] at h
      refine lv_iload hx hb dX10_refers_45 (lv_at hl 3 rfl) ?_
      refine lv_iconst (v := 2) hx hb dX10_refers_47 (by decide) ?_
      refine lv_icmp_gt (tgt := 98) hx hb dX10_refers_48 (by decide) (fun c11 => ?_) (fun c11 => ?_)
      · replace h := ite_t c11 h
        obtain ⟨rfl, rfl, rfl⟩ := ret3 h
        exact k1 rfl H locs ls hW (lv_sub hl [] rfl)
      · replace h := ite_f c11 h
        refine lv_iload hx hb dX10_refers_51 (lv_at hl 3 rfl) ?_
        refine lv_iload_n hx hb dX10_refers_53 rfl (lv_at hl 1 rfl) ?_
        refine lv_icmp_gt (tgt := 98) hx hb dX10_refers_54 (by decide) (fun c12 => ?_) (fun c12 => ?_)
        · replace h := ite_t c12 h
          obtain ⟨rfl, rfl, rfl⟩ := ret3 h
          exact k1 rfl H locs ls hW (lv_sub hl [] rfl)
        · replace h := ite_f c12 h
          refine lv_aload_n hx hb dX10_refers_57 rfl (lv_at hl 0 rfl) ?_
          refine lv_iload_n hx hb dX10_refers_58 rfl (lv_at hl 1 rfl) ?_
          refine lv_iload hx hb dX10_refers_59 (lv_at hl 3 rfl) ?_
          refine lv_isub hx hb dX10_refers_61 ?_
          obtain ⟨k13, r14, qq15, h⟩ := bnd2_s h
          by_cases hk : k13 = 0
          case neg =>
            replace h := ite_f hk h
            obtain ⟨e90, e91, e92⟩ := ret3 h
            obtain ⟨e9k, e9x⟩ := kx k13 e90
            subst k
            subst x_K9
            subst y_K_45r
            rw [hQ]
            exact xcx_X10_198 hk hout hlk (List.Perm.refl _) hx hb hml hown hts hK hN hE hW (c_X10_sentenceAt l hfl D T A ad hok Z x_K_45 (v1_45 - v6_45) k13 r14 qq15) ⟨Nat.le_of_ble_eq_true rfl, Nat.le_of_ble_eq_true rfl⟩ rfl hl.1 rfl (Nat.le_of_ble_eq_true rfl) dX10_refers_62
          replace h := ite_t hk h
          subst hk
          refine xc0_X10_198 hx hb hml hown hts hK hN hE hW (c_X10_sentenceAt l hfl D T A ad hok Z x_K_45 (v1_45 - v6_45) 0 r14 qq15) ⟨Nat.le_of_ble_eq_true rfl, Nat.le_of_ble_eq_true rfl⟩ rfl hl.1 rfl (Nat.le_of_ble_eq_true rfl) dX10_refers_62 ⟨Nat.zero_le _, Nat.zero_le _⟩ (fun H locs hW => ?_)
          obtain ⟨g16, h⟩ := grd_s h
          have h4hs17 : r14 < 4 := of_decide_eq_true g16
          have hs17 : r14 < 5 := by omega
          refine lv_astore (lv' := [(7, .ref (ad (9 + r14) 0)), (0, .ref (ad 0 0)), (1, .int v1_45), (5, .int v5_45), (6, .int v6_45)]) hx hb dX10_refers_65 hl (by decide) rfl (fun ls hl => ?_)
          refine lv_aload_n hx hb dX10_refers_67 rfl (lv_at hl 1 rfl) ?_
          refine fg_X10_33 (v := .ref (ad 4 0)) hx hb hts hown hK hW 0 rfl (by rw [← hk3]; rfl) dX10_refers_68 ?_
          refine lv_aload hx hb dX10_refers_71 (lv_at hl 0 rfl) ?_
          refine lv_iload_n hx hb dX10_refers_73 rfl (lv_at hl 2 rfl) ?_
          refine lv_iload hx hb dX10_refers_74 (lv_at hl 4 rfl) ?_
          refine lv_isub hx hb dX10_refers_76 ?_
          refine lv_aload hx hb dX10_refers_77 (lv_at hl 0 rfl) ?_
          refine fg_X10_210 (v := .int (x_K_45 (9 + r14) 0 0)) hx hb hts hN hown hK (hW.perm (fo1 (k1 := (9 + r14)) (mS hs17) (cS hs17))) 0 rfl rfl dX10_refers_79 ?_
          refine lv_iload hx hb dX10_refers_82 (lv_at hl 3 rfl) ?_
          obtain ⟨r18, y_o19, qq20, h⟩ := bnd2_s h
          replace hW := hW.perm (fo2 (k1 := 4) (k2 := (9 + r14)) (by decide) (mS hs17) (by omega) rfl (cS hs17))
          refine cl_X10_400 hx hb hml hown hts hK hN hW (c_X5_lookIn l D T A (ad 4) (ad (9 + r14)) (oc_X10 T (ad 0) (bb ad) (x_K_45 0) ++ (wkL T ad x_K_45 ((L18.erase 4).erase (9 + r14)) ++ Z)) (x_K_45 4) (x_K_45 (9 + r14)) (v1_45 - v6_45) (x_K_45 (9 + r14) 0 0) v5_45 r18 y_o19 qq20) ⟨Nat.le_of_ble_eq_true rfl, Nat.le_of_ble_eq_true rfl⟩ hl.1 rfl (Nat.le_of_ble_eq_true rfl) dX10_refers_84 ⟨Nat.zero_le _, Nat.zero_le _⟩ rfl (fun H locs hW => ?_)
          obtain ⟨z_K21, ez_K21⟩ : ∃ y : Nat → Ob, y = va_up x_K_45 4 y_o19 := ⟨_, rfl⟩
          replace h := lb_at ez_K21 h
          replace hW := hW.perm (ba2 (K' := z_K21) (k1 := 4) (k2 := (9 + r14)) (by decide) (mS hs17) (by omega) (by rw [ez_K21, va_up_ne _ _ (by omega)]) (fun k9 _ n0 n1 => by rw [ez_K21, va_up_ne _ _ n0]) (by rw [ez_K21, va_up_self]; exact rfl) (by rw [ez_K21, va_up_ne _ _ (by omega)]; exact (cS hs17)))
          refine lv_if_eq (tgt := 92) hx hb dX10_refers_87 (by decide) (fun c22 => ?_) (fun c22 => ?_)
          · replace h := ite_t c22 h
            obtain ⟨w6_23, ew6_23⟩ : ∃ y : Int32, y = v6_45 + 1 := ⟨_, rfl⟩
            replace h := lb_at ew6_23 h
            refine lv_iinc (v := w6_23) (lv' := [(6, .int w6_23), (7, .ref (ad (9 + r14) 0)), (0, .ref (ad 0 0)), (1, .int v1_45), (5, .int v5_45)]) hx hb dX10_refers_92 hl (k := 4) rfl (by rw [ew6_23]; rfl) (by decide) rfl (fun ls hl => ?_)
            refine lv_goto (tgt := 45) hx hb dX10_refers_95 (by decide) ?_
            exact ih _ _ _ _ H locs ls _ _ _ hW (lv_sub hl [2, 3, 4, 0] rfl) h k1 k2 kx
          · replace h := ite_f c22 h
            obtain ⟨rfl, rfl, rfl⟩ := ret3 h
            exact k2 rfl H locs ls hW (lv_sub hl [] rfl)
  rw [f_X10_refers] at h
  suffices hm : ∀ (H : Heap) (locs : List Loc), Wd D A s.heap (oc_X10 T (ad 0) (bb ad) (x_K 0) ++ (wkL T ad x_K L18 ++ Z)) H locs → W p l e (rmx 7 k) s m args below meth c H locs 0 0 Q (F0 m 0 ls []) from hm _ _ hW
  intro H locs hW
  refine lv_aload_n hx hb dX10_refers_0 rfl (lv_at hl 2 rfl) ?_
  refine lv_iload_n hx hb dX10_refers_1 rfl (lv_at hl 3 rfl) ?_
  refine lv_iconst (v := 1) hx hb dX10_refers_2 (by decide) ?_
  obtain ⟨r1, qq2, h⟩ := bnd1_s h
  replace hW := hW.perm (fo1 (k1 := (9 + q2)) (mS hq2) (cS hq2))
  refine cl_X10_395 hx hb hml hown hts hK hN hW (c_X6_firstOf l D T A (ad (9 + q2)) (oc_X10 T (ad 0) (bb ad) (x_K 0) ++ (wkL T ad x_K (L18.erase (9 + q2)) ++ Z)) (x_K (9 + q2)) p3 1 r1 qq2) ⟨Nat.le_of_ble_eq_true rfl, Nat.le_of_ble_eq_true rfl⟩ hl.1 rfl (Nat.le_of_ble_eq_true rfl) dX10_refers_3 ⟨Nat.zero_le _, Nat.zero_le _⟩ rfl (fun H locs hW => ?_)
  replace hW := hW.perm (fo1 (k1 := (9 + q2)) (mS hq2) (cS hq2)).symm
  refine lv_istore (lv' := [(4, .int r1), (0, .ref (ad 0 0)), (1, .int p1), (2, .ref (ad (9 + q2) 0)), (3, .int p3)]) hx hb dX10_refers_6 hl (by decide) rfl (fun ls hl => ?_)
  refine lv_iload hx hb dX10_refers_8 (lv_at hl 0 rfl) ?_
  refine lv_iconst (v := (-1)) hx hb dX10_refers_10 (by decide) ?_
  refine lv_icmp_ne (tgt := 16) hx hb dX10_refers_11 (by decide) (fun c3 => ?_) (fun c3 => ?_)
  · replace h := ite_f c3 h
    refine lv_aload_n hx hb dX10_refers_16 rfl (lv_at hl 3 rfl) ?_
    refine lv_iload_n hx hb dX10_refers_17 rfl (lv_at hl 4 rfl) ?_
    refine lv_iload hx hb dX10_refers_18 (lv_at hl 0 rfl) ?_
    obtain ⟨r4, qq5, h⟩ := bnd1_s h
    replace hW := hW.perm (fo1 (k1 := (9 + q2)) (mS hq2) (cS hq2))
    refine cl_X10_398 hx hb hml hown hts hK hN hW (c_X6_featuresOf l D T A (ad (9 + q2)) (oc_X10 T (ad 0) (bb ad) (x_K 0) ++ (wkL T ad x_K (L18.erase (9 + q2)) ++ Z)) (x_K (9 + q2)) p3 r1 r4 qq5) ⟨Nat.le_of_ble_eq_true rfl, Nat.le_of_ble_eq_true rfl⟩ hl.1 rfl (Nat.le_of_ble_eq_true rfl) dX10_refers_20 ⟨Nat.zero_le _, Nat.zero_le _⟩ rfl (fun H locs hW => ?_)
    replace hW := hW.perm (fo1 (k1 := (9 + q2)) (mS hq2) (cS hq2)).symm
    refine lv_istore (lv' := [(5, .int r4), (4, .int r1), (0, .ref (ad 0 0)), (1, .int p1), (2, .ref (ad (9 + q2) 0)), (3, .int p3)]) hx hb dX10_refers_23 hl (by decide) rfl (fun ls hl => ?_)
    refine lv_aload_n hx hb dX10_refers_25 rfl (lv_at hl 2 rfl) ?_
    refine fg_X10_33 (v := .ref (ad 4 0)) hx hb hts hown hK hW 0 rfl (by rw [← hk3]; rfl) dX10_refers_26 ?_
    refine lv_aload_n hx hb dX10_refers_29 rfl (lv_at hl 4 rfl) ?_
    refine lv_iload_n hx hb dX10_refers_30 rfl (lv_at hl 3 rfl) ?_
    refine lv_iload_n hx hb dX10_refers_31 rfl (lv_at hl 5 rfl) ?_
    refine lv_iload hx hb dX10_refers_32 (lv_at hl 0 rfl) ?_
    obtain ⟨r6, y_o7, qq8, h⟩ := bnd2_s h
    replace hW := hW.perm (fo2 (k1 := 4) (k2 := (9 + q2)) (by decide) (mS hq2) (by omega) rfl (cS hq2))
    refine cl_X10_400 hx hb hml hown hts hK hN hW (c_X5_lookIn l D T A (ad 4) (ad (9 + q2)) (oc_X10 T (ad 0) (bb ad) (x_K 0) ++ (wkL T ad x_K ((L18.erase 4).erase (9 + q2)) ++ Z)) (x_K 4) (x_K (9 + q2)) p1 p3 r4 r6 y_o7 qq8) ⟨Nat.le_of_ble_eq_true rfl, Nat.le_of_ble_eq_true rfl⟩ hl.1 rfl (Nat.le_of_ble_eq_true rfl) dX10_refers_34 ⟨Nat.zero_le _, Nat.zero_le _⟩ rfl (fun H locs hW => ?_)
    obtain ⟨z_K9, ez_K9⟩ : ∃ y : Nat → Ob, y = va_up x_K 4 y_o7 := ⟨_, rfl⟩
    replace h := lb_at ez_K9 h
    replace hW := hW.perm (ba2 (K' := z_K9) (k1 := 4) (k2 := (9 + q2)) (by decide) (mS hq2) (by omega) (by rw [ez_K9, va_up_ne _ _ (by omega)]) (fun k9 _ n0 n1 => by rw [ez_K9, va_up_ne _ _ n0]) (by rw [ez_K9, va_up_self]; exact rfl) (by rw [ez_K9, va_up_ne _ _ (by omega)]; exact (cS hq2)))
    refine lv_if_eq (tgt := 42) hx hb dX10_refers_37 (by decide) (fun c10 => ?_) (fun c10 => ?_)
    · replace h := ite_t c10 h
      refine lv_iconst (v := 1) hx hb dX10_refers_42 (by decide) ?_
      refine lv_istore (lv' := [(6, .int 1), (5, .int r4), (4, .int r1), (0, .ref (ad 0 0)), (1, .int p1), (2, .ref (ad (9 + q2) 0)), (3, .int p3)]) hx hb dX10_refers_43 hl (by decide) rfl (fun ls hl => ?_)
      obtain ⟨code25, o6_u24, y_K_u24, qq26, h⟩ := bnd3_s h
      refine L45 200 _ _ _ _ H locs ls code25 o6_u24 y_K_u24 hW (lv_sub hl [3, 4, 1, 0] rfl) qq26 (fun hc H locs ls hW hl => ?_) (fun hc H locs ls hW hl => ?_) (fun k1 hc => ?_)
      · replace h := ite_f (by omega) h
        replace h := ite_t hc h
        refine lv_iconst (v := 0) hx hb dX10_refers_98 (by decide) ?_
        obtain ⟨e90, e91, e92⟩ := ret3 h
        subst k
        subst r
        subst x_K9
        rw [hQ]
        exact x_retz hx hb hr hlk hW (by decide) dX10_refers_99
      · replace h := ite_f (by omega) h
        replace h := ite_f (by rw [hc]; decide) h
        refine lv_iconst (v := 1) hx hb dX10_refers_90 (by decide) ?_
        obtain ⟨e90, e91, e92⟩ := ret3 h
        subst k
        subst r
        subst x_K9
        rw [hQ]
        exact x_retz hx hb hr hlk hW (by decide) dX10_refers_91
      · replace h := ite_t (by omega) h
        obtain ⟨e90, e91, e92⟩ := ret3 h
        exact ⟨by omega, e92⟩
    · replace h := ite_f c10 h
      refine lv_iconst (v := 1) hx hb dX10_refers_40 (by decide) ?_
      obtain ⟨e90, e91, e92⟩ := ret3 h
      subst k
      subst r
      subst x_K9
      rw [hQ]
      exact x_retz hx hb hr hlk hW (by decide) dX10_refers_41
  · replace h := ite_t c3 h
    refine lv_iconst (v := 0) hx hb dX10_refers_14 (by decide) ?_
    obtain ⟨e90, e91, e92⟩ := ret3 h
    subst k
    subst r
    subst x_K9
    rw [hQ]
    exact x_retz hx hb hr hlk hW (by decide) dX10_refers_15
set_option maxHeartbeats 4000000 in
set_option maxRecDepth 100000 in
theorem c_X10_referent (l : Launch) (hfl : l.stackTraces = false) (D : va_G) (T : Nat → ClassId) (A : Nat → Prop) (ad : Nat → Nat → Nat) (hok : okad ad) (Z : va_W) (x_K : Nat → Ob) (p1 : Int32) (p2 : Int32)  (k : Nat) (r : Int32) (x_K9 : Nat → Ob) (h : f_X10_referent x_K p1 p2 = some (k, r, x_K9)) : vx_Met l yX10_referent (Cond.code yX10_referent cX10_referent 4 (some .int) :: wsL_law) (rmx 8 k) (Px D T A (oc_X10 T (ad 0) (bb ad) (x_K 0) ++ (wkL T ad x_K L18 ++ Z)) [.ref (ad 0 0), .int p1, .int p2]) (Qxi D A (oc_X10 T (ad 0) (bb ad) (x_K9 0) ++ (wkL T ad x_K9 L18 ++ Z)) k r) (XCx D A (oc_X10 T (ad 0) (bb ad) (x_K9 0) ++ (wkL T ad x_K9 L18 ++ Z)) k) (ex1 k) (ex6 k) A := by
  refine vx_ofW (cc := cX10_referent) (maxL := 4) (ret := (some .int)) (by decide +kernel) rfl ?_
  intro p e s m args below meth c s₁ B hml hout hv
  obtain ⟨ha, hP, hK, hD, hN, hE⟩ := hv
  have hx := B.exec
  have hb := B.bytes
  have hr := B.returns
  have hlk := B.notSynchronized
  have hts : ∀ w ∈ wsL_law, w.before args s = true := fun w hw => atoms_spec B.pre w (List.mem_cons_of_mem _ hw)
  have hown : s.vm.findClass RX10 = some m.cls := findClass_of_methodNamed B.named
  obtain ⟨hk0, hk1, hk2, hk3, hk4, hk5, hk6, hk7, hk9, hk10⟩ := id hok
  have hW : Wd D A s.heap (oc_X10 T (ad 0) (bb ad) (x_K 0) ++ (wkL T ad x_K L18 ++ Z)) s.heap [] := ⟨hP, hD, va_S.rf⟩
  have hl := lv_entry [.ref (ad 0 0), .int p1, .int p2] (n := 4) (Nat.le_of_ble_eq_true rfl)
  refine W.eq (en_eq ha) ?_
  generalize (lg_sl [.ref (ad 0 0), .int p1, .int p2] ++ List.replicate (4 - (lg_sl [.ref (ad 0 0), .int p1, .int p2]).length) Slot.unset).toArray = ls at hl ⊢
  have hl : lv_has ls 4 [(0, .ref (ad 0 0)), (1, .int p1), (2, .int p2)] := hl
  clear hP hD B ha
  obtain ⟨Q, hQ⟩ : ∃ Q, Q = vx_MQ below (Qxi D A (oc_X10 T (ad 0) (bb ad) (x_K9 0) ++ (wkL T ad x_K9 L18 ++ Z)) k r) (XCx D A (oc_X10 T (ad 0) (bb ad) (x_K9 0) ++ (wkL T ad x_K9 L18 ++ Z)) k) args s (ex1 k) (ex6 k) A := ⟨_, rfl⟩
  rw [← hQ]
  change W p l e (rmx 8 k) s m args below meth c s.heap [] 0 0 Q (F0 m 0 ls [])
  rw [f_X10_referent] at h
  suffices hm : ∀ (H : Heap) (locs : List Loc), Wd D A s.heap (oc_X10 T (ad 0) (bb ad) (x_K 0) ++ (wkL T ad x_K L18 ++ Z)) H locs → W p l e (rmx 8 k) s m args below meth c H locs 0 0 Q (F0 m 0 ls []) from hm _ _ hW
  intro H locs hW
  refine lv_aload_n hx hb dX10_referent_0 rfl (lv_at hl 0 rfl) ?_
  refine lv_iload_n hx hb dX10_referent_1 rfl (lv_at hl 1 rfl) ?_
  obtain ⟨k1, r2, qq3, h⟩ := bnd2_s h
  by_cases hk : k1 = 0
  case neg =>
    replace h := ite_f hk h
    obtain ⟨e90, e91, e92⟩ := ret3 h
    subst k
    subst x_K9
    rw [hQ]
    exact xcx_X10_198 hk hout hlk (List.Perm.refl _) hx hb hml hown hts hK hN hE hW (c_X10_sentenceAt l hfl D T A ad hok Z x_K p1 k1 r2 qq3) ⟨Nat.le_of_ble_eq_true rfl, Nat.le_of_ble_eq_true rfl⟩ rfl hl.1 rfl (Nat.le_of_ble_eq_true rfl) dX10_referent_2
  replace h := ite_t hk h
  subst hk
  refine xc0_X10_198 hx hb hml hown hts hK hN hE hW (c_X10_sentenceAt l hfl D T A ad hok Z x_K p1 0 r2 qq3) ⟨Nat.le_of_ble_eq_true rfl, Nat.le_of_ble_eq_true rfl⟩ rfl hl.1 rfl (Nat.le_of_ble_eq_true rfl) dX10_referent_2 ⟨Nat.zero_le _, Nat.zero_le _⟩ (fun H locs hW => ?_)
  obtain ⟨g4, h⟩ := grd_s h
  have h4hs5 : r2 < 4 := of_decide_eq_true g4
  have hs5 : r2 < 5 := by omega
  refine lv_astore_n (lv' := [(3, .ref (ad (9 + r2) 0)), (0, .ref (ad 0 0)), (1, .int p1), (2, .int p2)]) hx hb dX10_referent_5 rfl hl (by decide) rfl (fun ls hl => ?_)
  refine lv_aload_n hx hb dX10_referent_6 rfl (lv_at hl 0 rfl) ?_
  refine lv_iload_n hx hb dX10_referent_7 rfl (lv_at hl 3 rfl) ?_
  obtain ⟨k6, qq7, h⟩ := bnd1_s h
  by_cases hk : k6 = 0
  case neg =>
    replace h := ite_f hk h
    obtain ⟨e90, e91, e92⟩ := ret3 h
    subst k
    subst x_K9
    rw [hQ]
    exact xcx_X10_213 hk hout hlk (List.Perm.refl _) hx hb hml hown hts hK hN hE hW (c_X10_requirePlace l hfl D T A ad hok Z x_K r2 p2 hs5 k6 qq7) ⟨Nat.le_of_ble_eq_true rfl, Nat.le_of_ble_eq_true rfl⟩ rfl hl.1 rfl (Nat.le_of_ble_eq_true rfl) dX10_referent_8
  replace h := ite_t hk h
  subst hk
  refine xc0_X10_213 hx hb hml hown hts hK hN hE hW (c_X10_requirePlace l hfl D T A ad hok Z x_K r2 p2 hs5 0 qq7) ⟨Nat.le_of_ble_eq_true rfl, Nat.le_of_ble_eq_true rfl⟩ rfl hl.1 rfl (Nat.le_of_ble_eq_true rfl) dX10_referent_8 ⟨Nat.zero_le _, Nat.zero_le _⟩ (fun H locs hW => ?_)
  refine lv_aload_n hx hb dX10_referent_11 rfl (lv_at hl 1 rfl) ?_
  refine lv_iload_n hx hb dX10_referent_12 rfl (lv_at hl 2 rfl) ?_
  obtain ⟨z_K8, qq9, h⟩ := bnd1_s h
  refine cl_X10_234 hx hb hml hown hts hK hN hW (c_X10_strikeUpTo l D T A ad hok Z x_K p1 z_K8 qq9) ⟨Nat.le_of_ble_eq_true rfl, Nat.le_of_ble_eq_true rfl⟩ hl.1 rfl (Nat.le_of_ble_eq_true rfl) dX10_referent_13 ⟨Nat.zero_le _, Nat.zero_le _⟩ rfl (fun H locs hW => ?_)
  refine lv_aload_n hx hb dX10_referent_16 rfl (lv_at hl 1 rfl) ?_
  refine lv_iload_n hx hb dX10_referent_17 rfl (lv_at hl 2 rfl) ?_
  refine lv_aload_n hx hb dX10_referent_18 rfl (lv_at hl 0 rfl) ?_
  refine lv_iload_n hx hb dX10_referent_19 rfl (lv_at hl 3 rfl) ?_
  obtain ⟨k10, r11, z_K12, qq13, h⟩ := bnd3_s h
  by_cases hk : k10 = 0
  case neg =>
    replace h := ite_f hk h
    obtain ⟨e90, e91, e92⟩ := ret3 h
    subst k
    subst x_K9
    rw [hQ]
    exact xcx_X10_237 hk hout hlk (List.Perm.refl _) hx hb hml hown hts hK hN hE hW (c_X10_refers l hfl D T A ad hok Z z_K8 p1 r2 p2 hs5 k10 r11 z_K12 qq13) ⟨Nat.le_of_ble_eq_true rfl, Nat.le_of_ble_eq_true rfl⟩ rfl hl.1 rfl (Nat.le_of_ble_eq_true rfl) dX10_referent_20
  replace h := ite_t hk h
  subst hk
  refine xc0_X10_237 hx hb hml hown hts hK hN hE hW (c_X10_refers l hfl D T A ad hok Z z_K8 p1 r2 p2 hs5 0 r11 z_K12 qq13) ⟨Nat.le_of_ble_eq_true rfl, Nat.le_of_ble_eq_true rfl⟩ rfl hl.1 rfl (Nat.le_of_ble_eq_true rfl) dX10_referent_20 ⟨Nat.zero_le _, Nat.zero_le _⟩ (fun H locs hW => ?_)
  refine lv_if_ne (tgt := 28) hx hb dX10_referent_23 (by decide) (fun c14 => ?_) (fun c14 => ?_)
  · replace h := ite_f c14 h
    refine lv_bipush (v := 10) hx hb dX10_referent_28 (by decide) ?_
    refine lv_aload_n hx hb dX10_referent_30 rfl (lv_at hl 1 rfl) ?_
    refine fg_X10_33 (v := .ref (ad 4 0)) hx hb hts hown hK hW 0 rfl (by rw [← hk3]; rfl) dX10_referent_31 ?_
    refine fg_X10_241 (v := .int (z_K12 4 0 0)) hx hb hts hN hown hK (hW.perm (fo1 (k1 := 4) (by decide) rfl)) 0 rfl rfl dX10_referent_34 ?_
    refine lv_imul hx hb dX10_referent_37 ?_
    refine lv_aload_n hx hb dX10_referent_38 rfl (lv_at hl 1 rfl) ?_
    refine fg_X10_33 (v := .ref (ad 4 0)) hx hb hts hown hK hW 0 rfl (by rw [← hk3]; rfl) dX10_referent_39 ?_
    refine fg_X10_244 (v := .int (z_K12 4 1 0)) hx hb hts hN hown hK (hW.perm (fo1 (k1 := 4) (by decide) rfl)) 0 rfl rfl dX10_referent_42 ?_
    refine lv_iadd hx hb dX10_referent_45 ?_
    obtain ⟨e90, e91, e92⟩ := ret3 h
    subst k
    subst r
    subst x_K9
    rw [hQ]
    exact x_reti hx hb hr hlk hW dX10_referent_46
  · replace h := ite_t c14 h
    refine lv_iconst (v := (-1)) hx hb dX10_referent_26 (by decide) ?_
    obtain ⟨e90, e91, e92⟩ := ret3 h
    subst k
    subst r
    subst x_K9
    rw [hQ]
    exact x_reti hx hb hr hlk hW dX10_referent_27
set_option maxHeartbeats 4000000 in
set_option maxRecDepth 100000 in
theorem c_X10_requireSpan (l : Launch) (hfl : l.stackTraces = false) (D : va_G) (T : Nat → ClassId) (A : Nat → Prop) (ad : Nat → Nat → Nat) (hok : okad ad) (Z : va_W) (x_K : Nat → Ob) (q1 : Nat) (p2 : Int32) (p3 : Int32) (hq1 : q1 < 5) (k : Nat) (h : f_X10_requireSpan x_K q1 p2 p3 = some k) : vx_Met l yX10_requireSpan (Cond.code yX10_requireSpan cX10_requireSpan 3 none :: wsL_law) (rmx 6 k) (Px D T A (oc_X10 T (ad 0) (bb ad) (x_K 0) ++ (wkL T ad x_K L18 ++ Z)) [.ref (ad (9 + q1) 0), .int p2, .int p3]) (Qxv D A (oc_X10 T (ad 0) (bb ad) (x_K 0) ++ (wkL T ad x_K L18 ++ Z)) k) (XCx D A (oc_X10 T (ad 0) (bb ad) (x_K 0) ++ (wkL T ad x_K L18 ++ Z)) k) (ex1 k) (ex6 k) A := by
  refine vx_ofW (cc := cX10_requireSpan) (maxL := 3) (ret := none) (by decide +kernel) rfl ?_
  intro p e s m args below meth c s₁ B hml hout hv
  obtain ⟨ha, hP, hK, hD, hN, hE⟩ := hv
  have hx := B.exec
  have hb := B.bytes
  have hr := B.returns
  have hlk := B.notSynchronized
  have hts : ∀ w ∈ wsL_law, w.before args s = true := fun w hw => atoms_spec B.pre w (List.mem_cons_of_mem _ hw)
  have hown : s.vm.findClass RX10 = some m.cls := findClass_of_methodNamed B.named
  obtain ⟨hk0, hk1, hk2, hk3, hk4, hk5, hk6, hk7, hk9, hk10⟩ := id hok
  have hW : Wd D A s.heap (oc_X10 T (ad 0) (bb ad) (x_K 0) ++ (wkL T ad x_K L18 ++ Z)) s.heap [] := ⟨hP, hD, va_S.rf⟩
  have hl := lv_entry [.ref (ad (9 + q1) 0), .int p2, .int p3] (n := 3) (Nat.le_of_ble_eq_true rfl)
  refine W.eq (en_eq ha) ?_
  generalize (lg_sl [.ref (ad (9 + q1) 0), .int p2, .int p3] ++ List.replicate (3 - (lg_sl [.ref (ad (9 + q1) 0), .int p2, .int p3]).length) Slot.unset).toArray = ls at hl ⊢
  have hl : lv_has ls 3 [(0, .ref (ad (9 + q1) 0)), (1, .int p2), (2, .int p3)] := hl
  clear hP hD B ha
  obtain ⟨Q, hQ⟩ : ∃ Q, Q = vx_MQ below (Qxv D A (oc_X10 T (ad 0) (bb ad) (x_K 0) ++ (wkL T ad x_K L18 ++ Z)) k) (XCx D A (oc_X10 T (ad 0) (bb ad) (x_K 0) ++ (wkL T ad x_K L18 ++ Z)) k) args s (ex1 k) (ex6 k) A := ⟨_, rfl⟩
  rw [← hQ]
  change W p l e (rmx 6 k) s m args below meth c s.heap [] 0 0 Q (F0 m 0 ls [])
  rw [f_X10_requireSpan] at h
  suffices hm : ∀ (H : Heap) (locs : List Loc), Wd D A s.heap (oc_X10 T (ad 0) (bb ad) (x_K 0) ++ (wkL T ad x_K L18 ++ Z)) H locs → W p l e (rmx 6 k) s m args below meth c H locs 0 0 Q (F0 m 0 ls []) from hm _ _ hW
  intro H locs hW
  refine lv_iload_n hx hb dX10_requireSpan_0 rfl (lv_at hl 1 rfl) ?_
  refine lv_aload_n hx hb dX10_requireSpan_1 rfl (lv_at hl 0 rfl) ?_
  refine fg_X10_210 (v := .int (x_K (9 + q1) 0 0)) hx hb hts hN hown hK (hW.perm (fo1 (k1 := (9 + q1)) (mS hq1) (cS hq1))) 0 rfl rfl dX10_requireSpan_2 ?_
  obtain ⟨r1, qq2, h⟩ := bnd1_s h
  refine cl_X10_87 hx hb hml hown hts hK hN hW (c_X10_isBelow l D T A (oc_X10 T (ad 0) (bb ad) (x_K 0) ++ (wkL T ad x_K L18 ++ Z)) p2 (x_K (9 + q1) 0 0) r1 qq2) ⟨Nat.le_of_ble_eq_true rfl, Nat.le_of_ble_eq_true rfl⟩ hl.1 rfl (Nat.le_of_ble_eq_true rfl) dX10_requireSpan_5 ⟨Nat.zero_le _, Nat.zero_le _⟩ rfl (fun H locs hW => ?_)
  refine lv_if_eq (tgt := 26) hx hb dX10_requireSpan_8 (by decide) (fun c3 => ?_) (fun c3 => ?_)
  · replace h := ite_t c3 h
    have e90 := ret1 h
    subst k
    rw [hQ]
    exact xtw_177_181 hx hb hfl hown hts hE hW hml hl.1 hout hlk (List.mem_of_getElem? (i := 25) rfl) dX10_requireSpan_26 dX10_requireSpan_29 dX10_requireSpan_30 dX10_requireSpan_33 dX10_requireSpan_36 (by decide) (Nat.le_of_ble_eq_true rfl)
  · replace h := ite_f c3 h
    refine lv_iload_n hx hb dX10_requireSpan_11 rfl (lv_at hl 2 rfl) ?_
    refine lv_iconst (v := 1) hx hb dX10_requireSpan_12 (by decide) ?_
    refine lv_icmp_lt (tgt := 26) hx hb dX10_requireSpan_13 (by decide) (fun c4 => ?_) (fun c4 => ?_)
    · replace h := ite_t c4 h
      have e90 := ret1 h
      subst k
      rw [hQ]
      exact xtw_177_181 hx hb hfl hown hts hE hW hml hl.1 hout hlk (List.mem_of_getElem? (i := 25) rfl) dX10_requireSpan_26 dX10_requireSpan_29 dX10_requireSpan_30 dX10_requireSpan_33 dX10_requireSpan_36 (by decide) (Nat.le_of_ble_eq_true rfl)
    · replace h := ite_f c4 h
      refine lv_iload_n hx hb dX10_requireSpan_16 rfl (lv_at hl 2 rfl) ?_
      refine lv_aload_n hx hb dX10_requireSpan_17 rfl (lv_at hl 0 rfl) ?_
      refine fg_X10_210 (v := .int (x_K (9 + q1) 0 0)) hx hb hts hN hown hK (hW.perm (fo1 (k1 := (9 + q1)) (mS hq1) (cS hq1))) 0 rfl rfl dX10_requireSpan_18 ?_
      refine lv_iload_n hx hb dX10_requireSpan_21 rfl (lv_at hl 1 rfl) ?_
      refine lv_isub hx hb dX10_requireSpan_22 ?_
      refine lv_icmp_le (tgt := 37) hx hb dX10_requireSpan_23 (by decide) (fun c5 => ?_) (fun c5 => ?_)
      · replace h := ite_t c5 h
        have e90 := ret1 h
        subst k
        rw [hQ]
        exact x_retv hx hb hr hlk hW dX10_requireSpan_37
      · replace h := ite_f c5 h
        have e90 := ret1 h
        subst k
        rw [hQ]
        exact xtw_177_181 hx hb hfl hown hts hE hW hml hl.1 hout hlk (List.mem_of_getElem? (i := 25) rfl) dX10_requireSpan_26 dX10_requireSpan_29 dX10_requireSpan_30 dX10_requireSpan_33 dX10_requireSpan_36 (by decide) (Nat.le_of_ble_eq_true rfl)
set_option maxHeartbeats 4000000 in
set_option maxRecDepth 100000 in
theorem c_X10_findGiven (l : Launch) (hfl : l.stackTraces = false) (D : va_G) (T : Nat → ClassId) (A : Nat → Prop) (ad : Nat → Nat → Nat) (hok : okad ad) (Z : va_W) (x_K : Nat → Ob) (p1 : Int32) (q2 : Nat) (hq2 : q2 < 5) (k : Nat) (x_K9 : Nat → Ob) (h : f_X10_findGiven x_K p1 q2 = some (k, x_K9)) : vx_Met l yX10_findGiven (Cond.code yX10_findGiven cX10_findGiven 4 none :: wsL_law) (rmx 8 k) (Px D T A (oc_X10 T (ad 0) (bb ad) (x_K 0) ++ (wkL T ad x_K L18 ++ Z)) [.ref (ad 0 0), .int p1, .ref (ad (9 + q2) 0)]) (Qxv D A (oc_X10 T (ad 0) (bb ad) (x_K9 0) ++ (wkL T ad x_K9 L18 ++ Z)) k) (XCx D A (oc_X10 T (ad 0) (bb ad) (x_K9 0) ++ (wkL T ad x_K9 L18 ++ Z)) k) (ex1 k) (ex6 k) A := by
  refine vx_ofW (cc := cX10_findGiven) (maxL := 4) (ret := none) (by decide +kernel) rfl ?_
  intro p e s m args below meth c s₁ B hml hout hv
  obtain ⟨ha, hP, hK, hD, hN, hE⟩ := hv
  have hx := B.exec
  have hb := B.bytes
  have hr := B.returns
  have hlk := B.notSynchronized
  have hts : ∀ w ∈ wsL_law, w.before args s = true := fun w hw => atoms_spec B.pre w (List.mem_cons_of_mem _ hw)
  have hown : s.vm.findClass RX10 = some m.cls := findClass_of_methodNamed B.named
  obtain ⟨hk0, hk1, hk2, hk3, hk4, hk5, hk6, hk7, hk9, hk10⟩ := id hok
  have hW : Wd D A s.heap (oc_X10 T (ad 0) (bb ad) (x_K 0) ++ (wkL T ad x_K L18 ++ Z)) s.heap [] := ⟨hP, hD, va_S.rf⟩
  have hl := lv_entry [.ref (ad 0 0), .int p1, .ref (ad (9 + q2) 0)] (n := 4) (Nat.le_of_ble_eq_true rfl)
  refine W.eq (en_eq ha) ?_
  generalize (lg_sl [.ref (ad 0 0), .int p1, .ref (ad (9 + q2) 0)] ++ List.replicate (4 - (lg_sl [.ref (ad 0 0), .int p1, .ref (ad (9 + q2) 0)]).length) Slot.unset).toArray = ls at hl ⊢
  have hl : lv_has ls 4 [(0, .ref (ad 0 0)), (1, .int p1), (2, .ref (ad (9 + q2) 0))] := hl
  clear hP hD B ha
  obtain ⟨Q, hQ⟩ : ∃ Q, Q = vx_MQ below (Qxv D A (oc_X10 T (ad 0) (bb ad) (x_K9 0) ++ (wkL T ad x_K9 L18 ++ Z)) k) (XCx D A (oc_X10 T (ad 0) (bb ad) (x_K9 0) ++ (wkL T ad x_K9 L18 ++ Z)) k) args s (ex1 k) (ex6 k) A := ⟨_, rfl⟩
  rw [← hQ]
  change W p l e (rmx 8 k) s m args below meth c s.heap [] 0 0 Q (F0 m 0 ls [])
  have L2 : ∀ (n : Nat) (x_K_2 : Nat → Ob) (v1_2 : Int32) (j2_2 : Nat) (v3_2 : Int32) (hj2_2 : j2_2 < 5) (H : Heap) (locs : List Loc) (ls : Array Slot) (code : Nat) (o3_2r : Int32) (y_K_2r : Nat → Ob), Wd D A s.heap (oc_X10 T (ad 0) (bb ad) (x_K_2 0) ++ (wkL T ad x_K_2 L18 ++ Z)) H locs → lv_has ls 4 [(0, .ref (ad 0 0)), (1, .int v1_2), (2, .ref (ad (9 + j2_2) 0)), (3, .int v3_2)] → f_X10_findGiven_L2 n x_K_2 v1_2 j2_2 v3_2 = some (code, o3_2r, y_K_2r) → (code = 1 → ∀ (H : Heap) (locs : List Loc) (ls : Array Slot), Wd D A s.heap (oc_X10 T (ad 0) (bb ad) (y_K_2r 0) ++ (wkL T ad y_K_2r L18 ++ Z)) H locs → lv_has ls 4 [] → W p l e (rmx 8 k) s m args below meth c H locs 0 0 Q (F0 m 52 ls [])) → (∀ k1 : Nat, code = 100 + k1 → k = k1 ∧ x_K9 = y_K_2r) → W p l e (rmx 8 k) s m args below meth c H locs 0 0 Q (F0 m 2 ls []) := by
    intro n
    induction n with
    | zero =>
      intro x_K_2 v1_2 j2_2 v3_2 hj2_2 H locs ls code o3_2r y_K_2r hW hl h k1 kx
      rw [f_X10_findGiven_L2] at h
      cases h
    | succ n ih =>
      intro x_K_2 v1_2 j2_2 v3_2 hj2_2 H locs ls code o3_2r y_K_2r hW hl h k1 kx
      rw [f_X10_findGiven_L2] at h
      refine lv_iload_n hx hb dX10_findGiven_2 rfl (lv_at hl 3 rfl) ?_
      refine lv_aload_n hx hb dX10_findGiven_3 rfl (lv_at hl 0 rfl) ?_
      refine fg_X10_76 (v := .ref (ad 0 2)) hx hb hts hown hK hW 0 rfl rfl dX10_findGiven_4 ?_
      refine g_alen (v := 6) hx hb hK hW 2 0 rfl rfl rfl dX10_findGiven_7 ?_
      refine lv_icmp_ge (tgt := 52) hx hb dX10_findGiven_8 (by decide) (fun c1 => ?_) (fun c1 => ?_)
      · replace h := ite_t c1 h
        obtain ⟨rfl, rfl, rfl⟩ := ret3 h
        exact k1 rfl H locs ls hW (lv_sub hl [] rfl)
      · replace h := ite_f c1 h
        refine lv_aload_n hx hb dX10_findGiven_11 rfl (lv_at hl 0 rfl) ?_
        refine fg_X10_76 (v := .ref (ad 0 2)) hx hb hts hown hK hW 0 rfl rfl dX10_findGiven_12 ?_
        refine lv_iload_n hx hb dX10_findGiven_15 rfl (lv_at hl 3 rfl) ?_
        refine lv_iload_n hx hb dX10_findGiven_16 rfl (lv_at hl 3 rfl) ?_
        refine lv_aload_n hx hb dX10_findGiven_17 rfl (lv_at hl 2 rfl) ?_
        refine fg_X10_210 (v := .int (x_K_2 (9 + j2_2) 0 0)) hx hb hts hN hown hK (hW.perm (fo1 (k1 := (9 + j2_2)) (mS hj2_2) (cS hj2_2))) 0 rfl rfl dX10_findGiven_18 ?_
        refine lv_icmp_ge (tgt := 44) hx hb dX10_findGiven_21 (by decide) (fun c2 => ?_) (fun c2 => ?_)
        · replace h := ite_t c2 h
          refine lv_iconst (v := 0) hx hb dX10_findGiven_44 (by decide) ?_
          obtain ⟨g3, h⟩ := grd_s h
          refine g_iast (ws9 := oc_X10 T (ad 0) (bb ad) (((va_up x_K_2 0 (upo (x_K_2 0) 10 v3_2.toNatClampNeg 0))) 0) ++ (wkL T ad ((va_up x_K_2 0 (upo (x_K_2 0) 10 v3_2.toNatClampNeg 0))) L18 ++ Z)) hx hb hK hW 2 rfl g3 s10a dX10_findGiven_45 (fun H locs hW => ?_)
          obtain ⟨z_K4, ez_K4⟩ : ∃ y : Nat → Ob, y = va_up x_K_2 0 (upo (x_K_2 0) 10 v3_2.toNatClampNeg 0) := ⟨_, rfl⟩
          replace h := lb_at ez_K4 h
          rw [← ez_K4] at hW
          obtain ⟨w3_5, ew3_5⟩ : ∃ y : Int32, y = v3_2 + 1 := ⟨_, rfl⟩
          replace h := lb_at ew3_5 h
          refine lv_iinc (v := w3_5) (lv' := [(3, .int w3_5), (0, .ref (ad 0 0)), (1, .int v1_2), (2, .ref (ad (9 + j2_2) 0))]) hx hb dX10_findGiven_46 hl (k := 3) rfl (by rw [ew3_5]; rfl) (by decide) rfl (fun ls hl => ?_)
          refine lv_goto (tgt := 2) hx hb dX10_findGiven_49 (by decide) ?_
          exact ih _ _ _ _ hj2_2 H locs ls _ _ _ hW (lv_sub hl [1, 2, 3, 0] rfl) h k1 kx
        · replace h := ite_f c2 h
          refine lv_aload_n hx hb dX10_findGiven_24 rfl (lv_at hl 0 rfl) ?_
          refine lv_iload_n hx hb dX10_findGiven_25 rfl (lv_at hl 1 rfl) ?_
          refine lv_aload_n hx hb dX10_findGiven_26 rfl (lv_at hl 2 rfl) ?_
          refine lv_iload_n hx hb dX10_findGiven_27 rfl (lv_at hl 3 rfl) ?_
          obtain ⟨k6, r7, z_K8, qq9, h⟩ := bnd3_s h
          by_cases hk : k6 = 0
          case neg =>
            replace h := ite_f hk h
            obtain ⟨e90, e91, e92⟩ := ret3 h
            obtain ⟨e9k, e9x⟩ := kx k6 e90
            subst k
            subst x_K9
            subst y_K_2r
            rw [hQ]
            exact xcx_X10_237 hk hout hlk (List.Perm.refl _) hx hb hml hown hts hK hN hE hW (c_X10_refers l hfl D T A ad hok Z x_K_2 v1_2 j2_2 v3_2 hj2_2 k6 r7 z_K8 qq9) ⟨Nat.le_of_ble_eq_true rfl, Nat.le_of_ble_eq_true rfl⟩ rfl hl.1 rfl (Nat.le_of_ble_eq_true rfl) dX10_findGiven_28
          replace h := ite_t hk h
          subst hk
          refine xc0_X10_237 hx hb hml hown hts hK hN hE hW (c_X10_refers l hfl D T A ad hok Z x_K_2 v1_2 j2_2 v3_2 hj2_2 0 r7 z_K8 qq9) ⟨Nat.le_of_ble_eq_true rfl, Nat.le_of_ble_eq_true rfl⟩ rfl hl.1 rfl (Nat.le_of_ble_eq_true rfl) dX10_findGiven_28 ⟨Nat.zero_le _, Nat.zero_le _⟩ (fun H locs hW => ?_)
          refine lv_if_eq (tgt := 44) hx hb dX10_findGiven_31 (by decide) (fun c10 => ?_) (fun c10 => ?_)
          · replace h := ite_t c10 h
            refine lv_iconst (v := 0) hx hb dX10_findGiven_44 (by decide) ?_
            obtain ⟨g11, h⟩ := grd_s h
            refine g_iast (ws9 := oc_X10 T (ad 0) (bb ad) (((va_up z_K8 0 (upo (z_K8 0) 10 v3_2.toNatClampNeg 0))) 0) ++ (wkL T ad ((va_up z_K8 0 (upo (z_K8 0) 10 v3_2.toNatClampNeg 0))) L18 ++ Z)) hx hb hK hW 2 rfl g11 s10a dX10_findGiven_45 (fun H locs hW => ?_)
            obtain ⟨z_K12, ez_K12⟩ : ∃ y : Nat → Ob, y = va_up z_K8 0 (upo (z_K8 0) 10 v3_2.toNatClampNeg 0) := ⟨_, rfl⟩
            replace h := lb_at ez_K12 h
            rw [← ez_K12] at hW
            obtain ⟨w3_13, ew3_13⟩ : ∃ y : Int32, y = v3_2 + 1 := ⟨_, rfl⟩
            replace h := lb_at ew3_13 h
            refine lv_iinc (v := w3_13) (lv' := [(3, .int w3_13), (0, .ref (ad 0 0)), (1, .int v1_2), (2, .ref (ad (9 + j2_2) 0))]) hx hb dX10_findGiven_46 hl (k := 3) rfl (by rw [ew3_13]; rfl) (by decide) rfl (fun ls hl => ?_)
            refine lv_goto (tgt := 2) hx hb dX10_findGiven_49 (by decide) ?_
            exact ih _ _ _ _ hj2_2 H locs ls _ _ _ hW (lv_sub hl [1, 2, 3, 0] rfl) h k1 kx
          · replace h := ite_f c10 h
            refine lv_aload_n hx hb dX10_findGiven_34 rfl (lv_at hl 0 rfl) ?_
            refine fg_X10_33 (v := .ref (ad 4 0)) hx hb hts hown hK hW 0 rfl (by rw [← hk3]; rfl) dX10_findGiven_35 ?_
            refine fg_X10_404 (v := .int (z_K8 4 2 0)) hx hb hts hN hown hK (hW.perm (fo1 (k1 := 4) (by decide) rfl)) 0 rfl rfl dX10_findGiven_38 ?_
            refine lv_goto (tgt := 45) hx hb dX10_findGiven_41 (by decide) ?_
            obtain ⟨g14, h⟩ := grd_s h
            refine g_iast (ws9 := oc_X10 T (ad 0) (bb ad) (((va_up z_K8 0 (upo (z_K8 0) 10 v3_2.toNatClampNeg (z_K8 4 2 0)))) 0) ++ (wkL T ad ((va_up z_K8 0 (upo (z_K8 0) 10 v3_2.toNatClampNeg (z_K8 4 2 0)))) L18 ++ Z)) hx hb hK hW 2 rfl g14 s10a dX10_findGiven_45 (fun H locs hW => ?_)
            obtain ⟨z_K15, ez_K15⟩ : ∃ y : Nat → Ob, y = va_up z_K8 0 (upo (z_K8 0) 10 v3_2.toNatClampNeg (z_K8 4 2 0)) := ⟨_, rfl⟩
            replace h := lb_at ez_K15 h
            rw [← ez_K15] at hW
            obtain ⟨w3_16, ew3_16⟩ : ∃ y : Int32, y = v3_2 + 1 := ⟨_, rfl⟩
            replace h := lb_at ew3_16 h
            refine lv_iinc (v := w3_16) (lv' := [(3, .int w3_16), (0, .ref (ad 0 0)), (1, .int v1_2), (2, .ref (ad (9 + j2_2) 0))]) hx hb dX10_findGiven_46 hl (k := 3) rfl (by rw [ew3_16]; rfl) (by decide) rfl (fun ls hl => ?_)
            refine lv_goto (tgt := 2) hx hb dX10_findGiven_49 (by decide) ?_
            exact ih _ _ _ _ hj2_2 H locs ls _ _ _ hW (lv_sub hl [1, 2, 3, 0] rfl) h k1 kx
  rw [f_X10_findGiven] at h
  suffices hm : ∀ (H : Heap) (locs : List Loc), Wd D A s.heap (oc_X10 T (ad 0) (bb ad) (x_K 0) ++ (wkL T ad x_K L18 ++ Z)) H locs → W p l e (rmx 8 k) s m args below meth c H locs 0 0 Q (F0 m 0 ls []) from hm _ _ hW
  intro H locs hW
  refine lv_iconst (v := 0) hx hb dX10_findGiven_0 (by decide) ?_
  refine lv_istore_n (lv' := [(3, .int 0), (0, .ref (ad 0 0)), (1, .int p1), (2, .ref (ad (9 + q2) 0))]) hx hb dX10_findGiven_1 rfl hl (by decide) rfl (fun ls hl => ?_)
  obtain ⟨code18, o3_u17, y_K_u17, qq19, h⟩ := bnd3_s h
  refine L2 200 _ _ _ _ hq2 H locs ls code18 o3_u17 y_K_u17 hW (lv_sub hl [1, 2, 3, 0] rfl) qq19 (fun hc H locs ls hW hl => ?_) (fun k1 hc => ?_)
  · replace h := ite_f (by omega) h
    obtain ⟨e90, e91⟩ := ret2 h
    subst k
    subst x_K9
    rw [hQ]
    exact x_retv hx hb hr hlk hW dX10_findGiven_52
  · replace h := ite_t (by omega) h
    obtain ⟨e90, e91⟩ := ret2 h
    exact ⟨by omega, e91⟩
set_option maxHeartbeats 4000000 in
set_option maxRecDepth 100000 in
theorem c_X10_readAsNeeded (l : Launch) (hfl : l.stackTraces = false) (D : va_G) (T : Nat → ClassId) (A : Nat → Prop) (ad : Nat → Nat → Nat) (hok : okad ad) (Z : va_W) (x_K : Nat → Ob) (p1 : Int32)  (k : Nat) (r : Nat) (x_K9 : Nat → Ob) (h : f_X10_readAsNeeded x_K p1 = some (k, r, x_K9)) : vx_Met l yX10_readAsNeeded (Cond.code yX10_readAsNeeded cX10_readAsNeeded 3 (some (.object "ReadingChart$Chart")) :: wsL_law) (rmx 9 k) (Px D T A (oc_X10 T (ad 0) (bb ad) (x_K 0) ++ (wkL T ad x_K L18 ++ Z)) [.ref (ad 0 0), .int p1]) (Qxr D A (oc_X10 T (ad 0) (bb ad) (x_K9 0) ++ (wkL T ad x_K9 L18 ++ Z)) k (ad (14 + r) 0)) (XCx D A (oc_X10 T (ad 0) (bb ad) (x_K9 0) ++ (wkL T ad x_K9 L18 ++ Z)) k) (ex1 k) (ex6 k) A := by
  refine vx_ofW (cc := cX10_readAsNeeded) (maxL := 3) (ret := (some (.object "ReadingChart$Chart"))) (by decide +kernel) rfl ?_
  intro p e s m args below meth c s₁ B hml hout hv
  obtain ⟨ha, hP, hK, hD, hN, hE⟩ := hv
  have hx := B.exec
  have hb := B.bytes
  have hr := B.returns
  have hlk := B.notSynchronized
  have hts : ∀ w ∈ wsL_law, w.before args s = true := fun w hw => atoms_spec B.pre w (List.mem_cons_of_mem _ hw)
  have hown : s.vm.findClass RX10 = some m.cls := findClass_of_methodNamed B.named
  obtain ⟨hk0, hk1, hk2, hk3, hk4, hk5, hk6, hk7, hk9, hk10⟩ := id hok
  have hW : Wd D A s.heap (oc_X10 T (ad 0) (bb ad) (x_K 0) ++ (wkL T ad x_K L18 ++ Z)) s.heap [] := ⟨hP, hD, va_S.rf⟩
  have hl := lv_entry [.ref (ad 0 0), .int p1] (n := 3) (Nat.le_of_ble_eq_true rfl)
  refine W.eq (en_eq ha) ?_
  generalize (lg_sl [.ref (ad 0 0), .int p1] ++ List.replicate (3 - (lg_sl [.ref (ad 0 0), .int p1]).length) Slot.unset).toArray = ls at hl ⊢
  have hl : lv_has ls 3 [(0, .ref (ad 0 0)), (1, .int p1)] := hl
  clear hP hD B ha
  obtain ⟨Q, hQ⟩ : ∃ Q, Q = vx_MQ below (Qxr D A (oc_X10 T (ad 0) (bb ad) (x_K9 0) ++ (wkL T ad x_K9 L18 ++ Z)) k (ad (14 + r) 0)) (XCx D A (oc_X10 T (ad 0) (bb ad) (x_K9 0) ++ (wkL T ad x_K9 L18 ++ Z)) k) args s (ex1 k) (ex6 k) A := ⟨_, rfl⟩
  rw [← hQ]
  change W p l e (rmx 9 k) s m args below meth c s.heap [] 0 0 Q (F0 m 0 ls [])
  have J35 : ∀ (x_K_35 : Nat → Ob) (j2_35 : Nat) (hj2_35 : j2_35 < 5) (H : Heap) (locs : List Loc) (ls : Array Slot), Wd D A s.heap (oc_X10 T (ad 0) (bb ad) (x_K_35 0) ++ (wkL T ad x_K_35 L18 ++ Z)) H locs → lv_has ls 3 [(0, .ref (ad 0 0)), (2, .ref (ad (9 + j2_35) 0))] → f_X10_readAsNeeded_J35 x_K_35 j2_35 = some (k, r, x_K9) → W p l e (rmx 9 k) s m args below meth c H locs 0 0 Q (F0 m 35 ls []) := by
    intro x_K_35 j2_35 hj2_35 H locs ls hW hl h
    rw [f_X10_readAsNeeded_J35] at h
    refine lv_aload_n hx hb dX10_readAsNeeded_35 rfl (lv_at hl 1 rfl) ?_
    refine lv_aload_n hx hb dX10_readAsNeeded_36 rfl (lv_at hl 0 rfl) ?_
    refine fg_X10_76 (v := .ref (ad 0 2)) hx hb hts hown hK hW 0 rfl rfl dX10_readAsNeeded_37 ?_
    obtain ⟨y_o12, qq13, h⟩ := bnd1_s h
    replace hW := hW.perm (fo1 (k1 := (9 + j2_35)) (mS hj2_35) (cS hj2_35))
    replace hW := hW.perm (List.Perm.append_left (oc_X6 T (ad (9 + j2_35)) ((x_K_35 (9 + j2_35)))) rws)
    refine cl_X10_418 hx hb hml hown hts hK hN hW (c_X6_giveAll l D T A (ad (9 + j2_35)) (fun _ => ad 0 2) (oc_X10m T (ad 0) (bb ad) (x_K_35 0) ++ (wkL T ad x_K_35 (L18.erase (9 + j2_35)) ++ Z)) (x_K_35 (9 + j2_35)) (fun _ => x_K_35 0 10) y_o12 qq13) ⟨Nat.le_of_ble_eq_true rfl, Nat.le_of_ble_eq_true rfl⟩ hl.1 rfl (Nat.le_of_ble_eq_true rfl) dX10_readAsNeeded_40 ⟨Nat.zero_le _, Nat.zero_le _⟩ rfl (fun H locs hW => ?_)
    replace hW := hW.perm (List.Perm.append_left _ rws.symm)
    obtain ⟨z_K14, ez_K14⟩ : ∃ y : Nat → Ob, y = va_up x_K_35 (9 + j2_35) y_o12 := ⟨_, rfl⟩
    replace h := lb_at ez_K14 h
    replace hW := hW.perm (ba1 (K' := z_K14) (k1 := (9 + j2_35)) (mS hj2_35) (by rw [ez_K14, va_up_ne _ _ (by omega)]) (fun k9 _ n0 => by rw [ez_K14, va_up_ne _ _ n0]) (by rw [ez_K14, va_up_self]; exact (cS hj2_35)))
    refine lv_aload_n hx hb dX10_readAsNeeded_43 rfl (lv_at hl 0 rfl) ?_
    refine fg_X10_40 (v := .ref (ad 8 0)) hx hb hts hown hK hW 0 rfl (by rw [← hk4]; rfl) dX10_readAsNeeded_44 ?_
    refine lv_aload_n hx hb dX10_readAsNeeded_47 rfl (lv_at hl 0 rfl) ?_
    refine fg_X10_26 (v := .ref (ad 3 0)) hx hb hts hown hK hW 0 rfl (by rw [← hk2]; rfl) dX10_readAsNeeded_48 ?_
    refine lv_aload_n hx hb dX10_readAsNeeded_51 rfl (lv_at hl 1 rfl) ?_
    obtain ⟨y_q115, y_q216, y_q2c17, qq18, h⟩ := bnd3_s h
    replace hW := hW.perm (fo4 (k1 := 8) (k2 := 3) (k3 := (9 + j2_35)) (k4 := (14 + j2_35)) (by decide) (by decide) (mS hj2_35) (mC hj2_35) (by omega) (by omega) (by omega) (by omega) (by omega) (by omega) rfl rfl (cS hj2_35) (cC hj2_35))
    refine cl_X10_422 hx hb hml hown hts hK hN hW (c_X4_read l D T A (ad 8) (ad 3) (ad (9 + j2_35)) (ad (14 + j2_35)) (oc_X10 T (ad 0) (bb ad) (z_K14 0) ++ (wkL T ad z_K14 ((((L18.erase 8).erase 3).erase (9 + j2_35)).erase (14 + j2_35)) ++ Z)) (hk10 _ hj2_35) (z_K14 3) (z_K14 (9 + j2_35)) (z_K14 (14 + j2_35)) y_q115 y_q216 y_q2c17 qq18) ⟨Nat.le_of_ble_eq_true rfl, Nat.le_of_ble_eq_true rfl⟩ hl.1 rfl (Nat.le_of_ble_eq_true rfl) dX10_readAsNeeded_52 ⟨Nat.zero_le _, Nat.zero_le _⟩ rfl (fun H locs hW => ?_)
    obtain ⟨z_K19, ez_K19⟩ : ∃ y : Nat → Ob, y = va_up (va_up (va_up z_K14 3 y_q115) (9 + j2_35) y_q216) (14 + j2_35) y_q2c17 := ⟨_, rfl⟩
    replace h := lb_at ez_K19 h
    replace hW := hW.perm (ba4 (K' := z_K19) (k1 := 8) (k2 := 3) (k3 := (9 + j2_35)) (k4 := (14 + j2_35)) (by decide) (by decide) (mS hj2_35) (mC hj2_35) (by omega) (by omega) (by omega) (by omega) (by omega) (by omega) (by rw [ez_K19, va_up_ne _ _ (by omega), va_up_ne _ _ (by omega), va_up_ne _ _ (by omega)]) (fun k9 _ n0 n1 n2 n3 => by rw [ez_K19, va_up_ne _ _ n3, va_up_ne _ _ n2, va_up_ne _ _ n1]) (by rw [ez_K19, va_up_ne _ _ (by omega), va_up_ne _ _ (by omega), va_up_ne _ _ (by omega)]; exact rfl) (by rw [ez_K19, va_up_ne _ _ (by omega), va_up_ne _ _ (by omega), va_up_self]; exact rfl) (by rw [ez_K19, va_up_ne _ _ (by omega), va_up_self]; exact (cS hj2_35)) (by rw [ez_K19, va_up_self]; exact (cC hj2_35)))
    refine lv_aload_n hx hb dX10_readAsNeeded_55 rfl (lv_at hl 0 rfl) ?_
    refine lv_dup hx hb dX10_readAsNeeded_56 rfl ?_
    refine fg_X10_83 (v := .int (z_K19 0 12 0)) hx hb hts hown hK hW 0 rfl rfl dX10_readAsNeeded_57 ?_
    refine lv_iconst (v := 1) hx hb dX10_readAsNeeded_60 (by decide) ?_
    refine lv_iadd hx hb dX10_readAsNeeded_61 ?_
    refine fp_X10_83 (ws9 := oc_X10 T (ad 0) (bb ad) (((va_up z_K19 0 (upo (z_K19 0) 12 0 ((z_K19 0 12 0) + 1)))) 0) ++ (wkL T ad ((va_up z_K19 0 (upo (z_K19 0) 12 0 ((z_K19 0 12 0) + 1)))) L18 ++ Z)) hx hb hts hown hK hW 0 rfl (Nat.le_of_ble_eq_true rfl) s10f dX10_readAsNeeded_62 (fun H locs hW => ?_)
    obtain ⟨z_K20, ez_K20⟩ : ∃ y : Nat → Ob, y = va_up z_K19 0 (upo (z_K19 0) 12 0 ((z_K19 0 12 0) + 1)) := ⟨_, rfl⟩
    replace h := lb_at ez_K20 h
    rw [← ez_K20] at hW
    refine lv_aload_n hx hb dX10_readAsNeeded_65 rfl (lv_at hl 1 rfl) ?_
    refine fg_X10_426 (v := .ref (ad (14 + j2_35) 0)) hx hb hts hN hown hK (hW.perm (fo1 (k1 := (9 + j2_35)) (mS hj2_35) (cS hj2_35))) 0 rfl (by rw [← hk10 _ hj2_35]; rfl) dX10_readAsNeeded_66 ?_
    obtain ⟨e90, e91, e92⟩ := ret3 h
    subst k
    subst r
    subst x_K9
    rw [hQ]
    exact x_retr hx hb hr hlk hW dX10_readAsNeeded_69
  rw [f_X10_readAsNeeded] at h
  suffices hm : ∀ (H : Heap) (locs : List Loc), Wd D A s.heap (oc_X10 T (ad 0) (bb ad) (x_K 0) ++ (wkL T ad x_K L18 ++ Z)) H locs → W p l e (rmx 9 k) s m args below meth c H locs 0 0 Q (F0 m 0 ls []) from hm _ _ hW
  intro H locs hW
  refine lv_aload_n hx hb dX10_readAsNeeded_0 rfl (lv_at hl 0 rfl) ?_
  refine lv_iload_n hx hb dX10_readAsNeeded_1 rfl (lv_at hl 1 rfl) ?_
  obtain ⟨k1, r2, qq3, h⟩ := bnd2_s h
  by_cases hk : k1 = 0
  case neg =>
    replace h := ite_f hk h
    obtain ⟨e90, e91, e92⟩ := ret3 h
    subst k
    subst x_K9
    rw [hQ]
    exact xcx_X10_198 hk hout hlk (List.Perm.refl _) hx hb hml hown hts hK hN hE hW (c_X10_sentenceAt l hfl D T A ad hok Z x_K p1 k1 r2 qq3) ⟨Nat.le_of_ble_eq_true rfl, Nat.le_of_ble_eq_true rfl⟩ rfl hl.1 rfl (Nat.le_of_ble_eq_true rfl) dX10_readAsNeeded_2
  replace h := ite_t hk h
  subst hk
  refine xc0_X10_198 hx hb hml hown hts hK hN hE hW (c_X10_sentenceAt l hfl D T A ad hok Z x_K p1 0 r2 qq3) ⟨Nat.le_of_ble_eq_true rfl, Nat.le_of_ble_eq_true rfl⟩ rfl hl.1 rfl (Nat.le_of_ble_eq_true rfl) dX10_readAsNeeded_2 ⟨Nat.zero_le _, Nat.zero_le _⟩ (fun H locs hW => ?_)
  obtain ⟨g4, h⟩ := grd_s h
  have h4hs5 : r2 < 4 := of_decide_eq_true g4
  have hs5 : r2 < 5 := by omega
  refine lv_astore_n (lv' := [(2, .ref (ad (9 + r2) 0)), (0, .ref (ad 0 0)), (1, .int p1)]) hx hb dX10_readAsNeeded_5 rfl hl (by decide) rfl (fun ls hl => ?_)
  refine lv_aload_n hx hb dX10_readAsNeeded_6 rfl (lv_at hl 1 rfl) ?_
  refine lv_iload_n hx hb dX10_readAsNeeded_7 rfl (lv_at hl 2 rfl) ?_
  obtain ⟨z_K6, qq7, h⟩ := bnd1_s h
  refine cl_X10_234 hx hb hml hown hts hK hN hW (c_X10_strikeUpTo l D T A ad hok Z x_K p1 z_K6 qq7) ⟨Nat.le_of_ble_eq_true rfl, Nat.le_of_ble_eq_true rfl⟩ hl.1 rfl (Nat.le_of_ble_eq_true rfl) dX10_readAsNeeded_8 ⟨Nat.zero_le _, Nat.zero_le _⟩ rfl (fun H locs hW => ?_)
  refine lv_aload_n hx hb dX10_readAsNeeded_11 rfl (lv_at hl 1 rfl) ?_
  refine lv_iload_n hx hb dX10_readAsNeeded_12 rfl (lv_at hl 2 rfl) ?_
  refine lv_aload_n hx hb dX10_readAsNeeded_13 rfl (lv_at hl 0 rfl) ?_
  obtain ⟨k8, z_K9, qq10, h⟩ := bnd2_s h
  by_cases hk : k8 = 0
  case neg =>
    replace h := ite_f hk h
    obtain ⟨e90, e91, e92⟩ := ret3 h
    subst k
    subst x_K9
    rw [hQ]
    exact xcx_X10_407 hk hout hlk (List.Perm.refl _) hx hb hml hown hts hK hN hE hW (c_X10_findGiven l hfl D T A ad hok Z z_K6 p1 r2 hs5 k8 z_K9 qq10) ⟨Nat.le_of_ble_eq_true rfl, Nat.le_of_ble_eq_true rfl⟩ rfl hl.1 rfl (Nat.le_of_ble_eq_true rfl) dX10_readAsNeeded_14
  replace h := ite_t hk h
  subst hk
  refine xc0_X10_407 hx hb hml hown hts hK hN hE hW (c_X10_findGiven l hfl D T A ad hok Z z_K6 p1 r2 hs5 0 z_K9 qq10) ⟨Nat.le_of_ble_eq_true rfl, Nat.le_of_ble_eq_true rfl⟩ rfl hl.1 rfl (Nat.le_of_ble_eq_true rfl) dX10_readAsNeeded_14 ⟨Nat.zero_le _, Nat.zero_le _⟩ (fun H locs hW => ?_)
  refine lv_aload_n hx hb dX10_readAsNeeded_17 rfl (lv_at hl 0 rfl) ?_
  refine fg_X10_411 (v := .int (z_K9 (9 + r2) 8 0)) hx hb hts hN hown hK (hW.perm (fo1 (k1 := (9 + r2)) (mS hs5) (cS hs5))) 0 rfl rfl dX10_readAsNeeded_18 ?_
  refine lv_if_ne (tgt := 35) hx hb dX10_readAsNeeded_21 (by decide) (fun c11 => ?_) (fun c11 => ?_)
  · replace h := ite_f c11 h
    exact J35 _ _ hs5 H locs ls hW (lv_sub hl [1, 0] rfl) h
  · replace h := ite_t c11 h
    refine lv_aload_n hx hb dX10_readAsNeeded_24 rfl (lv_at hl 0 rfl) ?_
    refine lv_aload_n hx hb dX10_readAsNeeded_25 rfl (lv_at hl 1 rfl) ?_
    refine fg_X10_76 (v := .ref (ad 0 2)) hx hb hts hown hK hW 0 rfl rfl dX10_readAsNeeded_26 ?_
    obtain ⟨r21, qq22, h⟩ := bnd1_s h
    replace hW := hW.perm (fo1 (k1 := (9 + r2)) (mS hs5) (cS hs5))
    replace hW := hW.perm (List.Perm.append_left (oc_X6 T (ad (9 + r2)) ((z_K9 (9 + r2)))) rws)
    refine cl_X10_414 hx hb hml hown hts hK hN hW (c_X6_isGiven l D T A (ad (9 + r2)) (fun _ => ad 0 2) (oc_X10m T (ad 0) (bb ad) (z_K9 0) ++ (wkL T ad z_K9 (L18.erase (9 + r2)) ++ Z)) (z_K9 (9 + r2)) (fun _ => z_K9 0 10) r21 qq22) ⟨Nat.le_of_ble_eq_true rfl, Nat.le_of_ble_eq_true rfl⟩ hl.1 rfl (Nat.le_of_ble_eq_true rfl) dX10_readAsNeeded_29 ⟨Nat.zero_le _, Nat.zero_le _⟩ rfl (fun H locs hW => ?_)
    replace hW := hW.perm (List.Perm.append_left _ rws.symm)
    replace hW := hW.perm (fo1 (k1 := (9 + r2)) (mS hs5) (cS hs5)).symm
    refine lv_if_ne (tgt := 65) hx hb dX10_readAsNeeded_32 (by decide) (fun c23 => ?_) (fun c23 => ?_)
    · replace h := ite_f c23 h
      refine lv_aload_n hx hb dX10_readAsNeeded_65 rfl (lv_at hl 0 rfl) ?_
      refine fg_X10_426 (v := .ref (ad (14 + r2) 0)) hx hb hts hN hown hK (hW.perm (fo1 (k1 := (9 + r2)) (mS hs5) (cS hs5))) 0 rfl (by rw [← hk10 _ hs5]; rfl) dX10_readAsNeeded_66 ?_
      obtain ⟨e90, e91, e92⟩ := ret3 h
      subst k
      subst r
      subst x_K9
      rw [hQ]
      exact x_retr hx hb hr hlk hW dX10_readAsNeeded_69
    · replace h := ite_t c23 h
      exact J35 _ _ hs5 H locs ls hW (lv_sub hl [1, 0] rfl) h
set_option maxHeartbeats 4000000 in
set_option maxRecDepth 100000 in
theorem c_X10_edges (l : Launch) (hfl : l.stackTraces = false) (D : va_G) (T : Nat → ClassId) (A : Nat → Prop) (ad : Nat → Nat → Nat) (hok : okad ad) (Z : va_W) (x_K : Nat → Ob) (p1 : Int32) (p2 : Int32) (p3 : Int32)  (k : Nat) (r : Int32) (x_K9 : Nat → Ob) (h : f_X10_edges x_K p1 p2 p3 = some (k, r, x_K9)) : vx_Met l yX10_edges (Cond.code yX10_edges cX10_edges 5 (some .int) :: wsL_law) (rmx 10 k) (Px D T A (oc_X10 T (ad 0) (bb ad) (x_K 0) ++ (wkL T ad x_K L18 ++ Z)) [.ref (ad 0 0), .int p1, .int p2, .int p3]) (Qxi D A (oc_X10 T (ad 0) (bb ad) (x_K9 0) ++ (wkL T ad x_K9 L18 ++ Z)) k r) (XCx D A (oc_X10 T (ad 0) (bb ad) (x_K9 0) ++ (wkL T ad x_K9 L18 ++ Z)) k) (ex1 k) (ex6 k) A := by
  refine vx_ofW (cc := cX10_edges) (maxL := 5) (ret := (some .int)) (by decide +kernel) rfl ?_
  intro p e s m args below meth c s₁ B hml hout hv
  obtain ⟨ha, hP, hK, hD, hN, hE⟩ := hv
  have hx := B.exec
  have hb := B.bytes
  have hr := B.returns
  have hlk := B.notSynchronized
  have hts : ∀ w ∈ wsL_law, w.before args s = true := fun w hw => atoms_spec B.pre w (List.mem_cons_of_mem _ hw)
  have hown : s.vm.findClass RX10 = some m.cls := findClass_of_methodNamed B.named
  obtain ⟨hk0, hk1, hk2, hk3, hk4, hk5, hk6, hk7, hk9, hk10⟩ := id hok
  have hW : Wd D A s.heap (oc_X10 T (ad 0) (bb ad) (x_K 0) ++ (wkL T ad x_K L18 ++ Z)) s.heap [] := ⟨hP, hD, va_S.rf⟩
  have hl := lv_entry [.ref (ad 0 0), .int p1, .int p2, .int p3] (n := 5) (Nat.le_of_ble_eq_true rfl)
  refine W.eq (en_eq ha) ?_
  generalize (lg_sl [.ref (ad 0 0), .int p1, .int p2, .int p3] ++ List.replicate (5 - (lg_sl [.ref (ad 0 0), .int p1, .int p2, .int p3]).length) Slot.unset).toArray = ls at hl ⊢
  have hl : lv_has ls 5 [(0, .ref (ad 0 0)), (1, .int p1), (2, .int p2), (3, .int p3)] := hl
  clear hP hD B ha
  obtain ⟨Q, hQ⟩ : ∃ Q, Q = vx_MQ below (Qxi D A (oc_X10 T (ad 0) (bb ad) (x_K9 0) ++ (wkL T ad x_K9 L18 ++ Z)) k r) (XCx D A (oc_X10 T (ad 0) (bb ad) (x_K9 0) ++ (wkL T ad x_K9 L18 ++ Z)) k) args s (ex1 k) (ex6 k) A := ⟨_, rfl⟩
  rw [← hQ]
  change W p l e (rmx 10 k) s m args below meth c s.heap [] 0 0 Q (F0 m 0 ls [])
  rw [f_X10_edges] at h
  suffices hm : ∀ (H : Heap) (locs : List Loc), Wd D A s.heap (oc_X10 T (ad 0) (bb ad) (x_K 0) ++ (wkL T ad x_K L18 ++ Z)) H locs → W p l e (rmx 10 k) s m args below meth c H locs 0 0 Q (F0 m 0 ls []) from hm _ _ hW
  intro H locs hW
  refine lv_aload_n hx hb dX10_edges_0 rfl (lv_at hl 0 rfl) ?_
  refine lv_iload_n hx hb dX10_edges_1 rfl (lv_at hl 1 rfl) ?_
  obtain ⟨k1, r2, qq3, h⟩ := bnd2_s h
  by_cases hk : k1 = 0
  case neg =>
    replace h := ite_f hk h
    obtain ⟨e90, e91, e92⟩ := ret3 h
    subst k
    subst x_K9
    rw [hQ]
    exact xcx_X10_198 hk hout hlk (List.Perm.refl _) hx hb hml hown hts hK hN hE hW (c_X10_sentenceAt l hfl D T A ad hok Z x_K p1 k1 r2 qq3) ⟨Nat.le_of_ble_eq_true rfl, Nat.le_of_ble_eq_true rfl⟩ rfl hl.1 rfl (Nat.le_of_ble_eq_true rfl) dX10_edges_2
  replace h := ite_t hk h
  subst hk
  refine xc0_X10_198 hx hb hml hown hts hK hN hE hW (c_X10_sentenceAt l hfl D T A ad hok Z x_K p1 0 r2 qq3) ⟨Nat.le_of_ble_eq_true rfl, Nat.le_of_ble_eq_true rfl⟩ rfl hl.1 rfl (Nat.le_of_ble_eq_true rfl) dX10_edges_2 ⟨Nat.zero_le _, Nat.zero_le _⟩ (fun H locs hW => ?_)
  obtain ⟨g4, h⟩ := grd_s h
  have h4hs5 : r2 < 4 := of_decide_eq_true g4
  have hs5 : r2 < 5 := by omega
  refine lv_iload_n hx hb dX10_edges_5 rfl (lv_at hl 2 rfl) ?_
  refine lv_iload_n hx hb dX10_edges_6 rfl (lv_at hl 3 rfl) ?_
  obtain ⟨k6, qq7, h⟩ := bnd1_s h
  by_cases hk : k6 = 0
  case neg =>
    replace h := ite_f hk h
    obtain ⟨e90, e91, e92⟩ := ret3 h
    subst k
    subst x_K9
    rw [hQ]
    exact xcx_X10_247 hk hout hlk (List.Perm.refl _) hx hb hml hown hts hK hN hE hW (c_X10_requireSpan l hfl D T A ad hok Z x_K r2 p2 p3 hs5 k6 qq7) ⟨Nat.le_of_ble_eq_true rfl, Nat.le_of_ble_eq_true rfl⟩ rfl hl.1 rfl (Nat.le_of_ble_eq_true rfl) dX10_edges_7
  replace h := ite_t hk h
  subst hk
  refine xc0_X10_247 hx hb hml hown hts hK hN hE hW (c_X10_requireSpan l hfl D T A ad hok Z x_K r2 p2 p3 hs5 0 qq7) ⟨Nat.le_of_ble_eq_true rfl, Nat.le_of_ble_eq_true rfl⟩ rfl hl.1 rfl (Nat.le_of_ble_eq_true rfl) dX10_edges_7 ⟨Nat.zero_le _, Nat.zero_le _⟩ (fun H locs hW => ?_)
  refine lv_aload_n hx hb dX10_edges_10 rfl (lv_at hl 0 rfl) ?_
  refine lv_iload_n hx hb dX10_edges_11 rfl (lv_at hl 1 rfl) ?_
  obtain ⟨k8, r9, z_K10, qq11, h⟩ := bnd3_s h
  by_cases hk : k8 = 0
  case neg =>
    replace h := ite_f hk h
    obtain ⟨e90, e91, e92⟩ := ret3 h
    subst k
    subst x_K9
    rw [hQ]
    exact xcx_X10_251 hk hout hlk (List.Perm.refl _) hx hb hml hown hts hK hN hE hW (c_X10_readAsNeeded l hfl D T A ad hok Z x_K p1 k8 r9 z_K10 qq11) ⟨Nat.le_of_ble_eq_true rfl, Nat.le_of_ble_eq_true rfl⟩ rfl hl.1 rfl (Nat.le_of_ble_eq_true rfl) dX10_edges_12
  replace h := ite_t hk h
  subst hk
  refine xc0_X10_251 hx hb hml hown hts hK hN hE hW (c_X10_readAsNeeded l hfl D T A ad hok Z x_K p1 0 r9 z_K10 qq11) ⟨Nat.le_of_ble_eq_true rfl, Nat.le_of_ble_eq_true rfl⟩ rfl hl.1 rfl (Nat.le_of_ble_eq_true rfl) dX10_edges_12 ⟨Nat.zero_le _, Nat.zero_le _⟩ (fun H locs hW => ?_)
  obtain ⟨g12, h⟩ := grd_s h
  have h4hs13 : r9 < 4 := of_decide_eq_true g12
  have hs13 : r9 < 5 := by omega
  refine lv_astore (lv' := [(4, .ref (ad (14 + r9) 0)), (0, .ref (ad 0 0)), (1, .int p1), (2, .int p2), (3, .int p3)]) hx hb dX10_edges_15 hl (by decide) rfl (fun ls hl => ?_)
  refine lv_aload hx hb dX10_edges_17 (lv_at hl 0 rfl) ?_
  refine lv_iload_n hx hb dX10_edges_19 rfl (lv_at hl 3 rfl) ?_
  refine lv_iload_n hx hb dX10_edges_20 rfl (lv_at hl 4 rfl) ?_
  obtain ⟨r14, qq15, h⟩ := bnd1_s h
  refine cl_X10_255 hx hb hml hown hts hK hN hW (c_X10_spanOf l D T A (oc_X10 T (ad 0) (bb ad) (z_K10 0) ++ (wkL T ad z_K10 L18 ++ Z)) p2 p3 r14 qq15) ⟨Nat.le_of_ble_eq_true rfl, Nat.le_of_ble_eq_true rfl⟩ hl.1 rfl (Nat.le_of_ble_eq_true rfl) dX10_edges_21 ⟨Nat.zero_le _, Nat.zero_le _⟩ rfl (fun H locs hW => ?_)
  obtain ⟨r16, qq17, h⟩ := bnd1_s h
  replace hW := hW.perm (fo1 (k1 := (14 + r9)) (mC hs13) (cC hs13))
  refine cl_X10_259 hx hb hml hown hts hK hN hW (c_X0_edgesOf l D T A (ad (14 + r9)) (oc_X10 T (ad 0) (bb ad) (z_K10 0) ++ (wkL T ad z_K10 (L18.erase (14 + r9)) ++ Z)) (z_K10 (14 + r9)) r14 r16 qq17) ⟨Nat.le_of_ble_eq_true rfl, Nat.le_of_ble_eq_true rfl⟩ hl.1 rfl (Nat.le_of_ble_eq_true rfl) dX10_edges_24 ⟨Nat.zero_le _, Nat.zero_le _⟩ rfl (fun H locs hW => ?_)
  replace hW := hW.perm (fo1 (k1 := (14 + r9)) (mC hs13) (cC hs13)).symm
  obtain ⟨e90, e91, e92⟩ := ret3 h
  subst k
  subst r
  subst x_K9
  rw [hQ]
  exact x_reti hx hb hr hlk hW dX10_edges_27
set_option maxHeartbeats 4000000 in
set_option maxRecDepth 100000 in
theorem c_X10_edgeAt (l : Launch) (hfl : l.stackTraces = false) (D : va_G) (T : Nat → ClassId) (A : Nat → Prop) (ad : Nat → Nat → Nat) (hok : okad ad) (Z : va_W) (x_K : Nat → Ob) (q1 : Nat) (p2 : Int32) (p3 : Int32) (hq1 : q1 < 5) (k : Nat) (r : Int32) (h : f_X10_edgeAt x_K q1 p2 p3 = some (k, r)) : vx_Met l yX10_edgeAt (Cond.code yX10_edgeAt cX10_edgeAt 3 (some .int) :: wsL_law) (rmx 6 k) (Px D T A (oc_X10 T (ad 0) (bb ad) (x_K 0) ++ (wkL T ad x_K L18 ++ Z)) [.ref (ad (14 + q1) 0), .int p2, .int p3]) (Qxi D A (oc_X10 T (ad 0) (bb ad) (x_K 0) ++ (wkL T ad x_K L18 ++ Z)) k r) (XCx D A (oc_X10 T (ad 0) (bb ad) (x_K 0) ++ (wkL T ad x_K L18 ++ Z)) k) (ex1 k) (ex6 k) A := by
  refine vx_ofW (cc := cX10_edgeAt) (maxL := 3) (ret := (some .int)) (by decide +kernel) rfl ?_
  intro p e s m args below meth c s₁ B hml hout hv
  obtain ⟨ha, hP, hK, hD, hN, hE⟩ := hv
  have hx := B.exec
  have hb := B.bytes
  have hr := B.returns
  have hlk := B.notSynchronized
  have hts : ∀ w ∈ wsL_law, w.before args s = true := fun w hw => atoms_spec B.pre w (List.mem_cons_of_mem _ hw)
  have hown : s.vm.findClass RX10 = some m.cls := findClass_of_methodNamed B.named
  obtain ⟨hk0, hk1, hk2, hk3, hk4, hk5, hk6, hk7, hk9, hk10⟩ := id hok
  have hW : Wd D A s.heap (oc_X10 T (ad 0) (bb ad) (x_K 0) ++ (wkL T ad x_K L18 ++ Z)) s.heap [] := ⟨hP, hD, va_S.rf⟩
  have hl := lv_entry [.ref (ad (14 + q1) 0), .int p2, .int p3] (n := 3) (Nat.le_of_ble_eq_true rfl)
  refine W.eq (en_eq ha) ?_
  generalize (lg_sl [.ref (ad (14 + q1) 0), .int p2, .int p3] ++ List.replicate (3 - (lg_sl [.ref (ad (14 + q1) 0), .int p2, .int p3]).length) Slot.unset).toArray = ls at hl ⊢
  have hl : lv_has ls 3 [(0, .ref (ad (14 + q1) 0)), (1, .int p2), (2, .int p3)] := hl
  clear hP hD B ha
  obtain ⟨Q, hQ⟩ : ∃ Q, Q = vx_MQ below (Qxi D A (oc_X10 T (ad 0) (bb ad) (x_K 0) ++ (wkL T ad x_K L18 ++ Z)) k r) (XCx D A (oc_X10 T (ad 0) (bb ad) (x_K 0) ++ (wkL T ad x_K L18 ++ Z)) k) args s (ex1 k) (ex6 k) A := ⟨_, rfl⟩
  rw [← hQ]
  change W p l e (rmx 6 k) s m args below meth c s.heap [] 0 0 Q (F0 m 0 ls [])
  rw [f_X10_edgeAt] at h
  suffices hm : ∀ (H : Heap) (locs : List Loc), Wd D A s.heap (oc_X10 T (ad 0) (bb ad) (x_K 0) ++ (wkL T ad x_K L18 ++ Z)) H locs → W p l e (rmx 6 k) s m args below meth c H locs 0 0 Q (F0 m 0 ls []) from hm _ _ hW
  intro H locs hW
  refine lv_iload_n hx hb dX10_edgeAt_0 rfl (lv_at hl 2 rfl) ?_
  refine lv_aload_n hx hb dX10_edgeAt_1 rfl (lv_at hl 0 rfl) ?_
  refine lv_iload_n hx hb dX10_edgeAt_2 rfl (lv_at hl 1 rfl) ?_
  obtain ⟨r1, qq2, h⟩ := bnd1_s h
  replace hW := hW.perm (fo1 (k1 := (14 + q1)) (mC hq1) (cC hq1))
  refine cl_X10_259 hx hb hml hown hts hK hN hW (c_X0_edgesOf l D T A (ad (14 + q1)) (oc_X10 T (ad 0) (bb ad) (x_K 0) ++ (wkL T ad x_K (L18.erase (14 + q1)) ++ Z)) (x_K (14 + q1)) p2 r1 qq2) ⟨Nat.le_of_ble_eq_true rfl, Nat.le_of_ble_eq_true rfl⟩ hl.1 rfl (Nat.le_of_ble_eq_true rfl) dX10_edgeAt_3 ⟨Nat.zero_le _, Nat.zero_le _⟩ rfl (fun H locs hW => ?_)
  replace hW := hW.perm (fo1 (k1 := (14 + q1)) (mC hq1) (cC hq1)).symm
  obtain ⟨r3, qq4, h⟩ := bnd1_s h
  refine cl_X10_87 hx hb hml hown hts hK hN hW (c_X10_isBelow l D T A (oc_X10 T (ad 0) (bb ad) (x_K 0) ++ (wkL T ad x_K L18 ++ Z)) p3 r1 r3 qq4) ⟨Nat.le_of_ble_eq_true rfl, Nat.le_of_ble_eq_true rfl⟩ hl.1 rfl (Nat.le_of_ble_eq_true rfl) dX10_edgeAt_6 ⟨Nat.zero_le _, Nat.zero_le _⟩ rfl (fun H locs hW => ?_)
  refine lv_if_ne (tgt := 23) hx hb dX10_edgeAt_9 (by decide) (fun c5 => ?_) (fun c5 => ?_)
  · replace h := ite_f c5 h
    refine lv_iload_n hx hb dX10_edgeAt_23 rfl (lv_at hl 1 rfl) ?_
    refine lv_bipush (v := 8) hx hb dX10_edgeAt_24 (by decide) ?_
    refine lv_imul hx hb dX10_edgeAt_26 ?_
    refine lv_iload_n hx hb dX10_edgeAt_27 rfl (lv_at hl 2 rfl) ?_
    refine lv_iadd hx hb dX10_edgeAt_28 ?_
    obtain ⟨e90, e91⟩ := ret2 h
    subst k
    subst r
    rw [hQ]
    exact x_reti hx hb hr hlk hW dX10_edgeAt_29
  · replace h := ite_t c5 h
    obtain ⟨e90, e91⟩ := ret2 h
    subst k
    subst r
    rw [hQ]
    exact xtw_177_181 hx hb hfl hown hts hE hW hml hl.1 hout hlk (List.mem_of_getElem? (i := 26) rfl) dX10_edgeAt_12 dX10_edgeAt_15 dX10_edgeAt_16 dX10_edgeAt_19 dX10_edgeAt_22 (by decide) (Nat.le_of_ble_eq_true rfl)
set_option maxHeartbeats 4000000 in
set_option maxRecDepth 100000 in
theorem c_X10_edge (l : Launch) (hfl : l.stackTraces = false) (D : va_G) (T : Nat → ClassId) (A : Nat → Prop) (ad : Nat → Nat → Nat) (hok : okad ad) (Z : va_W) (x_K : Nat → Ob) (p1 : Int32) (p2 : Int32) (p3 : Int32) (p4 : Int32)  (k : Nat) (r : Int32) (x_K9 : Nat → Ob) (h : f_X10_edge x_K p1 p2 p3 p4 = some (k, r, x_K9)) : vx_Met l yX10_edge (Cond.code yX10_edge cX10_edge 8 (some .int) :: wsL_law) (rmx 10 k) (Px D T A (oc_X10 T (ad 0) (bb ad) (x_K 0) ++ (wkL T ad x_K L18 ++ Z)) [.ref (ad 0 0), .int p1, .int p2, .int p3, .int p4]) (Qxi D A (oc_X10 T (ad 0) (bb ad) (x_K9 0) ++ (wkL T ad x_K9 L18 ++ Z)) k r) (XCx D A (oc_X10 T (ad 0) (bb ad) (x_K9 0) ++ (wkL T ad x_K9 L18 ++ Z)) k) (ex1 k) (ex6 k) A := by
  refine vx_ofW (cc := cX10_edge) (maxL := 8) (ret := (some .int)) (by decide +kernel) rfl ?_
  intro p e s m args below meth c s₁ B hml hout hv
  obtain ⟨ha, hP, hK, hD, hN, hE⟩ := hv
  have hx := B.exec
  have hb := B.bytes
  have hr := B.returns
  have hlk := B.notSynchronized
  have hts : ∀ w ∈ wsL_law, w.before args s = true := fun w hw => atoms_spec B.pre w (List.mem_cons_of_mem _ hw)
  have hown : s.vm.findClass RX10 = some m.cls := findClass_of_methodNamed B.named
  obtain ⟨hk0, hk1, hk2, hk3, hk4, hk5, hk6, hk7, hk9, hk10⟩ := id hok
  have hW : Wd D A s.heap (oc_X10 T (ad 0) (bb ad) (x_K 0) ++ (wkL T ad x_K L18 ++ Z)) s.heap [] := ⟨hP, hD, va_S.rf⟩
  have hl := lv_entry [.ref (ad 0 0), .int p1, .int p2, .int p3, .int p4] (n := 8) (Nat.le_of_ble_eq_true rfl)
  refine W.eq (en_eq ha) ?_
  generalize (lg_sl [.ref (ad 0 0), .int p1, .int p2, .int p3, .int p4] ++ List.replicate (8 - (lg_sl [.ref (ad 0 0), .int p1, .int p2, .int p3, .int p4]).length) Slot.unset).toArray = ls at hl ⊢
  have hl : lv_has ls 8 [(0, .ref (ad 0 0)), (1, .int p1), (2, .int p2), (3, .int p3), (4, .int p4)] := hl
  clear hP hD B ha
  obtain ⟨Q, hQ⟩ : ∃ Q, Q = vx_MQ below (Qxi D A (oc_X10 T (ad 0) (bb ad) (x_K9 0) ++ (wkL T ad x_K9 L18 ++ Z)) k r) (XCx D A (oc_X10 T (ad 0) (bb ad) (x_K9 0) ++ (wkL T ad x_K9 L18 ++ Z)) k) args s (ex1 k) (ex6 k) A := ⟨_, rfl⟩
  rw [← hQ]
  change W p l e (rmx 10 k) s m args below meth c s.heap [] 0 0 Q (F0 m 0 ls [])
  rw [f_X10_edge] at h
  suffices hm : ∀ (H : Heap) (locs : List Loc), Wd D A s.heap (oc_X10 T (ad 0) (bb ad) (x_K 0) ++ (wkL T ad x_K L18 ++ Z)) H locs → W p l e (rmx 10 k) s m args below meth c H locs 0 0 Q (F0 m 0 ls []) from hm _ _ hW
  intro H locs hW
  refine lv_aload_n hx hb dX10_edge_0 rfl (lv_at hl 0 rfl) ?_
  refine lv_iload_n hx hb dX10_edge_1 rfl (lv_at hl 1 rfl) ?_
  obtain ⟨k1, r2, qq3, h⟩ := bnd2_s h
  by_cases hk : k1 = 0
  case neg =>
    replace h := ite_f hk h
    obtain ⟨e90, e91, e92⟩ := ret3 h
    subst k
    subst x_K9
    rw [hQ]
    exact xcx_X10_198 hk hout hlk (List.Perm.refl _) hx hb hml hown hts hK hN hE hW (c_X10_sentenceAt l hfl D T A ad hok Z x_K p1 k1 r2 qq3) ⟨Nat.le_of_ble_eq_true rfl, Nat.le_of_ble_eq_true rfl⟩ rfl hl.1 rfl (Nat.le_of_ble_eq_true rfl) dX10_edge_2
  replace h := ite_t hk h
  subst hk
  refine xc0_X10_198 hx hb hml hown hts hK hN hE hW (c_X10_sentenceAt l hfl D T A ad hok Z x_K p1 0 r2 qq3) ⟨Nat.le_of_ble_eq_true rfl, Nat.le_of_ble_eq_true rfl⟩ rfl hl.1 rfl (Nat.le_of_ble_eq_true rfl) dX10_edge_2 ⟨Nat.zero_le _, Nat.zero_le _⟩ (fun H locs hW => ?_)
  obtain ⟨g4, h⟩ := grd_s h
  have h4hs5 : r2 < 4 := of_decide_eq_true g4
  have hs5 : r2 < 5 := by omega
  refine lv_iload_n hx hb dX10_edge_5 rfl (lv_at hl 2 rfl) ?_
  refine lv_iload_n hx hb dX10_edge_6 rfl (lv_at hl 3 rfl) ?_
  obtain ⟨k6, qq7, h⟩ := bnd1_s h
  by_cases hk : k6 = 0
  case neg =>
    replace h := ite_f hk h
    obtain ⟨e90, e91, e92⟩ := ret3 h
    subst k
    subst x_K9
    rw [hQ]
    exact xcx_X10_247 hk hout hlk (List.Perm.refl _) hx hb hml hown hts hK hN hE hW (c_X10_requireSpan l hfl D T A ad hok Z x_K r2 p2 p3 hs5 k6 qq7) ⟨Nat.le_of_ble_eq_true rfl, Nat.le_of_ble_eq_true rfl⟩ rfl hl.1 rfl (Nat.le_of_ble_eq_true rfl) dX10_edge_7
  replace h := ite_t hk h
  subst hk
  refine xc0_X10_247 hx hb hml hown hts hK hN hE hW (c_X10_requireSpan l hfl D T A ad hok Z x_K r2 p2 p3 hs5 0 qq7) ⟨Nat.le_of_ble_eq_true rfl, Nat.le_of_ble_eq_true rfl⟩ rfl hl.1 rfl (Nat.le_of_ble_eq_true rfl) dX10_edge_7 ⟨Nat.zero_le _, Nat.zero_le _⟩ (fun H locs hW => ?_)
  refine lv_aload_n hx hb dX10_edge_10 rfl (lv_at hl 0 rfl) ?_
  refine lv_iload_n hx hb dX10_edge_11 rfl (lv_at hl 1 rfl) ?_
  obtain ⟨k8, r9, z_K10, qq11, h⟩ := bnd3_s h
  by_cases hk : k8 = 0
  case neg =>
    replace h := ite_f hk h
    obtain ⟨e90, e91, e92⟩ := ret3 h
    subst k
    subst x_K9
    rw [hQ]
    exact xcx_X10_251 hk hout hlk (List.Perm.refl _) hx hb hml hown hts hK hN hE hW (c_X10_readAsNeeded l hfl D T A ad hok Z x_K p1 k8 r9 z_K10 qq11) ⟨Nat.le_of_ble_eq_true rfl, Nat.le_of_ble_eq_true rfl⟩ rfl hl.1 rfl (Nat.le_of_ble_eq_true rfl) dX10_edge_12
  replace h := ite_t hk h
  subst hk
  refine xc0_X10_251 hx hb hml hown hts hK hN hE hW (c_X10_readAsNeeded l hfl D T A ad hok Z x_K p1 0 r9 z_K10 qq11) ⟨Nat.le_of_ble_eq_true rfl, Nat.le_of_ble_eq_true rfl⟩ rfl hl.1 rfl (Nat.le_of_ble_eq_true rfl) dX10_edge_12 ⟨Nat.zero_le _, Nat.zero_le _⟩ (fun H locs hW => ?_)
  obtain ⟨g12, h⟩ := grd_s h
  have h4hs13 : r9 < 4 := of_decide_eq_true g12
  have hs13 : r9 < 5 := by omega
  refine lv_astore (lv' := [(5, .ref (ad (14 + r9) 0)), (0, .ref (ad 0 0)), (1, .int p1), (2, .int p2), (3, .int p3), (4, .int p4)]) hx hb dX10_edge_15 hl (by decide) rfl (fun ls hl => ?_)
  refine lv_aload hx hb dX10_edge_17 (lv_at hl 0 rfl) ?_
  refine lv_iload_n hx hb dX10_edge_19 rfl (lv_at hl 3 rfl) ?_
  refine lv_iload_n hx hb dX10_edge_20 rfl (lv_at hl 4 rfl) ?_
  obtain ⟨r14, qq15, h⟩ := bnd1_s h
  refine cl_X10_255 hx hb hml hown hts hK hN hW (c_X10_spanOf l D T A (oc_X10 T (ad 0) (bb ad) (z_K10 0) ++ (wkL T ad z_K10 L18 ++ Z)) p2 p3 r14 qq15) ⟨Nat.le_of_ble_eq_true rfl, Nat.le_of_ble_eq_true rfl⟩ hl.1 rfl (Nat.le_of_ble_eq_true rfl) dX10_edge_21 ⟨Nat.zero_le _, Nat.zero_le _⟩ rfl (fun H locs hW => ?_)
  refine lv_iload hx hb dX10_edge_24 (lv_at hl 5 rfl) ?_
  obtain ⟨k16, r17, qq18, h⟩ := bnd2_s h
  by_cases hk : k16 = 0
  case neg =>
    replace h := ite_f hk h
    obtain ⟨e90, e91, e92⟩ := ret3 h
    subst k
    subst x_K9
    rw [hQ]
    exact xcx_X10_264 hk hout hlk (List.Perm.refl _) hx hb hml hown hts hK hN hE hW (c_X10_edgeAt l hfl D T A ad hok Z z_K10 r9 r14 p4 hs13 k16 r17 qq18) ⟨Nat.le_of_ble_eq_true rfl, Nat.le_of_ble_eq_true rfl⟩ rfl hl.1 rfl (Nat.le_of_ble_eq_true rfl) dX10_edge_26
  replace h := ite_t hk h
  subst hk
  refine xc0_X10_264 hx hb hml hown hts hK hN hE hW (c_X10_edgeAt l hfl D T A ad hok Z z_K10 r9 r14 p4 hs13 0 r17 qq18) ⟨Nat.le_of_ble_eq_true rfl, Nat.le_of_ble_eq_true rfl⟩ rfl hl.1 rfl (Nat.le_of_ble_eq_true rfl) dX10_edge_26 ⟨Nat.zero_le _, Nat.zero_le _⟩ (fun H locs hW => ?_)
  refine lv_istore (lv' := [(6, .int r17), (5, .ref (ad (14 + r9) 0)), (0, .ref (ad 0 0)), (1, .int p1), (2, .int p2), (3, .int p3), (4, .int p4)]) hx hb dX10_edge_29 hl (by decide) rfl (fun ls hl => ?_)
  refine lv_aload hx hb dX10_edge_31 (lv_at hl 1 rfl) ?_
  refine lv_iload hx hb dX10_edge_33 (lv_at hl 0 rfl) ?_
  obtain ⟨r19, qq20, h⟩ := bnd1_s h
  replace hW := hW.perm (fo1 (k1 := (14 + r9)) (mC hs13) (cC hs13))
  refine cl_X10_268 hx hb hml hown hts hK hN hW (c_X0_featuresOf l D T A (ad (14 + r9)) (oc_X10 T (ad 0) (bb ad) (z_K10 0) ++ (wkL T ad z_K10 (L18.erase (14 + r9)) ++ Z)) (z_K10 (14 + r9)) r17 r19 qq20) ⟨Nat.le_of_ble_eq_true rfl, Nat.le_of_ble_eq_true rfl⟩ hl.1 rfl (Nat.le_of_ble_eq_true rfl) dX10_edge_35 ⟨Nat.zero_le _, Nat.zero_le _⟩ rfl (fun H locs hW => ?_)
  replace hW := hW.perm (fo1 (k1 := (14 + r9)) (mC hs13) (cC hs13)).symm
  refine lv_istore (lv' := [(7, .int r19), (6, .int r17), (5, .ref (ad (14 + r9) 0)), (0, .ref (ad 0 0)), (1, .int p1), (2, .int p2), (3, .int p3), (4, .int p4)]) hx hb dX10_edge_38 hl (by decide) rfl (fun ls hl => ?_)
  refine lv_sipush (v := 1000) hx hb dX10_edge_40 (by decide) ?_
  refine lv_aload hx hb dX10_edge_43 (lv_at hl 2 rfl) ?_
  refine lv_iload hx hb dX10_edge_45 (lv_at hl 1 rfl) ?_
  obtain ⟨r21, qq22, h⟩ := bnd1_s h
  replace hW := hW.perm (fo1 (k1 := (14 + r9)) (mC hs13) (cC hs13))
  refine cl_X10_271 hx hb hml hown hts hK hN hW (c_X0_categoryOf l D T A (ad (14 + r9)) (oc_X10 T (ad 0) (bb ad) (z_K10 0) ++ (wkL T ad z_K10 (L18.erase (14 + r9)) ++ Z)) (z_K10 (14 + r9)) r17 r21 qq22) ⟨Nat.le_of_ble_eq_true rfl, Nat.le_of_ble_eq_true rfl⟩ hl.1 rfl (Nat.le_of_ble_eq_true rfl) dX10_edge_47 ⟨Nat.zero_le _, Nat.zero_le _⟩ rfl (fun H locs hW => ?_)
  replace hW := hW.perm (fo1 (k1 := (14 + r9)) (mC hs13) (cC hs13)).symm
  refine lv_imul hx hb dX10_edge_50 ?_
  refine lv_bipush (v := 100) hx hb dX10_edge_51 (by decide) ?_
  refine lv_iload hx hb dX10_edge_53 (lv_at hl 0 rfl) ?_
  refine lv_iconst (v := 0) hx hb dX10_edge_55 (by decide) ?_
  obtain ⟨r23, qq24, h⟩ := bnd1_s h
  refine cl_X10_274 hx hb hml hown hts hK hN hW (c_X10_valueOf l D T A (oc_X10 T (ad 0) (bb ad) (z_K10 0) ++ (wkL T ad z_K10 L18 ++ Z)) r19 0 r23 qq24) ⟨Nat.le_of_ble_eq_true rfl, Nat.le_of_ble_eq_true rfl⟩ hl.1 rfl (Nat.le_of_ble_eq_true rfl) dX10_edge_56 ⟨Nat.zero_le _, Nat.zero_le _⟩ rfl (fun H locs hW => ?_)
  refine lv_imul hx hb dX10_edge_59 ?_
  refine lv_iadd hx hb dX10_edge_60 ?_
  refine lv_bipush (v := 10) hx hb dX10_edge_61 (by decide) ?_
  refine lv_iload hx hb dX10_edge_63 (lv_at hl 0 rfl) ?_
  refine lv_iconst (v := 1) hx hb dX10_edge_65 (by decide) ?_
  obtain ⟨r25, qq26, h⟩ := bnd1_s h
  refine cl_X10_274 hx hb hml hown hts hK hN hW (c_X10_valueOf l D T A (oc_X10 T (ad 0) (bb ad) (z_K10 0) ++ (wkL T ad z_K10 L18 ++ Z)) r19 1 r25 qq26) ⟨Nat.le_of_ble_eq_true rfl, Nat.le_of_ble_eq_true rfl⟩ hl.1 rfl (Nat.le_of_ble_eq_true rfl) dX10_edge_66 ⟨Nat.zero_le _, Nat.zero_le _⟩ rfl (fun H locs hW => ?_)
  refine lv_imul hx hb dX10_edge_69 ?_
  refine lv_iadd hx hb dX10_edge_70 ?_
  refine lv_iload hx hb dX10_edge_71 (lv_at hl 0 rfl) ?_
  refine lv_iconst (v := 2) hx hb dX10_edge_73 (by decide) ?_
  obtain ⟨r27, qq28, h⟩ := bnd1_s h
  refine cl_X10_274 hx hb hml hown hts hK hN hW (c_X10_valueOf l D T A (oc_X10 T (ad 0) (bb ad) (z_K10 0) ++ (wkL T ad z_K10 L18 ++ Z)) r19 2 r27 qq28) ⟨Nat.le_of_ble_eq_true rfl, Nat.le_of_ble_eq_true rfl⟩ hl.1 rfl (Nat.le_of_ble_eq_true rfl) dX10_edge_74 ⟨Nat.zero_le _, Nat.zero_le _⟩ rfl (fun H locs hW => ?_)
  refine lv_iadd hx hb dX10_edge_77 ?_
  obtain ⟨e90, e91, e92⟩ := ret3 h
  subst k
  subst r
  subst x_K9
  rw [hQ]
  exact x_reti hx hb hr hlk hW dX10_edge_78
set_option maxHeartbeats 4000000 in
set_option maxRecDepth 100000 in
theorem c_X10_edgeCost (l : Launch) (hfl : l.stackTraces = false) (D : va_G) (T : Nat → ClassId) (A : Nat → Prop) (ad : Nat → Nat → Nat) (hok : okad ad) (Z : va_W) (x_K : Nat → Ob) (p1 : Int32) (p2 : Int32) (p3 : Int32) (p4 : Int32)  (k : Nat) (r : Int32) (x_K9 : Nat → Ob) (h : f_X10_edgeCost x_K p1 p2 p3 p4 = some (k, r, x_K9)) : vx_Met l yX10_edgeCost (Cond.code yX10_edgeCost cX10_edgeCost 6 (some .int) :: wsL_law) (rmx 10 k) (Px D T A (oc_X10 T (ad 0) (bb ad) (x_K 0) ++ (wkL T ad x_K L18 ++ Z)) [.ref (ad 0 0), .int p1, .int p2, .int p3, .int p4]) (Qxi D A (oc_X10 T (ad 0) (bb ad) (x_K9 0) ++ (wkL T ad x_K9 L18 ++ Z)) k r) (XCx D A (oc_X10 T (ad 0) (bb ad) (x_K9 0) ++ (wkL T ad x_K9 L18 ++ Z)) k) (ex1 k) (ex6 k) A := by
  refine vx_ofW (cc := cX10_edgeCost) (maxL := 6) (ret := (some .int)) (by decide +kernel) rfl ?_
  intro p e s m args below meth c s₁ B hml hout hv
  obtain ⟨ha, hP, hK, hD, hN, hE⟩ := hv
  have hx := B.exec
  have hb := B.bytes
  have hr := B.returns
  have hlk := B.notSynchronized
  have hts : ∀ w ∈ wsL_law, w.before args s = true := fun w hw => atoms_spec B.pre w (List.mem_cons_of_mem _ hw)
  have hown : s.vm.findClass RX10 = some m.cls := findClass_of_methodNamed B.named
  obtain ⟨hk0, hk1, hk2, hk3, hk4, hk5, hk6, hk7, hk9, hk10⟩ := id hok
  have hW : Wd D A s.heap (oc_X10 T (ad 0) (bb ad) (x_K 0) ++ (wkL T ad x_K L18 ++ Z)) s.heap [] := ⟨hP, hD, va_S.rf⟩
  have hl := lv_entry [.ref (ad 0 0), .int p1, .int p2, .int p3, .int p4] (n := 6) (Nat.le_of_ble_eq_true rfl)
  refine W.eq (en_eq ha) ?_
  generalize (lg_sl [.ref (ad 0 0), .int p1, .int p2, .int p3, .int p4] ++ List.replicate (6 - (lg_sl [.ref (ad 0 0), .int p1, .int p2, .int p3, .int p4]).length) Slot.unset).toArray = ls at hl ⊢
  have hl : lv_has ls 6 [(0, .ref (ad 0 0)), (1, .int p1), (2, .int p2), (3, .int p3), (4, .int p4)] := hl
  clear hP hD B ha
  obtain ⟨Q, hQ⟩ : ∃ Q, Q = vx_MQ below (Qxi D A (oc_X10 T (ad 0) (bb ad) (x_K9 0) ++ (wkL T ad x_K9 L18 ++ Z)) k r) (XCx D A (oc_X10 T (ad 0) (bb ad) (x_K9 0) ++ (wkL T ad x_K9 L18 ++ Z)) k) args s (ex1 k) (ex6 k) A := ⟨_, rfl⟩
  rw [← hQ]
  change W p l e (rmx 10 k) s m args below meth c s.heap [] 0 0 Q (F0 m 0 ls [])
  rw [f_X10_edgeCost] at h
  suffices hm : ∀ (H : Heap) (locs : List Loc), Wd D A s.heap (oc_X10 T (ad 0) (bb ad) (x_K 0) ++ (wkL T ad x_K L18 ++ Z)) H locs → W p l e (rmx 10 k) s m args below meth c H locs 0 0 Q (F0 m 0 ls []) from hm _ _ hW
  intro H locs hW
  refine lv_aload_n hx hb dX10_edgeCost_0 rfl (lv_at hl 0 rfl) ?_
  refine lv_iload_n hx hb dX10_edgeCost_1 rfl (lv_at hl 1 rfl) ?_
  obtain ⟨k1, r2, qq3, h⟩ := bnd2_s h
  by_cases hk : k1 = 0
  case neg =>
    replace h := ite_f hk h
    obtain ⟨e90, e91, e92⟩ := ret3 h
    subst k
    subst x_K9
    rw [hQ]
    exact xcx_X10_198 hk hout hlk (List.Perm.refl _) hx hb hml hown hts hK hN hE hW (c_X10_sentenceAt l hfl D T A ad hok Z x_K p1 k1 r2 qq3) ⟨Nat.le_of_ble_eq_true rfl, Nat.le_of_ble_eq_true rfl⟩ rfl hl.1 rfl (Nat.le_of_ble_eq_true rfl) dX10_edgeCost_2
  replace h := ite_t hk h
  subst hk
  refine xc0_X10_198 hx hb hml hown hts hK hN hE hW (c_X10_sentenceAt l hfl D T A ad hok Z x_K p1 0 r2 qq3) ⟨Nat.le_of_ble_eq_true rfl, Nat.le_of_ble_eq_true rfl⟩ rfl hl.1 rfl (Nat.le_of_ble_eq_true rfl) dX10_edgeCost_2 ⟨Nat.zero_le _, Nat.zero_le _⟩ (fun H locs hW => ?_)
  obtain ⟨g4, h⟩ := grd_s h
  have h4hs5 : r2 < 4 := of_decide_eq_true g4
  have hs5 : r2 < 5 := by omega
  refine lv_iload_n hx hb dX10_edgeCost_5 rfl (lv_at hl 2 rfl) ?_
  refine lv_iload_n hx hb dX10_edgeCost_6 rfl (lv_at hl 3 rfl) ?_
  obtain ⟨k6, qq7, h⟩ := bnd1_s h
  by_cases hk : k6 = 0
  case neg =>
    replace h := ite_f hk h
    obtain ⟨e90, e91, e92⟩ := ret3 h
    subst k
    subst x_K9
    rw [hQ]
    exact xcx_X10_247 hk hout hlk (List.Perm.refl _) hx hb hml hown hts hK hN hE hW (c_X10_requireSpan l hfl D T A ad hok Z x_K r2 p2 p3 hs5 k6 qq7) ⟨Nat.le_of_ble_eq_true rfl, Nat.le_of_ble_eq_true rfl⟩ rfl hl.1 rfl (Nat.le_of_ble_eq_true rfl) dX10_edgeCost_7
  replace h := ite_t hk h
  subst hk
  refine xc0_X10_247 hx hb hml hown hts hK hN hE hW (c_X10_requireSpan l hfl D T A ad hok Z x_K r2 p2 p3 hs5 0 qq7) ⟨Nat.le_of_ble_eq_true rfl, Nat.le_of_ble_eq_true rfl⟩ rfl hl.1 rfl (Nat.le_of_ble_eq_true rfl) dX10_edgeCost_7 ⟨Nat.zero_le _, Nat.zero_le _⟩ (fun H locs hW => ?_)
  refine lv_aload_n hx hb dX10_edgeCost_10 rfl (lv_at hl 0 rfl) ?_
  refine lv_iload_n hx hb dX10_edgeCost_11 rfl (lv_at hl 1 rfl) ?_
  obtain ⟨k8, r9, z_K10, qq11, h⟩ := bnd3_s h
  by_cases hk : k8 = 0
  case neg =>
    replace h := ite_f hk h
    obtain ⟨e90, e91, e92⟩ := ret3 h
    subst k
    subst x_K9
    rw [hQ]
    exact xcx_X10_251 hk hout hlk (List.Perm.refl _) hx hb hml hown hts hK hN hE hW (c_X10_readAsNeeded l hfl D T A ad hok Z x_K p1 k8 r9 z_K10 qq11) ⟨Nat.le_of_ble_eq_true rfl, Nat.le_of_ble_eq_true rfl⟩ rfl hl.1 rfl (Nat.le_of_ble_eq_true rfl) dX10_edgeCost_12
  replace h := ite_t hk h
  subst hk
  refine xc0_X10_251 hx hb hml hown hts hK hN hE hW (c_X10_readAsNeeded l hfl D T A ad hok Z x_K p1 0 r9 z_K10 qq11) ⟨Nat.le_of_ble_eq_true rfl, Nat.le_of_ble_eq_true rfl⟩ rfl hl.1 rfl (Nat.le_of_ble_eq_true rfl) dX10_edgeCost_12 ⟨Nat.zero_le _, Nat.zero_le _⟩ (fun H locs hW => ?_)
  obtain ⟨g12, h⟩ := grd_s h
  have h4hs13 : r9 < 4 := of_decide_eq_true g12
  have hs13 : r9 < 5 := by omega
  refine lv_astore (lv' := [(5, .ref (ad (14 + r9) 0)), (0, .ref (ad 0 0)), (1, .int p1), (2, .int p2), (3, .int p3), (4, .int p4)]) hx hb dX10_edgeCost_15 hl (by decide) rfl (fun ls hl => ?_)
  refine lv_aload hx hb dX10_edgeCost_17 (lv_at hl 0 rfl) ?_
  refine lv_aload hx hb dX10_edgeCost_19 (lv_at hl 0 rfl) ?_
  refine lv_iload_n hx hb dX10_edgeCost_21 rfl (lv_at hl 3 rfl) ?_
  refine lv_iload_n hx hb dX10_edgeCost_22 rfl (lv_at hl 4 rfl) ?_
  obtain ⟨r14, qq15, h⟩ := bnd1_s h
  refine cl_X10_255 hx hb hml hown hts hK hN hW (c_X10_spanOf l D T A (oc_X10 T (ad 0) (bb ad) (z_K10 0) ++ (wkL T ad z_K10 L18 ++ Z)) p2 p3 r14 qq15) ⟨Nat.le_of_ble_eq_true rfl, Nat.le_of_ble_eq_true rfl⟩ hl.1 rfl (Nat.le_of_ble_eq_true rfl) dX10_edgeCost_23 ⟨Nat.zero_le _, Nat.zero_le _⟩ rfl (fun H locs hW => ?_)
  refine lv_iload hx hb dX10_edgeCost_26 (lv_at hl 5 rfl) ?_
  obtain ⟨k16, r17, qq18, h⟩ := bnd2_s h
  by_cases hk : k16 = 0
  case neg =>
    replace h := ite_f hk h
    obtain ⟨e90, e91, e92⟩ := ret3 h
    subst k
    subst x_K9
    rw [hQ]
    exact xcx_X10_264 hk hout hlk (List.Perm.refl _) hx hb hml hown hts hK hN hE hW (c_X10_edgeAt l hfl D T A ad hok Z z_K10 r9 r14 p4 hs13 k16 r17 qq18) ⟨Nat.le_of_ble_eq_true rfl, Nat.le_of_ble_eq_true rfl⟩ rfl hl.1 rfl (Nat.le_of_ble_eq_true rfl) dX10_edgeCost_28
  replace h := ite_t hk h
  subst hk
  refine xc0_X10_264 hx hb hml hown hts hK hN hE hW (c_X10_edgeAt l hfl D T A ad hok Z z_K10 r9 r14 p4 hs13 0 r17 qq18) ⟨Nat.le_of_ble_eq_true rfl, Nat.le_of_ble_eq_true rfl⟩ rfl hl.1 rfl (Nat.le_of_ble_eq_true rfl) dX10_edgeCost_28 ⟨Nat.zero_le _, Nat.zero_le _⟩ (fun H locs hW => ?_)
  obtain ⟨r19, qq20, h⟩ := bnd1_s h
  replace hW := hW.perm (fo1 (k1 := (14 + r9)) (mC hs13) (cC hs13))
  refine cl_X10_277 hx hb hml hown hts hK hN hW (c_X0_priceOf l D T A (ad (14 + r9)) (oc_X10 T (ad 0) (bb ad) (z_K10 0) ++ (wkL T ad z_K10 (L18.erase (14 + r9)) ++ Z)) (z_K10 (14 + r9)) r17 r19 qq20) ⟨Nat.le_of_ble_eq_true rfl, Nat.le_of_ble_eq_true rfl⟩ hl.1 rfl (Nat.le_of_ble_eq_true rfl) dX10_edgeCost_31 ⟨Nat.zero_le _, Nat.zero_le _⟩ rfl (fun H locs hW => ?_)
  replace hW := hW.perm (fo1 (k1 := (14 + r9)) (mC hs13) (cC hs13)).symm
  obtain ⟨e90, e91, e92⟩ := ret3 h
  subst k
  subst r
  subst x_K9
  rw [hQ]
  exact x_reti hx hb hr hlk hW dX10_edgeCost_34
set_option maxHeartbeats 4000000 in
set_option maxRecDepth 100000 in
theorem c_X10_cost (l : Launch) (hfl : l.stackTraces = false) (D : va_G) (T : Nat → ClassId) (A : Nat → Prop) (ad : Nat → Nat → Nat) (hok : okad ad) (Z : va_W) (x_K : Nat → Ob) (p1 : Int32)  (k : Nat) (r : Int32) (x_K9 : Nat → Ob) (h : f_X10_cost x_K p1 = some (k, r, x_K9)) : vx_Met l yX10_cost (Cond.code yX10_cost cX10_cost 2 (some .int) :: wsL_law) (rmx 10 k) (Px D T A (oc_X10 T (ad 0) (bb ad) (x_K 0) ++ (wkL T ad x_K L18 ++ Z)) [.ref (ad 0 0), .int p1]) (Qxi D A (oc_X10 T (ad 0) (bb ad) (x_K9 0) ++ (wkL T ad x_K9 L18 ++ Z)) k r) (XCx D A (oc_X10 T (ad 0) (bb ad) (x_K9 0) ++ (wkL T ad x_K9 L18 ++ Z)) k) (ex1 k) (ex6 k) A := by
  refine vx_ofW (cc := cX10_cost) (maxL := 2) (ret := (some .int)) (by decide +kernel) rfl ?_
  intro p e s m args below meth c s₁ B hml hout hv
  obtain ⟨ha, hP, hK, hD, hN, hE⟩ := hv
  have hx := B.exec
  have hb := B.bytes
  have hr := B.returns
  have hlk := B.notSynchronized
  have hts : ∀ w ∈ wsL_law, w.before args s = true := fun w hw => atoms_spec B.pre w (List.mem_cons_of_mem _ hw)
  have hown : s.vm.findClass RX10 = some m.cls := findClass_of_methodNamed B.named
  obtain ⟨hk0, hk1, hk2, hk3, hk4, hk5, hk6, hk7, hk9, hk10⟩ := id hok
  have hW : Wd D A s.heap (oc_X10 T (ad 0) (bb ad) (x_K 0) ++ (wkL T ad x_K L18 ++ Z)) s.heap [] := ⟨hP, hD, va_S.rf⟩
  have hl := lv_entry [.ref (ad 0 0), .int p1] (n := 2) (Nat.le_of_ble_eq_true rfl)
  refine W.eq (en_eq ha) ?_
  generalize (lg_sl [.ref (ad 0 0), .int p1] ++ List.replicate (2 - (lg_sl [.ref (ad 0 0), .int p1]).length) Slot.unset).toArray = ls at hl ⊢
  have hl : lv_has ls 2 [(0, .ref (ad 0 0)), (1, .int p1)] := hl
  clear hP hD B ha
  obtain ⟨Q, hQ⟩ : ∃ Q, Q = vx_MQ below (Qxi D A (oc_X10 T (ad 0) (bb ad) (x_K9 0) ++ (wkL T ad x_K9 L18 ++ Z)) k r) (XCx D A (oc_X10 T (ad 0) (bb ad) (x_K9 0) ++ (wkL T ad x_K9 L18 ++ Z)) k) args s (ex1 k) (ex6 k) A := ⟨_, rfl⟩
  rw [← hQ]
  change W p l e (rmx 10 k) s m args below meth c s.heap [] 0 0 Q (F0 m 0 ls [])
  rw [f_X10_cost] at h
  suffices hm : ∀ (H : Heap) (locs : List Loc), Wd D A s.heap (oc_X10 T (ad 0) (bb ad) (x_K 0) ++ (wkL T ad x_K L18 ++ Z)) H locs → W p l e (rmx 10 k) s m args below meth c H locs 0 0 Q (F0 m 0 ls []) from hm _ _ hW
  intro H locs hW
  refine lv_aload_n hx hb dX10_cost_0 rfl (lv_at hl 0 rfl) ?_
  refine lv_iload_n hx hb dX10_cost_1 rfl (lv_at hl 1 rfl) ?_
  obtain ⟨k1, r2, z_K3, qq4, h⟩ := bnd3_s h
  by_cases hk : k1 = 0
  case neg =>
    replace h := ite_f hk h
    obtain ⟨e90, e91, e92⟩ := ret3 h
    subst k
    subst x_K9
    rw [hQ]
    exact xcx_X10_251 hk hout hlk (List.Perm.refl _) hx hb hml hown hts hK hN hE hW (c_X10_readAsNeeded l hfl D T A ad hok Z x_K p1 k1 r2 z_K3 qq4) ⟨Nat.le_of_ble_eq_true rfl, Nat.le_of_ble_eq_true rfl⟩ rfl hl.1 rfl (Nat.le_of_ble_eq_true rfl) dX10_cost_2
  replace h := ite_t hk h
  subst hk
  refine xc0_X10_251 hx hb hml hown hts hK hN hE hW (c_X10_readAsNeeded l hfl D T A ad hok Z x_K p1 0 r2 z_K3 qq4) ⟨Nat.le_of_ble_eq_true rfl, Nat.le_of_ble_eq_true rfl⟩ rfl hl.1 rfl (Nat.le_of_ble_eq_true rfl) dX10_cost_2 ⟨Nat.zero_le _, Nat.zero_le _⟩ (fun H locs hW => ?_)
  obtain ⟨g5, h⟩ := grd_s h
  have h4hs6 : r2 < 4 := of_decide_eq_true g5
  have hs6 : r2 < 5 := by omega
  obtain ⟨r7, qq8, h⟩ := bnd1_s h
  replace hW := hW.perm (fo1 (k1 := (14 + r2)) (mC hs6) (cC hs6))
  refine cl_X10_280 hx hb hml hown hts hK hN hW (c_X0_wholePrice l D T A (ad (14 + r2)) (oc_X10 T (ad 0) (bb ad) (z_K3 0) ++ (wkL T ad z_K3 (L18.erase (14 + r2)) ++ Z)) (z_K3 (14 + r2)) r7 qq8) ⟨Nat.le_of_ble_eq_true rfl, Nat.le_of_ble_eq_true rfl⟩ hl.1 rfl (Nat.le_of_ble_eq_true rfl) dX10_cost_5 ⟨Nat.zero_le _, Nat.zero_le _⟩ rfl (fun H locs hW => ?_)
  replace hW := hW.perm (fo1 (k1 := (14 + r2)) (mC hs6) (cC hs6)).symm
  obtain ⟨e90, e91, e92⟩ := ret3 h
  subst k
  subst r
  subst x_K9
  rw [hQ]
  exact x_reti hx hb hr hlk hW dX10_cost_8
set_option maxHeartbeats 4000000 in
set_option maxRecDepth 100000 in
theorem c_X10_costAnew (l : Launch) (hfl : l.stackTraces = false) (D : va_G) (T : Nat → ClassId) (A : Nat → Prop) (ad : Nat → Nat → Nat) (hok : okad ad) (Z : va_W) (x_K : Nat → Ob) (p1 : Int32)  (k : Nat) (r : Int32) (x_K9 : Nat → Ob) (h : f_X10_costAnew x_K p1 = some (k, r, x_K9)) : vx_Met l yX10_costAnew (Cond.code yX10_costAnew cX10_costAnew 3 (some .int) :: wsL_law) (rmx 10 k) (Px D T A (oc_X10 T (ad 0) (bb ad) (x_K 0) ++ (wkL T ad x_K L18 ++ Z)) [.ref (ad 0 0), .int p1]) (Qxi D A (oc_X10 T (ad 0) (bb ad) (x_K9 0) ++ (wkL T ad x_K9 L18 ++ Z)) k r) (XCx D A (oc_X10 T (ad 0) (bb ad) (x_K9 0) ++ (wkL T ad x_K9 L18 ++ Z)) k) (ex1 k) (ex6 k) A := by
  refine vx_ofW (cc := cX10_costAnew) (maxL := 3) (ret := (some .int)) (by decide +kernel) rfl ?_
  intro p e s m args below meth c s₁ B hml hout hv
  obtain ⟨ha, hP, hK, hD, hN, hE⟩ := hv
  have hx := B.exec
  have hb := B.bytes
  have hr := B.returns
  have hlk := B.notSynchronized
  have hts : ∀ w ∈ wsL_law, w.before args s = true := fun w hw => atoms_spec B.pre w (List.mem_cons_of_mem _ hw)
  have hown : s.vm.findClass RX10 = some m.cls := findClass_of_methodNamed B.named
  obtain ⟨hk0, hk1, hk2, hk3, hk4, hk5, hk6, hk7, hk9, hk10⟩ := id hok
  have hW : Wd D A s.heap (oc_X10 T (ad 0) (bb ad) (x_K 0) ++ (wkL T ad x_K L18 ++ Z)) s.heap [] := ⟨hP, hD, va_S.rf⟩
  have hl := lv_entry [.ref (ad 0 0), .int p1] (n := 3) (Nat.le_of_ble_eq_true rfl)
  refine W.eq (en_eq ha) ?_
  generalize (lg_sl [.ref (ad 0 0), .int p1] ++ List.replicate (3 - (lg_sl [.ref (ad 0 0), .int p1]).length) Slot.unset).toArray = ls at hl ⊢
  have hl : lv_has ls 3 [(0, .ref (ad 0 0)), (1, .int p1)] := hl
  clear hP hD B ha
  obtain ⟨Q, hQ⟩ : ∃ Q, Q = vx_MQ below (Qxi D A (oc_X10 T (ad 0) (bb ad) (x_K9 0) ++ (wkL T ad x_K9 L18 ++ Z)) k r) (XCx D A (oc_X10 T (ad 0) (bb ad) (x_K9 0) ++ (wkL T ad x_K9 L18 ++ Z)) k) args s (ex1 k) (ex6 k) A := ⟨_, rfl⟩
  rw [← hQ]
  change W p l e (rmx 10 k) s m args below meth c s.heap [] 0 0 Q (F0 m 0 ls [])
  rw [f_X10_costAnew] at h
  suffices hm : ∀ (H : Heap) (locs : List Loc), Wd D A s.heap (oc_X10 T (ad 0) (bb ad) (x_K 0) ++ (wkL T ad x_K L18 ++ Z)) H locs → W p l e (rmx 10 k) s m args below meth c H locs 0 0 Q (F0 m 0 ls []) from hm _ _ hW
  intro H locs hW
  refine lv_aload_n hx hb dX10_costAnew_0 rfl (lv_at hl 0 rfl) ?_
  refine lv_iload_n hx hb dX10_costAnew_1 rfl (lv_at hl 1 rfl) ?_
  obtain ⟨k1, r2, z_K3, qq4, h⟩ := bnd3_s h
  by_cases hk : k1 = 0
  case neg =>
    replace h := ite_f hk h
    obtain ⟨e90, e91, e92⟩ := ret3 h
    subst k
    subst x_K9
    rw [hQ]
    exact xcx_X10_251 hk hout hlk (List.Perm.refl _) hx hb hml hown hts hK hN hE hW (c_X10_readAsNeeded l hfl D T A ad hok Z x_K p1 k1 r2 z_K3 qq4) ⟨Nat.le_of_ble_eq_true rfl, Nat.le_of_ble_eq_true rfl⟩ rfl hl.1 rfl (Nat.le_of_ble_eq_true rfl) dX10_costAnew_2
  replace h := ite_t hk h
  subst hk
  refine xc0_X10_251 hx hb hml hown hts hK hN hE hW (c_X10_readAsNeeded l hfl D T A ad hok Z x_K p1 0 r2 z_K3 qq4) ⟨Nat.le_of_ble_eq_true rfl, Nat.le_of_ble_eq_true rfl⟩ rfl hl.1 rfl (Nat.le_of_ble_eq_true rfl) dX10_costAnew_2 ⟨Nat.zero_le _, Nat.zero_le _⟩ (fun H locs hW => ?_)
  obtain ⟨g5, h⟩ := grd_s h
  have h4hs6 : r2 < 4 := of_decide_eq_true g5
  have hs6 : r2 < 5 := by omega
  refine lv_astore_n (lv' := [(2, .ref (ad (14 + r2) 0)), (0, .ref (ad 0 0)), (1, .int p1)]) hx hb dX10_costAnew_5 rfl hl (by decide) rfl (fun ls hl => ?_)
  refine lv_aload_n hx hb dX10_costAnew_6 rfl (lv_at hl 1 rfl) ?_
  refine fg_X10_47 (v := .ref (ad 5 0)) hx hb hts hown hK hW 0 rfl (by rw [← hk5]; rfl) dX10_costAnew_7 ?_
  refine lv_aload_n hx hb dX10_costAnew_10 rfl (lv_at hl 0 rfl) ?_
  obtain ⟨y_o7, qq8, h⟩ := bnd1_s h
  replace hW := hW.perm (fo2 (k1 := 5) (k2 := (14 + r2)) (by decide) (mC hs6) (by omega) rfl (cC hs6))
  refine cl_X10_284 hx hb hml hown hts hK hN hW (c_X9_grow l D T A (ad 5) (ad (14 + r2)) (oc_X10 T (ad 0) (bb ad) (z_K3 0) ++ (wkL T ad z_K3 ((L18.erase 5).erase (14 + r2)) ++ Z)) (z_K3 5) (z_K3 (14 + r2)) y_o7 qq8) ⟨Nat.le_of_ble_eq_true rfl, Nat.le_of_ble_eq_true rfl⟩ hl.1 rfl (Nat.le_of_ble_eq_true rfl) dX10_costAnew_11 ⟨Nat.zero_le _, Nat.zero_le _⟩ rfl (fun H locs hW => ?_)
  obtain ⟨z_K9, ez_K9⟩ : ∃ y : Nat → Ob, y = va_up z_K3 5 y_o7 := ⟨_, rfl⟩
  replace h := lb_at ez_K9 h
  replace hW := hW.perm (ba2 (K' := z_K9) (k1 := 5) (k2 := (14 + r2)) (by decide) (mC hs6) (by omega) (by rw [ez_K9, va_up_ne _ _ (by omega)]) (fun k9 _ n0 n1 => by rw [ez_K9, va_up_ne _ _ n0]) (by rw [ez_K9, va_up_self]; exact rfl) (by rw [ez_K9, va_up_ne _ _ (by omega)]; exact (cC hs6)))
  refine lv_aload_n hx hb dX10_costAnew_14 rfl (lv_at hl 1 rfl) ?_
  refine fg_X10_47 (v := .ref (ad 5 0)) hx hb hts hown hK hW 0 rfl (by rw [← hk5]; rfl) dX10_costAnew_15 ?_
  refine lv_aload_n hx hb dX10_costAnew_18 rfl (lv_at hl 0 rfl) ?_
  refine lv_aload_n hx hb dX10_costAnew_19 rfl (lv_at hl 1 rfl) ?_
  refine fg_X10_26 (v := .ref (ad 3 0)) hx hb hts hown hK hW 0 rfl (by rw [← hk2]; rfl) dX10_costAnew_20 ?_
  obtain ⟨r10, y_o11, y_q212, qq13, h⟩ := bnd3_s h
  replace hW := hW.perm (fo3 (k1 := 5) (k2 := (14 + r2)) (k3 := 3) (by decide) (mC hs6) (by decide) (by omega) (by omega) (by omega) rfl (cC hs6) rfl)
  refine cl_X10_288 hx hb hml hown hts hK hN hW (c_X9_priceAnew l D T A (ad 5) (ad (14 + r2)) (ad 3) (oc_X10 T (ad 0) (bb ad) (z_K9 0) ++ (wkL T ad z_K9 (((L18.erase 5).erase (14 + r2)).erase 3) ++ Z)) (z_K9 5) (z_K9 (14 + r2)) (z_K9 3) r10 y_o11 y_q212 qq13) ⟨Nat.le_of_ble_eq_true rfl, Nat.le_of_ble_eq_true rfl⟩ hl.1 rfl (Nat.le_of_ble_eq_true rfl) dX10_costAnew_23 ⟨Nat.zero_le _, Nat.zero_le _⟩ rfl (fun H locs hW => ?_)
  obtain ⟨z_K14, ez_K14⟩ : ∃ y : Nat → Ob, y = va_up (va_up z_K9 5 y_o11) 3 y_q212 := ⟨_, rfl⟩
  replace h := lb_at ez_K14 h
  replace hW := hW.perm (ba3 (K' := z_K14) (k1 := 5) (k2 := (14 + r2)) (k3 := 3) (by decide) (mC hs6) (by decide) (by omega) (by omega) (by omega) (by rw [ez_K14, va_up_ne _ _ (by omega), va_up_ne _ _ (by omega)]) (fun k9 _ n0 n1 n2 => by rw [ez_K14, va_up_ne _ _ n2, va_up_ne _ _ n0]) (by rw [ez_K14, va_up_ne _ _ (by omega), va_up_self]; exact rfl) (by rw [ez_K14, va_up_ne _ _ (by omega), va_up_ne _ _ (by omega)]; exact (cC hs6)) (by rw [ez_K14, va_up_self]; exact rfl))
  obtain ⟨e90, e91, e92⟩ := ret3 h
  subst k
  subst r
  subst x_K9
  rw [hQ]
  exact x_reti hx hb hr hlk hW dX10_costAnew_26
set_option maxHeartbeats 4000000 in
set_option maxRecDepth 100000 in
theorem c_X10_faults (l : Launch) (hfl : l.stackTraces = false) (D : va_G) (T : Nat → ClassId) (A : Nat → Prop) (ad : Nat → Nat → Nat) (hok : okad ad) (Z : va_W) (x_K : Nat → Ob) (p1 : Int32)  (k : Nat) (r : Int32) (x_K9 : Nat → Ob) (h : f_X10_faults x_K p1 = some (k, r, x_K9)) : vx_Met l yX10_faults (Cond.code yX10_faults cX10_faults 3 (some .int) :: wsL_law) (rmx 10 k) (Px D T A (oc_X10 T (ad 0) (bb ad) (x_K 0) ++ (wkL T ad x_K L18 ++ Z)) [.ref (ad 0 0), .int p1]) (Qxi D A (oc_X10 T (ad 0) (bb ad) (x_K9 0) ++ (wkL T ad x_K9 L18 ++ Z)) k r) (XCx D A (oc_X10 T (ad 0) (bb ad) (x_K9 0) ++ (wkL T ad x_K9 L18 ++ Z)) k) (ex1 k) (ex6 k) A := by
  refine vx_ofW (cc := cX10_faults) (maxL := 3) (ret := (some .int)) (by decide +kernel) rfl ?_
  intro p e s m args below meth c s₁ B hml hout hv
  obtain ⟨ha, hP, hK, hD, hN, hE⟩ := hv
  have hx := B.exec
  have hb := B.bytes
  have hr := B.returns
  have hlk := B.notSynchronized
  have hts : ∀ w ∈ wsL_law, w.before args s = true := fun w hw => atoms_spec B.pre w (List.mem_cons_of_mem _ hw)
  have hown : s.vm.findClass RX10 = some m.cls := findClass_of_methodNamed B.named
  obtain ⟨hk0, hk1, hk2, hk3, hk4, hk5, hk6, hk7, hk9, hk10⟩ := id hok
  have hW : Wd D A s.heap (oc_X10 T (ad 0) (bb ad) (x_K 0) ++ (wkL T ad x_K L18 ++ Z)) s.heap [] := ⟨hP, hD, va_S.rf⟩
  have hl := lv_entry [.ref (ad 0 0), .int p1] (n := 3) (Nat.le_of_ble_eq_true rfl)
  refine W.eq (en_eq ha) ?_
  generalize (lg_sl [.ref (ad 0 0), .int p1] ++ List.replicate (3 - (lg_sl [.ref (ad 0 0), .int p1]).length) Slot.unset).toArray = ls at hl ⊢
  have hl : lv_has ls 3 [(0, .ref (ad 0 0)), (1, .int p1)] := hl
  clear hP hD B ha
  obtain ⟨Q, hQ⟩ : ∃ Q, Q = vx_MQ below (Qxi D A (oc_X10 T (ad 0) (bb ad) (x_K9 0) ++ (wkL T ad x_K9 L18 ++ Z)) k r) (XCx D A (oc_X10 T (ad 0) (bb ad) (x_K9 0) ++ (wkL T ad x_K9 L18 ++ Z)) k) args s (ex1 k) (ex6 k) A := ⟨_, rfl⟩
  rw [← hQ]
  change W p l e (rmx 10 k) s m args below meth c s.heap [] 0 0 Q (F0 m 0 ls [])
  rw [f_X10_faults] at h
  suffices hm : ∀ (H : Heap) (locs : List Loc), Wd D A s.heap (oc_X10 T (ad 0) (bb ad) (x_K 0) ++ (wkL T ad x_K L18 ++ Z)) H locs → W p l e (rmx 10 k) s m args below meth c H locs 0 0 Q (F0 m 0 ls []) from hm _ _ hW
  intro H locs hW
  refine lv_aload_n hx hb dX10_faults_0 rfl (lv_at hl 0 rfl) ?_
  refine lv_iload_n hx hb dX10_faults_1 rfl (lv_at hl 1 rfl) ?_
  obtain ⟨k1, r2, z_K3, qq4, h⟩ := bnd3_s h
  by_cases hk : k1 = 0
  case neg =>
    replace h := ite_f hk h
    obtain ⟨e90, e91, e92⟩ := ret3 h
    subst k
    subst x_K9
    rw [hQ]
    exact xcx_X10_251 hk hout hlk (List.Perm.refl _) hx hb hml hown hts hK hN hE hW (c_X10_readAsNeeded l hfl D T A ad hok Z x_K p1 k1 r2 z_K3 qq4) ⟨Nat.le_of_ble_eq_true rfl, Nat.le_of_ble_eq_true rfl⟩ rfl hl.1 rfl (Nat.le_of_ble_eq_true rfl) dX10_faults_2
  replace h := ite_t hk h
  subst hk
  refine xc0_X10_251 hx hb hml hown hts hK hN hE hW (c_X10_readAsNeeded l hfl D T A ad hok Z x_K p1 0 r2 z_K3 qq4) ⟨Nat.le_of_ble_eq_true rfl, Nat.le_of_ble_eq_true rfl⟩ rfl hl.1 rfl (Nat.le_of_ble_eq_true rfl) dX10_faults_2 ⟨Nat.zero_le _, Nat.zero_le _⟩ (fun H locs hW => ?_)
  obtain ⟨g5, h⟩ := grd_s h
  have h4hs6 : r2 < 4 := of_decide_eq_true g5
  have hs6 : r2 < 5 := by omega
  refine lv_astore_n (lv' := [(2, .ref (ad (14 + r2) 0)), (0, .ref (ad 0 0)), (1, .int p1)]) hx hb dX10_faults_5 rfl hl (by decide) rfl (fun ls hl => ?_)
  refine lv_aload_n hx hb dX10_faults_6 rfl (lv_at hl 1 rfl) ?_
  refine fg_X10_47 (v := .ref (ad 5 0)) hx hb hts hown hK hW 0 rfl (by rw [← hk5]; rfl) dX10_faults_7 ?_
  refine lv_aload_n hx hb dX10_faults_10 rfl (lv_at hl 0 rfl) ?_
  obtain ⟨y_o7, qq8, h⟩ := bnd1_s h
  replace hW := hW.perm (fo2 (k1 := 5) (k2 := (14 + r2)) (by decide) (mC hs6) (by omega) rfl (cC hs6))
  refine cl_X10_284 hx hb hml hown hts hK hN hW (c_X9_grow l D T A (ad 5) (ad (14 + r2)) (oc_X10 T (ad 0) (bb ad) (z_K3 0) ++ (wkL T ad z_K3 ((L18.erase 5).erase (14 + r2)) ++ Z)) (z_K3 5) (z_K3 (14 + r2)) y_o7 qq8) ⟨Nat.le_of_ble_eq_true rfl, Nat.le_of_ble_eq_true rfl⟩ hl.1 rfl (Nat.le_of_ble_eq_true rfl) dX10_faults_11 ⟨Nat.zero_le _, Nat.zero_le _⟩ rfl (fun H locs hW => ?_)
  obtain ⟨z_K9, ez_K9⟩ : ∃ y : Nat → Ob, y = va_up z_K3 5 y_o7 := ⟨_, rfl⟩
  replace h := lb_at ez_K9 h
  replace hW := hW.perm (ba2 (K' := z_K9) (k1 := 5) (k2 := (14 + r2)) (by decide) (mC hs6) (by omega) (by rw [ez_K9, va_up_ne _ _ (by omega)]) (fun k9 _ n0 n1 => by rw [ez_K9, va_up_ne _ _ n0]) (by rw [ez_K9, va_up_self]; exact rfl) (by rw [ez_K9, va_up_ne _ _ (by omega)]; exact (cC hs6)))
  refine lv_aload_n hx hb dX10_faults_14 rfl (lv_at hl 1 rfl) ?_
  refine fg_X10_47 (v := .ref (ad 5 0)) hx hb hts hown hK hW 0 rfl (by rw [← hk5]; rfl) dX10_faults_15 ?_
  refine lv_aload_n hx hb dX10_faults_18 rfl (lv_at hl 0 rfl) ?_
  obtain ⟨r10, qq11, h⟩ := bnd1_s h
  replace hW := hW.perm (fo2 (k1 := 5) (k2 := (14 + r2)) (by decide) (mC hs6) (by omega) rfl (cC hs6))
  refine cl_X10_292 hx hb hml hown hts hK hN hW (c_X9_countRelaxed l D T A (ad 5) (ad (14 + r2)) (oc_X10 T (ad 0) (bb ad) (z_K9 0) ++ (wkL T ad z_K9 ((L18.erase 5).erase (14 + r2)) ++ Z)) (z_K9 5) (z_K9 (14 + r2)) r10 qq11) ⟨Nat.le_of_ble_eq_true rfl, Nat.le_of_ble_eq_true rfl⟩ hl.1 rfl (Nat.le_of_ble_eq_true rfl) dX10_faults_19 ⟨Nat.zero_le _, Nat.zero_le _⟩ rfl (fun H locs hW => ?_)
  replace hW := hW.perm (fo2 (k1 := 5) (k2 := (14 + r2)) (by decide) (mC hs6) (by omega) rfl (cC hs6)).symm
  obtain ⟨e90, e91, e92⟩ := ret3 h
  subst k
  subst r
  subst x_K9
  rw [hQ]
  exact x_reti hx hb hr hlk hW dX10_faults_22
set_option maxHeartbeats 4000000 in
set_option maxRecDepth 100000 in
theorem c_X10_faultAt (l : Launch) (hfl : l.stackTraces = false) (D : va_G) (T : Nat → ClassId) (A : Nat → Prop) (ad : Nat → Nat → Nat) (hok : okad ad) (Z : va_W) (x_K : Nat → Ob) (q1 : Nat) (p2 : Int32) (hq1 : q1 < 5) (k : Nat) (r : Int32) (x_K9 : Nat → Ob) (h : f_X10_faultAt x_K q1 p2 = some (k, r, x_K9)) : vx_Met l yX10_faultAt (Cond.code yX10_faultAt cX10_faultAt 4 (some .int) :: wsL_law) (rmx 6 k) (Px D T A (oc_X10 T (ad 0) (bb ad) (x_K 0) ++ (wkL T ad x_K L18 ++ Z)) [.ref (ad 0 0), .ref (ad (14 + q1) 0), .int p2]) (Qxi D A (oc_X10 T (ad 0) (bb ad) (x_K9 0) ++ (wkL T ad x_K9 L18 ++ Z)) k r) (XCx D A (oc_X10 T (ad 0) (bb ad) (x_K9 0) ++ (wkL T ad x_K9 L18 ++ Z)) k) (ex1 k) (ex6 k) A := by
  refine vx_ofW (cc := cX10_faultAt) (maxL := 4) (ret := (some .int)) (by decide +kernel) rfl ?_
  intro p e s m args below meth c s₁ B hml hout hv
  obtain ⟨ha, hP, hK, hD, hN, hE⟩ := hv
  have hx := B.exec
  have hb := B.bytes
  have hr := B.returns
  have hlk := B.notSynchronized
  have hts : ∀ w ∈ wsL_law, w.before args s = true := fun w hw => atoms_spec B.pre w (List.mem_cons_of_mem _ hw)
  have hown : s.vm.findClass RX10 = some m.cls := findClass_of_methodNamed B.named
  obtain ⟨hk0, hk1, hk2, hk3, hk4, hk5, hk6, hk7, hk9, hk10⟩ := id hok
  have hW : Wd D A s.heap (oc_X10 T (ad 0) (bb ad) (x_K 0) ++ (wkL T ad x_K L18 ++ Z)) s.heap [] := ⟨hP, hD, va_S.rf⟩
  have hl := lv_entry [.ref (ad 0 0), .ref (ad (14 + q1) 0), .int p2] (n := 4) (Nat.le_of_ble_eq_true rfl)
  refine W.eq (en_eq ha) ?_
  generalize (lg_sl [.ref (ad 0 0), .ref (ad (14 + q1) 0), .int p2] ++ List.replicate (4 - (lg_sl [.ref (ad 0 0), .ref (ad (14 + q1) 0), .int p2]).length) Slot.unset).toArray = ls at hl ⊢
  have hl : lv_has ls 4 [(0, .ref (ad 0 0)), (1, .ref (ad (14 + q1) 0)), (2, .int p2)] := hl
  clear hP hD B ha
  obtain ⟨Q, hQ⟩ : ∃ Q, Q = vx_MQ below (Qxi D A (oc_X10 T (ad 0) (bb ad) (x_K9 0) ++ (wkL T ad x_K9 L18 ++ Z)) k r) (XCx D A (oc_X10 T (ad 0) (bb ad) (x_K9 0) ++ (wkL T ad x_K9 L18 ++ Z)) k) args s (ex1 k) (ex6 k) A := ⟨_, rfl⟩
  rw [← hQ]
  change W p l e (rmx 6 k) s m args below meth c s.heap [] 0 0 Q (F0 m 0 ls [])
  rw [f_X10_faultAt] at h
  suffices hm : ∀ (H : Heap) (locs : List Loc), Wd D A s.heap (oc_X10 T (ad 0) (bb ad) (x_K 0) ++ (wkL T ad x_K L18 ++ Z)) H locs → W p l e (rmx 6 k) s m args below meth c H locs 0 0 Q (F0 m 0 ls []) from hm _ _ hW
  intro H locs hW
  refine lv_aload_n hx hb dX10_faultAt_0 rfl (lv_at hl 0 rfl) ?_
  refine fg_X10_47 (v := .ref (ad 5 0)) hx hb hts hown hK hW 0 rfl (by rw [← hk5]; rfl) dX10_faultAt_1 ?_
  refine lv_aload_n hx hb dX10_faultAt_4 rfl (lv_at hl 1 rfl) ?_
  obtain ⟨y_o1, qq2, h⟩ := bnd1_s h
  replace hW := hW.perm (fo2 (k1 := 5) (k2 := (14 + q1)) (by decide) (mC hq1) (by omega) rfl (cC hq1))
  refine cl_X10_284 hx hb hml hown hts hK hN hW (c_X9_grow l D T A (ad 5) (ad (14 + q1)) (oc_X10 T (ad 0) (bb ad) (x_K 0) ++ (wkL T ad x_K ((L18.erase 5).erase (14 + q1)) ++ Z)) (x_K 5) (x_K (14 + q1)) y_o1 qq2) ⟨Nat.le_of_ble_eq_true rfl, Nat.le_of_ble_eq_true rfl⟩ hl.1 rfl (Nat.le_of_ble_eq_true rfl) dX10_faultAt_5 ⟨Nat.zero_le _, Nat.zero_le _⟩ rfl (fun H locs hW => ?_)
  obtain ⟨z_K3, ez_K3⟩ : ∃ y : Nat → Ob, y = va_up x_K 5 y_o1 := ⟨_, rfl⟩
  replace h := lb_at ez_K3 h
  replace hW := hW.perm (ba2 (K' := z_K3) (k1 := 5) (k2 := (14 + q1)) (by decide) (mC hq1) (by omega) (by rw [ez_K3, va_up_ne _ _ (by omega)]) (fun k9 _ n0 n1 => by rw [ez_K3, va_up_ne _ _ n0]) (by rw [ez_K3, va_up_self]; exact rfl) (by rw [ez_K3, va_up_ne _ _ (by omega)]; exact (cC hq1)))
  refine lv_aload_n hx hb dX10_faultAt_8 rfl (lv_at hl 0 rfl) ?_
  refine fg_X10_47 (v := .ref (ad 5 0)) hx hb hts hown hK hW 0 rfl (by rw [← hk5]; rfl) dX10_faultAt_9 ?_
  refine lv_aload_n hx hb dX10_faultAt_12 rfl (lv_at hl 1 rfl) ?_
  refine lv_iload_n hx hb dX10_faultAt_13 rfl (lv_at hl 2 rfl) ?_
  obtain ⟨r4, qq5, h⟩ := bnd1_s h
  replace hW := hW.perm (fo2 (k1 := 5) (k2 := (14 + q1)) (by decide) (mC hq1) (by omega) rfl (cC hq1))
  refine cl_X10_326 hx hb hml hown hts hK hN hW (c_X9_findRelaxed l D T A (ad 5) (ad (14 + q1)) (oc_X10 T (ad 0) (bb ad) (z_K3 0) ++ (wkL T ad z_K3 ((L18.erase 5).erase (14 + q1)) ++ Z)) (z_K3 5) (z_K3 (14 + q1)) p2 r4 qq5) ⟨Nat.le_of_ble_eq_true rfl, Nat.le_of_ble_eq_true rfl⟩ hl.1 rfl (Nat.le_of_ble_eq_true rfl) dX10_faultAt_14 ⟨Nat.zero_le _, Nat.zero_le _⟩ rfl (fun H locs hW => ?_)
  replace hW := hW.perm (fo2 (k1 := 5) (k2 := (14 + q1)) (by decide) (mC hq1) (by omega) rfl (cC hq1)).symm
  refine lv_istore_n (lv' := [(3, .int r4), (0, .ref (ad 0 0)), (1, .ref (ad (14 + q1) 0)), (2, .int p2)]) hx hb dX10_faultAt_17 rfl hl (by decide) rfl (fun ls hl => ?_)
  refine lv_iload_n hx hb dX10_faultAt_18 rfl (lv_at hl 0 rfl) ?_
  refine lv_iconst (v := (-1)) hx hb dX10_faultAt_19 (by decide) ?_
  refine lv_icmp_ne (tgt := 34) hx hb dX10_faultAt_20 (by decide) (fun c6 => ?_) (fun c6 => ?_)
  · replace h := ite_f c6 h
    refine lv_iload_n hx hb dX10_faultAt_34 rfl (lv_at hl 0 rfl) ?_
    obtain ⟨e90, e91, e92⟩ := ret3 h
    subst k
    subst r
    subst x_K9
    rw [hQ]
    exact x_reti hx hb hr hlk hW dX10_faultAt_35
  · replace h := ite_t c6 h
    obtain ⟨e90, e91, e92⟩ := ret3 h
    subst k
    subst r
    subst x_K9
    rw [hQ]
    exact xtw_177_181 hx hb hfl hown hts hE hW hml hl.1 hout hlk (List.mem_of_getElem? (i := 27) rfl) dX10_faultAt_23 dX10_faultAt_26 dX10_faultAt_27 dX10_faultAt_30 dX10_faultAt_33 (by decide) (Nat.le_of_ble_eq_true rfl)
set_option maxHeartbeats 4000000 in
set_option maxRecDepth 100000 in
theorem c_X10_fault (l : Launch) (hfl : l.stackTraces = false) (D : va_G) (T : Nat → ClassId) (A : Nat → Prop) (ad : Nat → Nat → Nat) (hok : okad ad) (Z : va_W) (x_K : Nat → Ob) (p1 : Int32) (p2 : Int32)  (k : Nat) (r : Int32) (x_K9 : Nat → Ob) (h : f_X10_fault x_K p1 p2 = some (k, r, x_K9)) : vx_Met l yX10_fault (Cond.code yX10_fault cX10_fault 6 (some .int) :: wsL_law) (rmx 10 k) (Px D T A (oc_X10 T (ad 0) (bb ad) (x_K 0) ++ (wkL T ad x_K L18 ++ Z)) [.ref (ad 0 0), .int p1, .int p2]) (Qxi D A (oc_X10 T (ad 0) (bb ad) (x_K9 0) ++ (wkL T ad x_K9 L18 ++ Z)) k r) (XCx D A (oc_X10 T (ad 0) (bb ad) (x_K9 0) ++ (wkL T ad x_K9 L18 ++ Z)) k) (ex1 k) (ex6 k) A := by
  refine vx_ofW (cc := cX10_fault) (maxL := 6) (ret := (some .int)) (by decide +kernel) rfl ?_
  intro p e s m args below meth c s₁ B hml hout hv
  obtain ⟨ha, hP, hK, hD, hN, hE⟩ := hv
  have hx := B.exec
  have hb := B.bytes
  have hr := B.returns
  have hlk := B.notSynchronized
  have hts : ∀ w ∈ wsL_law, w.before args s = true := fun w hw => atoms_spec B.pre w (List.mem_cons_of_mem _ hw)
  have hown : s.vm.findClass RX10 = some m.cls := findClass_of_methodNamed B.named
  obtain ⟨hk0, hk1, hk2, hk3, hk4, hk5, hk6, hk7, hk9, hk10⟩ := id hok
  have hW : Wd D A s.heap (oc_X10 T (ad 0) (bb ad) (x_K 0) ++ (wkL T ad x_K L18 ++ Z)) s.heap [] := ⟨hP, hD, va_S.rf⟩
  have hl := lv_entry [.ref (ad 0 0), .int p1, .int p2] (n := 6) (Nat.le_of_ble_eq_true rfl)
  refine W.eq (en_eq ha) ?_
  generalize (lg_sl [.ref (ad 0 0), .int p1, .int p2] ++ List.replicate (6 - (lg_sl [.ref (ad 0 0), .int p1, .int p2]).length) Slot.unset).toArray = ls at hl ⊢
  have hl : lv_has ls 6 [(0, .ref (ad 0 0)), (1, .int p1), (2, .int p2)] := hl
  clear hP hD B ha
  obtain ⟨Q, hQ⟩ : ∃ Q, Q = vx_MQ below (Qxi D A (oc_X10 T (ad 0) (bb ad) (x_K9 0) ++ (wkL T ad x_K9 L18 ++ Z)) k r) (XCx D A (oc_X10 T (ad 0) (bb ad) (x_K9 0) ++ (wkL T ad x_K9 L18 ++ Z)) k) args s (ex1 k) (ex6 k) A := ⟨_, rfl⟩
  rw [← hQ]
  change W p l e (rmx 10 k) s m args below meth c s.heap [] 0 0 Q (F0 m 0 ls [])
  rw [f_X10_fault] at h
  suffices hm : ∀ (H : Heap) (locs : List Loc), Wd D A s.heap (oc_X10 T (ad 0) (bb ad) (x_K 0) ++ (wkL T ad x_K L18 ++ Z)) H locs → W p l e (rmx 10 k) s m args below meth c H locs 0 0 Q (F0 m 0 ls []) from hm _ _ hW
  intro H locs hW
  refine lv_aload_n hx hb dX10_fault_0 rfl (lv_at hl 0 rfl) ?_
  refine lv_iload_n hx hb dX10_fault_1 rfl (lv_at hl 1 rfl) ?_
  obtain ⟨k1, r2, z_K3, qq4, h⟩ := bnd3_s h
  by_cases hk : k1 = 0
  case neg =>
    replace h := ite_f hk h
    obtain ⟨e90, e91, e92⟩ := ret3 h
    subst k
    subst x_K9
    rw [hQ]
    exact xcx_X10_251 hk hout hlk (List.Perm.refl _) hx hb hml hown hts hK hN hE hW (c_X10_readAsNeeded l hfl D T A ad hok Z x_K p1 k1 r2 z_K3 qq4) ⟨Nat.le_of_ble_eq_true rfl, Nat.le_of_ble_eq_true rfl⟩ rfl hl.1 rfl (Nat.le_of_ble_eq_true rfl) dX10_fault_2
  replace h := ite_t hk h
  subst hk
  refine xc0_X10_251 hx hb hml hown hts hK hN hE hW (c_X10_readAsNeeded l hfl D T A ad hok Z x_K p1 0 r2 z_K3 qq4) ⟨Nat.le_of_ble_eq_true rfl, Nat.le_of_ble_eq_true rfl⟩ rfl hl.1 rfl (Nat.le_of_ble_eq_true rfl) dX10_fault_2 ⟨Nat.zero_le _, Nat.zero_le _⟩ (fun H locs hW => ?_)
  obtain ⟨g5, h⟩ := grd_s h
  have h4hs6 : r2 < 4 := of_decide_eq_true g5
  have hs6 : r2 < 5 := by omega
  refine lv_astore_n (lv' := [(3, .ref (ad (14 + r2) 0)), (0, .ref (ad 0 0)), (1, .int p1), (2, .int p2)]) hx hb dX10_fault_5 rfl hl (by decide) rfl (fun ls hl => ?_)
  refine lv_aload_n hx hb dX10_fault_6 rfl (lv_at hl 1 rfl) ?_
  refine lv_aload_n hx hb dX10_fault_7 rfl (lv_at hl 0 rfl) ?_
  refine lv_iload_n hx hb dX10_fault_8 rfl (lv_at hl 3 rfl) ?_
  obtain ⟨k7, r8, z_K9, qq10, h⟩ := bnd3_s h
  by_cases hk : k7 = 0
  case neg =>
    replace h := ite_f hk h
    obtain ⟨e90, e91, e92⟩ := ret3 h
    subst k
    subst x_K9
    rw [hQ]
    exact xcx_X10_296 hk hout hlk (List.Perm.refl _) hx hb hml hown hts hK hN hE hW (c_X10_faultAt l hfl D T A ad hok Z z_K3 r2 p2 hs6 k7 r8 z_K9 qq10) ⟨Nat.le_of_ble_eq_true rfl, Nat.le_of_ble_eq_true rfl⟩ rfl hl.1 rfl (Nat.le_of_ble_eq_true rfl) dX10_fault_9
  replace h := ite_t hk h
  subst hk
  refine xc0_X10_296 hx hb hml hown hts hK hN hE hW (c_X10_faultAt l hfl D T A ad hok Z z_K3 r2 p2 hs6 0 r8 z_K9 qq10) ⟨Nat.le_of_ble_eq_true rfl, Nat.le_of_ble_eq_true rfl⟩ rfl hl.1 rfl (Nat.le_of_ble_eq_true rfl) dX10_fault_9 ⟨Nat.zero_le _, Nat.zero_le _⟩ (fun H locs hW => ?_)
  refine lv_istore (lv' := [(4, .int r8), (3, .ref (ad (14 + r2) 0)), (0, .ref (ad 0 0)), (1, .int p1), (2, .int p2)]) hx hb dX10_fault_12 hl (by decide) rfl (fun ls hl => ?_)
  refine lv_iload hx hb dX10_fault_14 (lv_at hl 0 rfl) ?_
  refine lv_iconst (v := 3) hx hb dX10_fault_16 (by decide) ?_
  refine lv_idiv hx hb dX10_fault_17 (by decide) ?_
  refine lv_topi (fun w5_11 ew5_11 => ?_)
  replace h := lb_at ew5_11 h
  refine lv_istore (lv' := [(5, .int w5_11), (4, .int r8), (3, .ref (ad (14 + r2) 0)), (0, .ref (ad 0 0)), (1, .int p1), (2, .int p2)]) hx hb dX10_fault_18 hl (by decide) rfl (fun ls hl => ?_)
  refine lv_sipush (v := 1000) hx hb dX10_fault_20 (by decide) ?_
  refine lv_aload_n hx hb dX10_fault_23 rfl (lv_at hl 2 rfl) ?_
  refine lv_iload hx hb dX10_fault_24 (lv_at hl 0 rfl) ?_
  obtain ⟨r12, qq13, h⟩ := bnd1_s h
  replace hW := hW.perm (fo1 (k1 := (14 + r2)) (mC hs6) (cC hs6))
  refine cl_X10_300 hx hb hml hown hts hK hN hW (c_X0_ruleOf l D T A (ad (14 + r2)) (oc_X10 T (ad 0) (bb ad) (z_K9 0) ++ (wkL T ad z_K9 (L18.erase (14 + r2)) ++ Z)) (z_K9 (14 + r2)) w5_11 r12 qq13) ⟨Nat.le_of_ble_eq_true rfl, Nat.le_of_ble_eq_true rfl⟩ hl.1 rfl (Nat.le_of_ble_eq_true rfl) dX10_fault_26 ⟨Nat.zero_le _, Nat.zero_le _⟩ rfl (fun H locs hW => ?_)
  replace hW := hW.perm (fo1 (k1 := (14 + r2)) (mC hs6) (cC hs6)).symm
  refine lv_imul hx hb dX10_fault_29 ?_
  refine lv_bipush (v := 100) hx hb dX10_fault_30 (by decide) ?_
  refine lv_iload hx hb dX10_fault_32 (lv_at hl 1 rfl) ?_
  refine lv_iconst (v := 3) hx hb dX10_fault_34 (by decide) ?_
  refine lv_irem hx hb dX10_fault_35 (by decide) ?_
  refine lv_imul hx hb dX10_fault_36 ?_
  refine lv_iadd hx hb dX10_fault_37 ?_
  refine lv_bipush (v := 10) hx hb dX10_fault_38 (by decide) ?_
  refine lv_iload hx hb dX10_fault_40 (lv_at hl 0 rfl) ?_
  obtain ⟨r14, qq15, h⟩ := bnd1_s h
  refine cl_X10_303 hx hb hml hown hts hK hN hW (c_X10_placeOfEdge l D T A (oc_X10 T (ad 0) (bb ad) (z_K9 0) ++ (wkL T ad z_K9 L18 ++ Z)) w5_11 r14 qq15) ⟨Nat.le_of_ble_eq_true rfl, Nat.le_of_ble_eq_true rfl⟩ hl.1 rfl (Nat.le_of_ble_eq_true rfl) dX10_fault_42 ⟨Nat.zero_le _, Nat.zero_le _⟩ rfl (fun H locs hW => ?_)
  refine lv_imul hx hb dX10_fault_45 ?_
  refine lv_iadd hx hb dX10_fault_46 ?_
  refine lv_iload hx hb dX10_fault_47 (lv_at hl 0 rfl) ?_
  obtain ⟨r16, qq17, h⟩ := bnd1_s h
  refine cl_X10_306 hx hb hml hown hts hK hN hW (c_X10_wordsOfEdge l D T A (oc_X10 T (ad 0) (bb ad) (z_K9 0) ++ (wkL T ad z_K9 L18 ++ Z)) w5_11 r16 qq17) ⟨Nat.le_of_ble_eq_true rfl, Nat.le_of_ble_eq_true rfl⟩ hl.1 rfl (Nat.le_of_ble_eq_true rfl) dX10_fault_49 ⟨Nat.zero_le _, Nat.zero_le _⟩ rfl (fun H locs hW => ?_)
  refine lv_iadd hx hb dX10_fault_52 ?_
  obtain ⟨e90, e91, e92⟩ := ret3 h
  subst k
  subst r
  subst x_K9
  rw [hQ]
  exact x_reti hx hb hr hlk hW dX10_fault_53
set_option maxHeartbeats 4000000 in
set_option maxRecDepth 100000 in
theorem c_X10_fragments (l : Launch) (hfl : l.stackTraces = false) (D : va_G) (T : Nat → ClassId) (A : Nat → Prop) (ad : Nat → Nat → Nat) (hok : okad ad) (Z : va_W) (x_K : Nat → Ob) (p1 : Int32)  (k : Nat) (r : Int32) (x_K9 : Nat → Ob) (h : f_X10_fragments x_K p1 = some (k, r, x_K9)) : vx_Met l yX10_fragments (Cond.code yX10_fragments cX10_fragments 2 (some .int) :: wsL_law) (rmx 10 k) (Px D T A (oc_X10 T (ad 0) (bb ad) (x_K 0) ++ (wkL T ad x_K L18 ++ Z)) [.ref (ad 0 0), .int p1]) (Qxi D A (oc_X10 T (ad 0) (bb ad) (x_K9 0) ++ (wkL T ad x_K9 L18 ++ Z)) k r) (XCx D A (oc_X10 T (ad 0) (bb ad) (x_K9 0) ++ (wkL T ad x_K9 L18 ++ Z)) k) (ex1 k) (ex6 k) A := by
  refine vx_ofW (cc := cX10_fragments) (maxL := 2) (ret := (some .int)) (by decide +kernel) rfl ?_
  intro p e s m args below meth c s₁ B hml hout hv
  obtain ⟨ha, hP, hK, hD, hN, hE⟩ := hv
  have hx := B.exec
  have hb := B.bytes
  have hr := B.returns
  have hlk := B.notSynchronized
  have hts : ∀ w ∈ wsL_law, w.before args s = true := fun w hw => atoms_spec B.pre w (List.mem_cons_of_mem _ hw)
  have hown : s.vm.findClass RX10 = some m.cls := findClass_of_methodNamed B.named
  obtain ⟨hk0, hk1, hk2, hk3, hk4, hk5, hk6, hk7, hk9, hk10⟩ := id hok
  have hW : Wd D A s.heap (oc_X10 T (ad 0) (bb ad) (x_K 0) ++ (wkL T ad x_K L18 ++ Z)) s.heap [] := ⟨hP, hD, va_S.rf⟩
  have hl := lv_entry [.ref (ad 0 0), .int p1] (n := 2) (Nat.le_of_ble_eq_true rfl)
  refine W.eq (en_eq ha) ?_
  generalize (lg_sl [.ref (ad 0 0), .int p1] ++ List.replicate (2 - (lg_sl [.ref (ad 0 0), .int p1]).length) Slot.unset).toArray = ls at hl ⊢
  have hl : lv_has ls 2 [(0, .ref (ad 0 0)), (1, .int p1)] := hl
  clear hP hD B ha
  obtain ⟨Q, hQ⟩ : ∃ Q, Q = vx_MQ below (Qxi D A (oc_X10 T (ad 0) (bb ad) (x_K9 0) ++ (wkL T ad x_K9 L18 ++ Z)) k r) (XCx D A (oc_X10 T (ad 0) (bb ad) (x_K9 0) ++ (wkL T ad x_K9 L18 ++ Z)) k) args s (ex1 k) (ex6 k) A := ⟨_, rfl⟩
  rw [← hQ]
  change W p l e (rmx 10 k) s m args below meth c s.heap [] 0 0 Q (F0 m 0 ls [])
  rw [f_X10_fragments] at h
  suffices hm : ∀ (H : Heap) (locs : List Loc), Wd D A s.heap (oc_X10 T (ad 0) (bb ad) (x_K 0) ++ (wkL T ad x_K L18 ++ Z)) H locs → W p l e (rmx 10 k) s m args below meth c H locs 0 0 Q (F0 m 0 ls []) from hm _ _ hW
  intro H locs hW
  refine lv_aload_n hx hb dX10_fragments_0 rfl (lv_at hl 0 rfl) ?_
  refine fg_X10_54 (v := .ref (ad 6 0)) hx hb hts hown hK hW 0 rfl (by rw [← hk6]; rfl) dX10_fragments_1 ?_
  refine lv_aload_n hx hb dX10_fragments_4 rfl (lv_at hl 0 rfl) ?_
  refine lv_iload_n hx hb dX10_fragments_5 rfl (lv_at hl 1 rfl) ?_
  obtain ⟨k1, r2, z_K3, qq4, h⟩ := bnd3_s h
  by_cases hk : k1 = 0
  case neg =>
    replace h := ite_f hk h
    obtain ⟨e90, e91, e92⟩ := ret3 h
    subst k
    subst x_K9
    rw [hQ]
    exact xcx_X10_251 hk hout hlk (List.Perm.refl _) hx hb hml hown hts hK hN hE hW (c_X10_readAsNeeded l hfl D T A ad hok Z x_K p1 k1 r2 z_K3 qq4) ⟨Nat.le_of_ble_eq_true rfl, Nat.le_of_ble_eq_true rfl⟩ rfl hl.1 rfl (Nat.le_of_ble_eq_true rfl) dX10_fragments_6
  replace h := ite_t hk h
  subst hk
  refine xc0_X10_251 hx hb hml hown hts hK hN hE hW (c_X10_readAsNeeded l hfl D T A ad hok Z x_K p1 0 r2 z_K3 qq4) ⟨Nat.le_of_ble_eq_true rfl, Nat.le_of_ble_eq_true rfl⟩ rfl hl.1 rfl (Nat.le_of_ble_eq_true rfl) dX10_fragments_6 ⟨Nat.zero_le _, Nat.zero_le _⟩ (fun H locs hW => ?_)
  obtain ⟨g5, h⟩ := grd_s h
  have h4hs6 : r2 < 4 := of_decide_eq_true g5
  have hs6 : r2 < 5 := by omega
  obtain ⟨y_o7, qq8, h⟩ := bnd1_s h
  replace hW := hW.perm (fo2 (k1 := 6) (k2 := (14 + r2)) (by decide) (mC hs6) (by omega) rfl (cC hs6))
  refine cl_X10_309 hx hb hml hown hts hK hN hW (c_X1_cut l D T A (ad 6) (ad (14 + r2)) (oc_X10 T (ad 0) (bb ad) (z_K3 0) ++ (wkL T ad z_K3 ((L18.erase 6).erase (14 + r2)) ++ Z)) (z_K3 6) (z_K3 (14 + r2)) y_o7 qq8) ⟨Nat.le_of_ble_eq_true rfl, Nat.le_of_ble_eq_true rfl⟩ hl.1 rfl (Nat.le_of_ble_eq_true rfl) dX10_fragments_9 ⟨Nat.zero_le _, Nat.zero_le _⟩ rfl (fun H locs hW => ?_)
  obtain ⟨z_K9, ez_K9⟩ : ∃ y : Nat → Ob, y = va_up z_K3 6 y_o7 := ⟨_, rfl⟩
  replace h := lb_at ez_K9 h
  replace hW := hW.perm (ba2 (K' := z_K9) (k1 := 6) (k2 := (14 + r2)) (by decide) (mC hs6) (by omega) (by rw [ez_K9, va_up_ne _ _ (by omega)]) (fun k9 _ n0 n1 => by rw [ez_K9, va_up_ne _ _ n0]) (by rw [ez_K9, va_up_self]; exact rfl) (by rw [ez_K9, va_up_ne _ _ (by omega)]; exact (cC hs6)))
  refine lv_aload_n hx hb dX10_fragments_12 rfl (lv_at hl 0 rfl) ?_
  refine fg_X10_54 (v := .ref (ad 6 0)) hx hb hts hown hK hW 0 rfl (by rw [← hk6]; rfl) dX10_fragments_13 ?_
  obtain ⟨r10, qq11, h⟩ := bnd1_s h
  replace hW := hW.perm (fo1 (k1 := 6) (by decide) rfl)
  refine cl_X10_312 hx hb hml hown hts hK hN hW (c_X1_pieces l D T A (ad 6) (oc_X10 T (ad 0) (bb ad) (z_K9 0) ++ (wkL T ad z_K9 (L18.erase 6) ++ Z)) (z_K9 6) r10 qq11) ⟨Nat.le_of_ble_eq_true rfl, Nat.le_of_ble_eq_true rfl⟩ hl.1 rfl (Nat.le_of_ble_eq_true rfl) dX10_fragments_16 ⟨Nat.zero_le _, Nat.zero_le _⟩ rfl (fun H locs hW => ?_)
  replace hW := hW.perm (fo1 (k1 := 6) (by decide) rfl).symm
  obtain ⟨e90, e91, e92⟩ := ret3 h
  subst k
  subst r
  subst x_K9
  rw [hQ]
  exact x_reti hx hb hr hlk hW dX10_fragments_19
set_option maxHeartbeats 4000000 in
set_option maxRecDepth 100000 in
theorem c_X10_fragment (l : Launch) (hfl : l.stackTraces = false) (D : va_G) (T : Nat → ClassId) (A : Nat → Prop) (ad : Nat → Nat → Nat) (hok : okad ad) (Z : va_W) (x_K : Nat → Ob) (p1 : Int32) (p2 : Int32)  (k : Nat) (r : Int32) (x_K9 : Nat → Ob) (h : f_X10_fragment x_K p1 p2 = some (k, r, x_K9)) : vx_Met l yX10_fragment (Cond.code yX10_fragment cX10_fragment 4 (some .int) :: wsL_law) (rmx 10 k) (Px D T A (oc_X10 T (ad 0) (bb ad) (x_K 0) ++ (wkL T ad x_K L18 ++ Z)) [.ref (ad 0 0), .int p1, .int p2]) (Qxi D A (oc_X10 T (ad 0) (bb ad) (x_K9 0) ++ (wkL T ad x_K9 L18 ++ Z)) k r) (XCx D A (oc_X10 T (ad 0) (bb ad) (x_K9 0) ++ (wkL T ad x_K9 L18 ++ Z)) k) (ex1 k) (ex6 k) A := by
  refine vx_ofW (cc := cX10_fragment) (maxL := 4) (ret := (some .int)) (by decide +kernel) rfl ?_
  intro p e s m args below meth c s₁ B hml hout hv
  obtain ⟨ha, hP, hK, hD, hN, hE⟩ := hv
  have hx := B.exec
  have hb := B.bytes
  have hr := B.returns
  have hlk := B.notSynchronized
  have hts : ∀ w ∈ wsL_law, w.before args s = true := fun w hw => atoms_spec B.pre w (List.mem_cons_of_mem _ hw)
  have hown : s.vm.findClass RX10 = some m.cls := findClass_of_methodNamed B.named
  obtain ⟨hk0, hk1, hk2, hk3, hk4, hk5, hk6, hk7, hk9, hk10⟩ := id hok
  have hW : Wd D A s.heap (oc_X10 T (ad 0) (bb ad) (x_K 0) ++ (wkL T ad x_K L18 ++ Z)) s.heap [] := ⟨hP, hD, va_S.rf⟩
  have hl := lv_entry [.ref (ad 0 0), .int p1, .int p2] (n := 4) (Nat.le_of_ble_eq_true rfl)
  refine W.eq (en_eq ha) ?_
  generalize (lg_sl [.ref (ad 0 0), .int p1, .int p2] ++ List.replicate (4 - (lg_sl [.ref (ad 0 0), .int p1, .int p2]).length) Slot.unset).toArray = ls at hl ⊢
  have hl : lv_has ls 4 [(0, .ref (ad 0 0)), (1, .int p1), (2, .int p2)] := hl
  clear hP hD B ha
  obtain ⟨Q, hQ⟩ : ∃ Q, Q = vx_MQ below (Qxi D A (oc_X10 T (ad 0) (bb ad) (x_K9 0) ++ (wkL T ad x_K9 L18 ++ Z)) k r) (XCx D A (oc_X10 T (ad 0) (bb ad) (x_K9 0) ++ (wkL T ad x_K9 L18 ++ Z)) k) args s (ex1 k) (ex6 k) A := ⟨_, rfl⟩
  rw [← hQ]
  change W p l e (rmx 10 k) s m args below meth c s.heap [] 0 0 Q (F0 m 0 ls [])
  rw [f_X10_fragment] at h
  suffices hm : ∀ (H : Heap) (locs : List Loc), Wd D A s.heap (oc_X10 T (ad 0) (bb ad) (x_K 0) ++ (wkL T ad x_K L18 ++ Z)) H locs → W p l e (rmx 10 k) s m args below meth c H locs 0 0 Q (F0 m 0 ls []) from hm _ _ hW
  intro H locs hW
  refine lv_aload_n hx hb dX10_fragment_0 rfl (lv_at hl 0 rfl) ?_
  refine fg_X10_54 (v := .ref (ad 6 0)) hx hb hts hown hK hW 0 rfl (by rw [← hk6]; rfl) dX10_fragment_1 ?_
  refine lv_aload_n hx hb dX10_fragment_4 rfl (lv_at hl 0 rfl) ?_
  refine lv_iload_n hx hb dX10_fragment_5 rfl (lv_at hl 1 rfl) ?_
  obtain ⟨k1, r2, z_K3, qq4, h⟩ := bnd3_s h
  by_cases hk : k1 = 0
  case neg =>
    replace h := ite_f hk h
    obtain ⟨e90, e91, e92⟩ := ret3 h
    subst k
    subst x_K9
    rw [hQ]
    exact xcx_X10_251 hk hout hlk (List.Perm.refl _) hx hb hml hown hts hK hN hE hW (c_X10_readAsNeeded l hfl D T A ad hok Z x_K p1 k1 r2 z_K3 qq4) ⟨Nat.le_of_ble_eq_true rfl, Nat.le_of_ble_eq_true rfl⟩ rfl hl.1 rfl (Nat.le_of_ble_eq_true rfl) dX10_fragment_6
  replace h := ite_t hk h
  subst hk
  refine xc0_X10_251 hx hb hml hown hts hK hN hE hW (c_X10_readAsNeeded l hfl D T A ad hok Z x_K p1 0 r2 z_K3 qq4) ⟨Nat.le_of_ble_eq_true rfl, Nat.le_of_ble_eq_true rfl⟩ rfl hl.1 rfl (Nat.le_of_ble_eq_true rfl) dX10_fragment_6 ⟨Nat.zero_le _, Nat.zero_le _⟩ (fun H locs hW => ?_)
  obtain ⟨g5, h⟩ := grd_s h
  have h4hs6 : r2 < 4 := of_decide_eq_true g5
  have hs6 : r2 < 5 := by omega
  obtain ⟨y_o7, qq8, h⟩ := bnd1_s h
  replace hW := hW.perm (fo2 (k1 := 6) (k2 := (14 + r2)) (by decide) (mC hs6) (by omega) rfl (cC hs6))
  refine cl_X10_309 hx hb hml hown hts hK hN hW (c_X1_cut l D T A (ad 6) (ad (14 + r2)) (oc_X10 T (ad 0) (bb ad) (z_K3 0) ++ (wkL T ad z_K3 ((L18.erase 6).erase (14 + r2)) ++ Z)) (z_K3 6) (z_K3 (14 + r2)) y_o7 qq8) ⟨Nat.le_of_ble_eq_true rfl, Nat.le_of_ble_eq_true rfl⟩ hl.1 rfl (Nat.le_of_ble_eq_true rfl) dX10_fragment_9 ⟨Nat.zero_le _, Nat.zero_le _⟩ rfl (fun H locs hW => ?_)
  obtain ⟨z_K9, ez_K9⟩ : ∃ y : Nat → Ob, y = va_up z_K3 6 y_o7 := ⟨_, rfl⟩
  replace h := lb_at ez_K9 h
  replace hW := hW.perm (ba2 (K' := z_K9) (k1 := 6) (k2 := (14 + r2)) (by decide) (mC hs6) (by omega) (by rw [ez_K9, va_up_ne _ _ (by omega)]) (fun k9 _ n0 n1 => by rw [ez_K9, va_up_ne _ _ n0]) (by rw [ez_K9, va_up_self]; exact rfl) (by rw [ez_K9, va_up_ne _ _ (by omega)]; exact (cC hs6)))
  refine lv_iload_n hx hb dX10_fragment_12 rfl (lv_at hl 2 rfl) ?_
  refine lv_aload_n hx hb dX10_fragment_13 rfl (lv_at hl 0 rfl) ?_
  refine fg_X10_54 (v := .ref (ad 6 0)) hx hb hts hown hK hW 0 rfl (by rw [← hk6]; rfl) dX10_fragment_14 ?_
  obtain ⟨r10, qq11, h⟩ := bnd1_s h
  replace hW := hW.perm (fo1 (k1 := 6) (by decide) rfl)
  refine cl_X10_312 hx hb hml hown hts hK hN hW (c_X1_pieces l D T A (ad 6) (oc_X10 T (ad 0) (bb ad) (z_K9 0) ++ (wkL T ad z_K9 (L18.erase 6) ++ Z)) (z_K9 6) r10 qq11) ⟨Nat.le_of_ble_eq_true rfl, Nat.le_of_ble_eq_true rfl⟩ hl.1 rfl (Nat.le_of_ble_eq_true rfl) dX10_fragment_17 ⟨Nat.zero_le _, Nat.zero_le _⟩ rfl (fun H locs hW => ?_)
  replace hW := hW.perm (fo1 (k1 := 6) (by decide) rfl).symm
  obtain ⟨r12, qq13, h⟩ := bnd1_s h
  refine cl_X10_87 hx hb hml hown hts hK hN hW (c_X10_isBelow l D T A (oc_X10 T (ad 0) (bb ad) (z_K9 0) ++ (wkL T ad z_K9 L18 ++ Z)) p2 r10 r12 qq13) ⟨Nat.le_of_ble_eq_true rfl, Nat.le_of_ble_eq_true rfl⟩ hl.1 rfl (Nat.le_of_ble_eq_true rfl) dX10_fragment_20 ⟨Nat.zero_le _, Nat.zero_le _⟩ rfl (fun H locs hW => ?_)
  refine lv_if_ne (tgt := 37) hx hb dX10_fragment_23 (by decide) (fun c14 => ?_) (fun c14 => ?_)
  · replace h := ite_f c14 h
    refine lv_aload_n hx hb dX10_fragment_37 rfl (lv_at hl 0 rfl) ?_
    refine fg_X10_54 (v := .ref (ad 6 0)) hx hb hts hown hK hW 0 rfl (by rw [← hk6]; rfl) dX10_fragment_38 ?_
    refine lv_iload_n hx hb dX10_fragment_41 rfl (lv_at hl 2 rfl) ?_
    obtain ⟨r15, qq16, h⟩ := bnd1_s h
    replace hW := hW.perm (fo1 (k1 := 6) (by decide) rfl)
    refine cl_X10_317 hx hb hml hown hts hK hN hW (c_X1_placeOf l D T A (ad 6) (oc_X10 T (ad 0) (bb ad) (z_K9 0) ++ (wkL T ad z_K9 (L18.erase 6) ++ Z)) (z_K9 6) p2 r15 qq16) ⟨Nat.le_of_ble_eq_true rfl, Nat.le_of_ble_eq_true rfl⟩ hl.1 rfl (Nat.le_of_ble_eq_true rfl) dX10_fragment_42 ⟨Nat.zero_le _, Nat.zero_le _⟩ rfl (fun H locs hW => ?_)
    replace hW := hW.perm (fo1 (k1 := 6) (by decide) rfl).symm
    refine lv_istore_n (lv' := [(3, .int r15), (0, .ref (ad 0 0)), (1, .int p1), (2, .int p2)]) hx hb dX10_fragment_45 rfl hl (by decide) rfl (fun ls hl => ?_)
    refine lv_bipush (v := 10) hx hb dX10_fragment_46 (by decide) ?_
    refine lv_iload_n hx hb dX10_fragment_48 rfl (lv_at hl 0 rfl) ?_
    refine lv_imul hx hb dX10_fragment_49 ?_
    refine lv_aload_n hx hb dX10_fragment_50 rfl (lv_at hl 1 rfl) ?_
    refine fg_X10_54 (v := .ref (ad 6 0)) hx hb hts hown hK hW 0 rfl (by rw [← hk6]; rfl) dX10_fragment_51 ?_
    refine lv_iload_n hx hb dX10_fragment_54 rfl (lv_at hl 0 rfl) ?_
    obtain ⟨r17, qq18, h⟩ := bnd1_s h
    replace hW := hW.perm (fo1 (k1 := 6) (by decide) rfl)
    refine cl_X10_320 hx hb hml hown hts hK hN hW (c_X1_wordsFrom l D T A (ad 6) (oc_X10 T (ad 0) (bb ad) (z_K9 0) ++ (wkL T ad z_K9 (L18.erase 6) ++ Z)) (z_K9 6) r15 r17 qq18) ⟨Nat.le_of_ble_eq_true rfl, Nat.le_of_ble_eq_true rfl⟩ hl.1 rfl (Nat.le_of_ble_eq_true rfl) dX10_fragment_55 ⟨Nat.zero_le _, Nat.zero_le _⟩ rfl (fun H locs hW => ?_)
    replace hW := hW.perm (fo1 (k1 := 6) (by decide) rfl).symm
    refine lv_iadd hx hb dX10_fragment_58 ?_
    obtain ⟨e90, e91, e92⟩ := ret3 h
    subst k
    subst r
    subst x_K9
    rw [hQ]
    exact x_reti hx hb hr hlk hW dX10_fragment_59
  · replace h := ite_t c14 h
    obtain ⟨e90, e91, e92⟩ := ret3 h
    subst k
    subst r
    subst x_K9
    rw [hQ]
    exact xtw_177_181 hx hb hfl hown hts hE hW hml hl.1 hout hlk (List.mem_of_getElem? (i := 17) rfl) dX10_fragment_26 dX10_fragment_29 dX10_fragment_30 dX10_fragment_33 dX10_fragment_36 (by decide) (Nat.le_of_ble_eq_true rfl)
