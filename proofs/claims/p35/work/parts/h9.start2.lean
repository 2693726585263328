/-! The law from its entry: its rows are laid. -/
def zMp : Ob := fun k _ => if k = 54 then nM else iN 0
theorem RI_Kp : RI 0 K0 zMp := by
  refine RI_00 ?_ ?_ ?_ ?_
  · intro k h1 h2 i n
    have : K0 k = z0 := by unfold K0; rw [if_neg h1, if_neg h2]
    rw [this]; rfl
  · intro k h1 h2 i n
    have : K0 k = zX6 := by unfold K0; rw [if_neg (by omega), if_pos ⟨h1, by omega⟩]
    rw [this]; rfl
  · intro k hk n
    show (if k = 54 then nM else iN 0) = iN 0
    rw [if_neg hk]
  · intro s _
    rfl
def u00 : Rw := upd (upd (fun _ => 0) (0 : Int32).toNatClampNeg (-1)) (1 : Int32).toNatClampNeg (-1)
theorem LX_00 : LX (fun _ => 0) (fun _ => 0) u00 (fun _ => 0) (fun _ => 0) (fun _ => 0) (fun _ => 0) (fun _ => 0) (fun _ => 0) (fun _ => 0) (fun _ => 0) zMp := by
  refine ⟨⟨0, by decide, rfl, rfl, fun i hi => absurd hi (Nat.not_lt_zero i), fun i hi => ⟨0, by decide, fun _ => rfl, rfl, rfl, fun r hr => absurd hr (Nat.not_lt_zero r)⟩, ?_⟩, ⟨fun s hs => ⟨0, by decide, rfl, rfl, fun p hp => absurd hp (Nat.not_lt_zero p)⟩, rfl, rfl⟩, ⟨0, by decide, rfl, rfl, fun g hg => absurd hg (Nat.not_lt_zero g)⟩, ⟨0, by decide, rfl, rfl, fun g hg => absurd hg (Nat.not_lt_zero g), fun _ _ _ => rfl⟩, ⟨0, by decide, rfl, rfl, fun i hi => absurd hi (Nat.not_lt_zero i), fun i hi => ⟨rfl, 0, by decide, rfl, fun w hw => ?_⟩⟩, ⟨rfl, rfl, fun s hs => ⟨rfl, ?_, rfl, fun h1 => ?_⟩⟩⟩
  · intro e he
    have : e = 0 ∨ e = 1 := by omega
    rcases this with rfl | rfl
    · exact Or.inl ⟨by decide, rfl⟩
    · exact Or.inl ⟨by decide, rfl⟩
  · rw [Nat.zero_testBit]; rfl
  · show iN 0 = nM + iN 1
    rw [nM_p1]
  · exact absurd (show nM = iN 0 from h1) (by decide)
theorem LXe_00 : LXe zMp := by
  intro g hg
  rw [show zMp 15 0 = iN 0 from rfl, nnI (by decide)] at hg
  exact absurd hg (Nat.not_lt_zero g)
theorem pmRev {X0 X1 X2 X3 X4 X5 X6 X7 X8 X9 X10 X11 X12 X13 Z : va_W} : (X0 ++ (X1 ++ (X2 ++ (X3 ++ (X4 ++ (X5 ++ (X6 ++ (X7 ++ (X8 ++ (X9 ++ (X10 ++ (X11 ++ (X12 ++ (X13 ++ Z)))))))))))))).Perm (X13 ++ (X12 ++ (X11 ++ (X10 ++ (X9 ++ (X8 ++ (X7 ++ (X6 ++ (X5 ++ (X4 ++ (X3 ++ (X2 ++ (X1 ++ (X0 ++ Z)))))))))))))) := pf1.trans (pf2.trans (pf3.trans (pf4.trans (pf5.trans (pf6.trans (pf7.trans (pf8.trans (pf9.trans (pf10.trans (pf11.trans (pf12.trans (pf13))))))))))))
set_option maxHeartbeats 8000000 in
set_option maxRecDepth 100000 in
/-- from the entry, for every script of at most 260 ints -/
theorem whole_start {p : Program} {e : Env} {s : State} {m : MethodId} {below : List Frame} {meth : Method} {c : Code} (l : Launch) (hflags : l.flags = flags0) {b L : Nat} {xs : Nat → Int32} (hL : L ≤ 260) (C0 : lw_At p s m meth c b L xs) : W p l e room_1 s m #[Value.ref b] below meth c s.heap [] 0 0 (lw_Z below #[Value.ref b] s) (entryFrame m ([Value.ref b] : List Value).toArray 21) := by
  obtain ⟨hx, hb, hr, hml, hown0, hts0, hX, hbl, hlocks, hgv⟩ := id C0
  have hown : s.vm.findClass RL = some m.cls := hown0
  have hts : ∀ w ∈ wsL_law, w.before #[Value.ref b] s = true := fun w h => hts0 w (in_wsL w h)
  obtain ⟨A, eA⟩ : ∃ A : Nat → Prop, A = fun q : Nat => s.heap.size ≤ q := ⟨_, rfl⟩
  have hA : ∀ q : Nat, s.heap.size ≤ q → A q := fun q h => by rw [eA]; exact h
  have hAb : ∀ q : Nat, A q → s.heap.size ≤ q := fun q h => by rw [eA] at h; exact h
  have hbA : ¬ A b := fun h => Nat.not_le.mpr hbl (hAb b h)
  obtain ⟨D, T, hK⟩ := st_K hts0
  have hN : NN s := st_NN hts0
  have hO : va_AO RX6 s := va_AO.of (st_oth hts0).2.2.2.1
  have hC : NC s := st_NC hgv
  have hE : EX A s s.heap := st_EX hts0 hgv (fun a h1 h2 => absurd h1 (Nat.not_lt.mpr (hAb a h2)))
  have hfl : l.stackTraces = false := by
    have h0 : l.stackTraces = !l.flags.contains Jvm.noTraceFlag := rfl
    rw [h0, hflags]; decide +kernel
  have hW : Wd D A s.heap [] s.heap [] := ⟨fun k q h => by simp at h, ⟨fun i j p q h => by simp at h, fun k q h => by simp at h⟩, va_S.rf⟩
  have hl := lv_entry ([.ref b]) (n := 21) (Nat.le_of_ble_eq_true rfl)
  rw [lg_entry_eq]
  generalize (lg_sl ([.ref b]) ++ List.replicate (21 - (lg_sl ([.ref b])).length) Slot.unset).toArray = ls at hl ⊢
  have hl : lv_has ls 21 [(0, .ref b)] := hl
  refine va_new (ci := 10) (fs := [.null, .null, .null, .null, .null, .null, .null, .null, .null, .null, .null, .null, .int 0]) (C := RX10) (T := TX10) (N := 13) hx hb hts inlX10 tyX10 tyX10_ok hown (hts _ wm1_0) (hts _ wm1_1) (hts _ wm1_2) hK hW.1 hW.2.1 hW.2.2 hA rfl (fun j hj => by rcases (show j = 0 ∨ j = 1 ∨ j = 2 ∨ j = 3 ∨ j = 4 ∨ j = 5 ∨ j = 6 ∨ j = 7 ∨ j = 8 ∨ j = 9 ∨ j = 10 ∨ j = 11 ∨ j = 12 by omega) with rfl | rfl | rfl | rfl | rfl | rfl | rfl | rfl | rfl | rfl | rfl | rfl | rfl <;> rfl) (Nat.le_of_ble_eq_true rfl) (Nat.le_of_ble_eq_true rfl) dL_law_0 (fun q0 H hP hD hS => ?_)
  have hW : Wd D A s.heap ((q0, .inr (10, [.null, .null, .null, .null, .null, .null, .null, .null, .null, .null, .null, .null, .int 0])) :: []) H [] := ⟨hP.perm (List.perm_append_singleton _ _), hD.perm (List.perm_append_singleton _ _), hS⟩
  refine lv_dup hx hb dL_law_3 rfl ?_
  refine n_init10 hx hb hml hown hts hK hN hO hA hW (i_X10 l D T A q0 []) wm1_5 wm1_6 wm1_2 wm1_7 rfl ⟨by decide +kernel, by decide +kernel, by decide +kernel⟩ ⟨Nat.le_of_ble_eq_true rfl, Nat.le_of_ble_eq_true rfl⟩ hl.1 (Nat.le_of_ble_eq_true rfl) dL_law_4 ⟨Nat.le_of_ble_eq_true rfl, Nat.le_of_ble_eq_true rfl⟩ (fun ad H locs had hW => ?_)
  obtain ⟨hok, e0⟩ := had
  refine lv_astore_n (lv' := [(1, .ref q0), (0, .ref b)]) hx hb dL_law_7 rfl hl (by decide) rfl (fun ls hl => ?_)
  have hW : Wd D A s.heap (oc_X10 T (ad 0) (bb ad) (K0 0) ++ (wkL T ad K0 L18 ++ [])) H locs := hW
  refine W.widen (k := 1000) (n := 16 * 1000) (Nat.le_of_ble_eq_true rfl) (Nat.le_of_ble_eq_true rfl) ?_
  refine lv_bipush (v := 12) hx hb dL_law_8 (by decide) ?_
  refine l_newa (b := 1) hx hb hts hK hA hW 12 (by decide) (by decide) (by decide) (by decide) (by decide) ⟨Nat.le_of_ble_eq_true rfl, Nat.le_of_ble_eq_true rfl⟩ dL_law_10 (fun q2 H hW => ?_)
  refine lv_astore_n (lv' := [(2, .ref q2), (1, .ref q0), (0, .ref b)]) hx hb dL_law_12 rfl hl (by decide) rfl (fun ls hl => ?_)
  refine lv_bipush (v := 24) hx hb dL_law_13 (by decide) ?_
  refine l_newa (b := 2) hx hb hts hK hA hW 24 (by decide) (by decide) (by decide) (by decide) (by decide) ⟨Nat.le_of_ble_eq_true rfl, Nat.le_of_ble_eq_true rfl⟩ dL_law_15 (fun q3 H hW => ?_)
  refine lv_astore_n (lv' := [(3, .ref q3), (2, .ref q2), (1, .ref q0), (0, .ref b)]) hx hb dL_law_17 rfl hl (by decide) rfl (fun ls hl => ?_)
  refine lv_iconst (v := 2) hx hb dL_law_18 (by decide) ?_
  refine l_newa (b := 1) hx hb hts hK hA hW 2 (by decide) (by decide) (by decide) (by decide) (by decide) ⟨Nat.le_of_ble_eq_true rfl, Nat.le_of_ble_eq_true rfl⟩ dL_law_19 (fun q4 H hW => ?_)
  refine lv_astore (lv' := [(4, .ref q4), (3, .ref q3), (2, .ref q2), (1, .ref q0), (0, .ref b)]) hx hb dL_law_21 hl (by decide) rfl (fun ls hl => ?_)
  refine lv_bipush (v := 6) hx hb dL_law_23 (by decide) ?_
  refine l_newa (b := 1) hx hb hts hK hA hW 6 (by decide) (by decide) (by decide) (by decide) (by decide) ⟨Nat.le_of_ble_eq_true rfl, Nat.le_of_ble_eq_true rfl⟩ dL_law_25 (fun q5 H hW => ?_)
  refine lv_astore (lv' := [(5, .ref q5), (4, .ref q4), (3, .ref q3), (2, .ref q2), (1, .ref q0), (0, .ref b)]) hx hb dL_law_27 hl (by decide) rfl (fun ls hl => ?_)
  refine lv_bipush (v := 6) hx hb dL_law_29 (by decide) ?_
  refine l_newa (b := 1) hx hb hts hK hA hW 6 (by decide) (by decide) (by decide) (by decide) (by decide) ⟨Nat.le_of_ble_eq_true rfl, Nat.le_of_ble_eq_true rfl⟩ dL_law_31 (fun q6 H hW => ?_)
  refine lv_astore (lv' := [(6, .ref q6), (5, .ref q5), (4, .ref q4), (3, .ref q3), (2, .ref q2), (1, .ref q0), (0, .ref b)]) hx hb dL_law_33 hl (by decide) rfl (fun ls hl => ?_)
  refine lv_bipush (v := 6) hx hb dL_law_35 (by decide) ?_
  refine l_newa (b := 1) hx hb hts hK hA hW 6 (by decide) (by decide) (by decide) (by decide) (by decide) ⟨Nat.le_of_ble_eq_true rfl, Nat.le_of_ble_eq_true rfl⟩ dL_law_37 (fun q7 H hW => ?_)
  refine lv_astore (lv' := [(7, .ref q7), (6, .ref q6), (5, .ref q5), (4, .ref q4), (3, .ref q3), (2, .ref q2), (1, .ref q0), (0, .ref b)]) hx hb dL_law_39 hl (by decide) rfl (fun ls hl => ?_)
  refine lv_bipush (v := 12) hx hb dL_law_41 (by decide) ?_
  refine l_newa (b := 1) hx hb hts hK hA hW 12 (by decide) (by decide) (by decide) (by decide) (by decide) ⟨Nat.le_of_ble_eq_true rfl, Nat.le_of_ble_eq_true rfl⟩ dL_law_43 (fun q8 H hW => ?_)
  refine lv_astore (lv' := [(8, .ref q8), (7, .ref q7), (6, .ref q6), (5, .ref q5), (4, .ref q4), (3, .ref q3), (2, .ref q2), (1, .ref q0), (0, .ref b)]) hx hb dL_law_45 hl (by decide) rfl (fun ls hl => ?_)
  refine lv_bipush (v := 20) hx hb dL_law_47 (by decide) ?_
  refine l_newa (b := 2) hx hb hts hK hA hW 20 (by decide) (by decide) (by decide) (by decide) (by decide) ⟨Nat.le_of_ble_eq_true rfl, Nat.le_of_ble_eq_true rfl⟩ dL_law_49 (fun q9 H hW => ?_)
  refine lv_astore (lv' := [(9, .ref q9), (8, .ref q8), (7, .ref q7), (6, .ref q6), (5, .ref q5), (4, .ref q4), (3, .ref q3), (2, .ref q2), (1, .ref q0), (0, .ref b)]) hx hb dL_law_51 hl (by decide) rfl (fun ls hl => ?_)
  refine lv_bipush (v := 20) hx hb dL_law_53 (by decide) ?_
  refine l_newa (b := 2) hx hb hts hK hA hW 20 (by decide) (by decide) (by decide) (by decide) (by decide) ⟨Nat.le_of_ble_eq_true rfl, Nat.le_of_ble_eq_true rfl⟩ dL_law_55 (fun q10 H hW => ?_)
  refine lv_astore (lv' := [(10, .ref q10), (9, .ref q9), (8, .ref q8), (7, .ref q7), (6, .ref q6), (5, .ref q5), (4, .ref q4), (3, .ref q3), (2, .ref q2), (1, .ref q0), (0, .ref b)]) hx hb dL_law_57 hl (by decide) rfl (fun ls hl => ?_)
  refine lv_bipush (v := 60) hx hb dL_law_59 (by decide) ?_
  refine l_newa (b := 4) hx hb hts hK hA hW 60 (by decide) (by decide) (by decide) (by decide) (by decide) ⟨Nat.le_of_ble_eq_true rfl, Nat.le_of_ble_eq_true rfl⟩ dL_law_61 (fun q11 H hW => ?_)
  refine lv_astore (lv' := [(11, .ref q11), (10, .ref q10), (9, .ref q9), (8, .ref q8), (7, .ref q7), (6, .ref q6), (5, .ref q5), (4, .ref q4), (3, .ref q3), (2, .ref q2), (1, .ref q0), (0, .ref b)]) hx hb dL_law_63 hl (by decide) rfl (fun ls hl => ?_)
  refine lv_iconst (v := 5) hx hb dL_law_65 (by decide) ?_
  refine l_newa (b := 1) hx hb hts hK hA hW 5 (by decide) (by decide) (by decide) (by decide) (by decide) ⟨Nat.le_of_ble_eq_true rfl, Nat.le_of_ble_eq_true rfl⟩ dL_law_66 (fun q12 H hW => ?_)
  refine lv_astore (lv' := [(12, .ref q12), (11, .ref q11), (10, .ref q10), (9, .ref q9), (8, .ref q8), (7, .ref q7), (6, .ref q6), (5, .ref q5), (4, .ref q4), (3, .ref q3), (2, .ref q2), (1, .ref q0), (0, .ref b)]) hx hb dL_law_68 hl (by decide) rfl (fun ls hl => ?_)
  refine lv_bipush (v := 16) hx hb dL_law_70 (by decide) ?_
  refine l_newa (b := 1) hx hb hts hK hA hW 16 (by decide) (by decide) (by decide) (by decide) (by decide) ⟨Nat.le_of_ble_eq_true rfl, Nat.le_of_ble_eq_true rfl⟩ dL_law_72 (fun q13 H hW => ?_)
  refine lv_astore (lv' := [(13, .ref q13), (12, .ref q12), (11, .ref q11), (10, .ref q10), (9, .ref q9), (8, .ref q8), (7, .ref q7), (6, .ref q6), (5, .ref q5), (4, .ref q4), (3, .ref q3), (2, .ref q2), (1, .ref q0), (0, .ref b)]) hx hb dL_law_74 hl (by decide) rfl (fun ls hl => ?_)
  refine lv_bipush (v := 30) hx hb dL_law_76 (by decide) ?_
  refine l_newa (b := 2) hx hb hts hK hA hW 30 (by decide) (by decide) (by decide) (by decide) (by decide) ⟨Nat.le_of_ble_eq_true rfl, Nat.le_of_ble_eq_true rfl⟩ dL_law_78 (fun q14 H hW => ?_)
  refine lv_astore (lv' := [(14, .ref q14), (13, .ref q13), (12, .ref q12), (11, .ref q11), (10, .ref q10), (9, .ref q9), (8, .ref q8), (7, .ref q7), (6, .ref q6), (5, .ref q5), (4, .ref q4), (3, .ref q3), (2, .ref q2), (1, .ref q0), (0, .ref b)]) hx hb dL_law_80 hl (by decide) rfl (fun ls hl => ?_)
  refine lv_bipush (v := 6) hx hb dL_law_82 (by decide) ?_
  refine l_newa (b := 1) hx hb hts hK hA hW 6 (by decide) (by decide) (by decide) (by decide) (by decide) ⟨Nat.le_of_ble_eq_true rfl, Nat.le_of_ble_eq_true rfl⟩ dL_law_84 (fun q15 H hW => ?_)
  refine lv_astore (lv' := [(15, .ref q15), (14, .ref q14), (13, .ref q13), (12, .ref q12), (11, .ref q11), (10, .ref q10), (9, .ref q9), (8, .ref q8), (7, .ref q7), (6, .ref q6), (5, .ref q5), (4, .ref q4), (3, .ref q3), (2, .ref q2), (1, .ref q0), (0, .ref b)]) hx hb dL_law_86 hl (by decide) rfl (fun ls hl => ?_)
  have hW := hW.perm pmRev
  refine lv_aload hx hb dL_law_88 (lv_at hl 11 rfl) ?_
  refine lv_iconst (v := 0) hx hb dL_law_90 (by decide) ?_
  refine lv_iconst (v := (-1)) hx hb dL_law_91 (by decide) ?_
  refine g_iast (ws9 := oA T 12 q2 (fun _ => 0) ++ (oA T 24 q3 (fun _ => 0) ++ (oA T 2 q4 (upd (fun _ => 0) (0 : Int32).toNatClampNeg (-1)) ++ (oA T 6 q5 (fun _ => 0) ++ (oA T 6 q6 (fun _ => 0) ++ (oA T 6 q7 (fun _ => 0) ++ (oA T 12 q8 (fun _ => 0) ++ (oA T 20 q9 (fun _ => 0) ++ (oA T 20 q10 (fun _ => 0) ++ (oA T 60 q11 (fun _ => 0) ++ (oA T 5 q12 (fun _ => 0) ++ (oA T 16 q13 (fun _ => 0) ++ (oA T 30 q14 (fun _ => 0) ++ (oA T 6 q15 (fun _ => 0) ++ (oc_X10 T (ad 0) (bb ad) (K0 0) ++ (wkL T ad K0 L18 ++ [])))))))))))))))) hx hb hK hW 2 rfl (by decide) rfl dL_law_92 (fun H locs hW => ?_)
  refine lv_aload hx hb dL_law_93 (lv_at hl 11 rfl) ?_
  refine lv_iconst (v := 1) hx hb dL_law_95 (by decide) ?_
  refine lv_iconst (v := (-1)) hx hb dL_law_96 (by decide) ?_
  refine g_iast (ws9 := oA T 12 q2 (fun _ => 0) ++ (oA T 24 q3 (fun _ => 0) ++ (oA T 2 q4 (u00) ++ (oA T 6 q5 (fun _ => 0) ++ (oA T 6 q6 (fun _ => 0) ++ (oA T 6 q7 (fun _ => 0) ++ (oA T 12 q8 (fun _ => 0) ++ (oA T 20 q9 (fun _ => 0) ++ (oA T 20 q10 (fun _ => 0) ++ (oA T 60 q11 (fun _ => 0) ++ (oA T 5 q12 (fun _ => 0) ++ (oA T 16 q13 (fun _ => 0) ++ (oA T 30 q14 (fun _ => 0) ++ (oA T 6 q15 (fun _ => 0) ++ (oc_X10 T (ad 0) (bb ad) (K0 0) ++ (wkL T ad K0 L18 ++ [])))))))))))))))) hx hb hK hW 2 rfl (by decide) rfl dL_law_97 (fun H locs hW => ?_)
  refine lv_iconst (v := 0) hx hb dL_law_98 (by decide) ?_
  refine lv_istore (lv' := [(16, .int 0), (15, .ref q15), (14, .ref q14), (13, .ref q13), (12, .ref q12), (11, .ref q11), (10, .ref q10), (9, .ref q9), (8, .ref q8), (7, .ref q7), (6, .ref q6), (5, .ref q5), (4, .ref q4), (3, .ref q3), (2, .ref q2), (1, .ref q0), (0, .ref b)]) hx hb dL_law_99 hl (by decide) rfl (fun ls hl => ?_)
  have C1 : LC2 p l s m c D T A b L xs ad := ⟨hx, hb, hml, hown, hts, hX, hbl, hbA, hL, hK, hN, hE, hC, hok, hfl, hA⟩
  rw [← e0] at hl
  have hl : lv_has ls 21 [(0, .ref b), (1, .ref (ad 0 0)), (2, .ref q2), (3, .ref q3), (4, .ref q4), (5, .ref q5), (6, .ref q6), (7, .ref q7), (8, .ref q8), (9, .ref q9), (10, .ref q10), (11, .ref q11), (12, .ref q12), (13, .ref q13), (14, .ref q14), (15, .ref q15), (16, .int 0)] := lv_sub hl [16, 15, 14, 13, 12, 11, 10, 9, 8, 7, 6, 5, 4, 3, 2, 1, 0] rfl
  have hW : Wd D A s.heap (lwd T ad (fun i => [0, 0, q2, q3, q4, q5, q6, q7, q8, q9, q10, q11, q12, q13, q14, q15].getD i 0) K0 (fun _ => 0) (fun _ => 0) u00 (fun _ => 0) (fun _ => 0) (fun _ => 0) (fun _ => 0) (fun _ => 0) (fun _ => 0) (fun _ => 0) (fun _ => 0) (fun _ => 0) (fun _ => 0) (fun _ => 0)) H locs := hW
  refine law_loop (am := (fun i => [0, 0, q2, q3, q4, q5, q6, q7, q8, q9, q10, q11, q12, q13, q14, q15].getD i 0)) C1 (fun H locs N ls ws hW hN => ?_) 90 0 _ 0 K0 zMp (fun _ => 0) (fun _ => 0) u00 (fun _ => 0) (fun _ => 0) (fun _ => 0) (fun _ => 0) (fun _ => 0) (fun _ => 0) (fun _ => 0) (fun _ => 0) (fun _ => 0) (fun _ => 0) (fun _ => 0) H locs ls rfl rfl RI_Kp LX_00 LXe_00 (Nat.le_of_ble_eq_true rfl) hW hl
  refine va_forget (fun q hq => hAb _ (hW.2.2.2.2 q hq)) ?_
  exact W.widen (k := 600074) (n := 7301550) (by omega) (by omega) (lw_ret hx hb hr hlocks dL_law_510)
