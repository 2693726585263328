theorem lg_cmp_self (x : Int64) : lg_cmp x x = 0 := by
  unfold lg_cmp
  rw [if_neg (show ¬ x > x by simp only [gt_iff_lt, Int64.lt_iff_toInt_lt]; omega), if_pos rfl]
/-- what is known all along in the law's body -/
def LC (p : Program) (l : Launch) (s : State) (m : MethodId) (c : Code) (D : va_G) (T : Nat → ClassId) (A : Nat → Prop) (b L : Nat) (xs : Nat → Int32) (ad : Nat → Nat → Nat) : Prop :=
  p.tables.exec = Jvm.exec ∧ c.code = code ∧ c.maxLocals = 7 ∧ s.vm.findClass RL = some m.cls ∧ (∀ w ∈ wsL_law, w.before #[Value.ref b] s = true) ∧ va_X b L xs s s.heap ∧ b < s.heap.size ∧ ¬ A b ∧ L ≤ 3584 ∧ va_K D vwCl (tys T) s ∧ NN s ∧ EX A s s.heap ∧ NC s ∧ okad ad ∧ l.stackTraces = false
def lw (T : Nat → ClassId) (ad : Nat → Nat → Nat) (am : Nat → Nat) (ao : Nat) (K : Nat → Ob) (M : Ob) (g : Nat → Int64) : va_W := outc T ao g ++ (oc_X10 T (ad 0) (bb ad) (K 0) ++ (wkL T ad K L18 ++ (oc_X11 T am M ++ [])))
/-- the law at a place of its loop's body -/
abbrev LW (p : Program) (l : Launch) (e : Env) (s : State) (m : MethodId) (b : Nat) (below : List Frame) (meth : Method) (c : Code) (H : Heap) (locs : List Loc) (cells slots : Nat) (Q : State → Prop) (g : JFrame) : Prop := W p l e room_1 s m #[Value.ref b] below meth c H locs cells slots Q g
section LAWROWS
variable {p : Program} {l : Launch} {e : Env} {s : State} {m : MethodId} {below : List Frame} {meth : Method} {c : Code} {Q : State → Prop} {D : va_G} {T : Nat → ClassId} {A : Nat → Prop} {H0 : Heap} {b L : Nat} {xs : Nat → Int32} {ad : Nat → Nat → Nat} {am : Nat → Nat} {ao : Nat} {H : Heap} {locs : List Loc} {cells slots pc n : Nat} {ls : Array Slot} {rest st : List Value} {ws ws9 : va_W} {r : Int32} {As : List Value} {y : MethodName} {bytes : ByteArray} {maxL index d1 k : Nat} {ret : Option FieldType} {hh : List (Nat × Nat × Nat × Nat)}
theorem l_wrap (C0 : LC p l s m c D T A b L xs ad) (hW : Wd D A s.heap ws H locs) (hM : Met l y (Cond.codeWith y bytes maxL ret hh :: wsL_law) (rmx d1 k) (Pw D T A ws As) (Qgi D A ws9 r) (ex1 k) (ex6 k) A) (h1 : Cond.methodLink RL index y ∈ wsL_law) (h2 : Cond.static y ∈ wsL_law) (h4 : Cond.initialized y.cls ∈ wsL_law) (h5 : Cond.codeWith y bytes maxL ret hh ∈ wsL_law) (hd : y.cls ≠ "java/lang/invoke/MethodHandle" ∧ y.cls ≠ "java/lang/invoke/VarHandle" ∧ (parseMethodDescriptor y.desc).map (fun d => d.parameters.length) = some n) (hR : d1 + 1 ≤ 15 ∧ 8 + (maxL + 11) + 40 * d1 ≤ 584) (hc1 : cells ≤ 2000) (hs1 : slots ≤ 400000)
    (hn : As.length = n) (hsz : ls.size = 7) (hst : st = As.reverse ++ rest) (h8 : (rest.map fun v => v.category).sum ≤ 8) (d : decode code pc = .ok (.invokestatic index, 3))
    (kk : ∀ (H1 : Heap) (locs1 : List Loc), Wd D A s.heap ws9 H1 locs1 → LW p l e s m b below meth c H1 locs1 (cells + 1) (slots + 6) Q (F0 m (pc + 3) ls (.int r :: rest))) : LW p l e s m b below meth c H locs cells slots Q (F0 m pc ls st) := by
  obtain ⟨hx, hb, hml, hown, hts, hX, hbl, hbA, hL, hK, hN, hE, hC, hok, hfl⟩ := C0
  subst hst
  have e1 : ex1 k ≤ 1 := by unfold ex1; split <;> omega
  have e6 : ex6 k ≤ 6 := by unfold ex6; split <;> omega
  refine va_calli (vx_runSW (As := As) (rest := rest) ⟨hx, hb, hml, hown, hts⟩ hM (vx_cwSW n hts (gwGood (by
    intro w hw
    rcases List.mem_append.mp hw with h | h
    · simp only [List.mem_cons, List.not_mem_nil, or_false] at h
      rcases h with rfl | rfl | rfl
      · exact h1
      · exact h2
      · exact h4
    · rcases List.mem_cons.mp h with rfl | h
      · exact h5
      · exact h)) rfl rfl rfl hd hR) ⟨Pw_bl, fun U hU hw => w_pre hK hN (hE.kept hW.2.2.2.1) hC hW hU hw⟩ rfl hn hsz rfl (lv_room h8) d ⟨?_, ?_⟩) hW.2.2 (fun q _ h => h) (fun q h => h) (fun r2 u t H1 locs1 ht hvm hw hB hz1 hk1 hS => ?_)
  · show cells + ex1 k ≤ 601024
    omega
  · show slots + ex6 k ≤ 7293034
    omega
  · subst hw
    exact W.widen (by omega) (by omega) (kk H1 locs1 ⟨by rw [← ht]; exact hB.1, hB.2, hS⟩)
theorem l_mod (C0 : LC p l s m c D T A b L xs ad) (hW : Wd D A s.heap ws H locs) (cw : CallW room_1 s #[Value.ref b] RL RX11 index y bytes maxL ret (Cond.code y bytes maxL ret :: wsL_law) (rmd d1) 0 0 n) {a : Nat} {fs : List Value} (hrc : ws[0]? = some (a, .inr (11, fs))) (hM : Met l y (Cond.code y bytes maxL ret :: wsL_law) (rmd d1) (Pg D T A ws (.ref a :: As)) (Qgi D A ws9 r) 0 0 A) (hn : As.length = n) (hsz : ls.size = 7) (hst : st = As.reverse ++ .ref a :: rest) (h8 : (rest.map fun v => v.category).sum ≤ 8) (d : decode code pc = .ok (.invokevirtual index, 3)) (hc1 : cells ≤ 2001) (hs1 : slots ≤ 400006)
    (kk : ∀ (H1 : Heap) (locs1 : List Loc), Wd D A s.heap ws9 H1 locs1 → LW p l e s m b below meth c H1 locs1 cells slots Q (F0 m (pc + 3) ls (.int r :: rest))) : LW p l e s m b below meth c H locs cells slots Q (F0 m pc ls st) := by
  obtain ⟨hx, hb, hml, hown, hts, hX, hbl, hbA, hL, hK, hN, hE, hC, hok, hfl⟩ := C0
  refine g_cvi hx hb hml hown hts hK hN hW cw ⟨11, (RX11, TX11, 68), fs, rfl, rfl, hrc⟩ hM hn hsz hst h8 d ⟨?_, ?_⟩ kk
  · show cells ≤ 601024
    omega
  · show slots ≤ 7293034
    omega
end LAWROWS
section LAWCASES
variable {p : Program} {l : Launch} {e : Env} {s : State} {m : MethodId} {below : List Frame} {meth : Method} {c : Code} {Q : State → Prop} {D : va_G} {T : Nat → ClassId} {A : Nat → Prop} {H0 : Heap} {b L : Nat} {xs : Nat → Int32} {ad : Nat → Nat → Nat} {am : Nat → Nat} {ao : Nat}
set_option maxHeartbeats 4000000 in
set_option maxRecDepth 100000 in
theorem law_word {RI : Nat → (Nat → Ob) → Ob → Prop} {j i : Nat} {x4 : Int32} {K : Nat → Ob} {M : Ob} {g : Nat → Int64} {H : Heap} {locs : List Loc} {cells slots : Nat} {ls : Array Slot} (C0 : LC p l s m c D T A b L xs ad) (hop : Op_word RI j K M (xs (x4 + 1).toNatClampNeg)) (hi : i + 6 < L) (ex4 : x4 = nI i) (hc1 : cells ≤ 2000) (hs1 : slots ≤ 400000) (hW : Wd D A s.heap (lw T ad am ao K M g) H locs) (hl : lv_has ls 7 [(0, .ref b), (1, .ref (ad 0 0)), (2, .ref (am 0)), (3, .ref ao), (4, .int x4)])
    (kk : ∀ (K9 : Nat → Ob) (M9 : Ob) (g9 : Nat → Int64) (H : Heap) (locs : List Loc) (ls : Array Slot), RI (j + 1) K9 M9 → Wd D A s.heap (lw T ad am ao K9 M9 g9) H locs → lv_has ls 7 [(0, .ref b), (1, .ref (ad 0 0)), (2, .ref (am 0)), (3, .ref ao), (4, .int x4)] → LW p l e s m b below meth c H locs (cells + 1) (slots + 6) Q (F0 m 2470 ls [])) : LW p l e s m b below meth c H locs cells slots Q (F0 m 184 ls []) := by
  obtain ⟨hx, hb, hml, hown, hts, hX, hbl, hbA, hL, hK, hN, hE, hC, hok, hfl⟩ := id C0
  have hi1 : vp_in (x4 + 1) L := by rw [ex4, show (1 : Int32) = nI 1 from rfl, nI_add]; exact vp_in_nI (by omega) (by omega)
  unfold lw at hW
  obtain ⟨k, r, K9, b9, M9, t, q1, q2, q3, hd, hRI⟩ := hop
  rcases hd with ⟨rfl, rfl, rfl⟩ | ⟨rfl, rfl⟩ | ⟨rfl, rfl⟩
  · refine lv_aload_n hx hb dL_law_184 rfl (lv_at hl 1 rfl) ?_
    refine lv_aload_n hx hb dL_law_185 rfl (lv_at hl 0 rfl) ?_
    refine lv_iload hx hb dL_law_186 (lv_at hl 4 rfl) ?_
    refine lv_iconst (v := 1) hx hb dL_law_188 (by decide) ?_
    refine lv_iadd hx hb dL_law_189 ?_
    refine va_sld hx hb hX hbl hbA hW.2.2 hi1 dL_law_190 ?_
    refine lv_aload_n hx hb dL_law_191 rfl (lv_at hl 3 rfl) ?_
    refine l_wrap (n := 3) C0 hW (wL_word_0 l hfl D T A ad hok (oc_X11 T am M ++ []) ao g K (xs (x4 + 1).toNatClampNeg) r K9 q1) wm9_20 wm9_21 wm9_22 wm9_23 ⟨by decide +kernel, by decide +kernel, by decide +kernel⟩ ⟨by decide, by decide⟩ hc1 hs1 rfl hl.1 rfl (Nat.le_of_ble_eq_true rfl) dL_law_192 (fun H locs hW => ?_)
    refine lv_istore (lv' := [(5, .int 0), (0, .ref b), (1, .ref (ad 0 0)), (2, .ref (am 0)), (3, .ref ao), (4, .int x4)]) hx hb dL_law_195 hl (by decide) rfl (fun ls hl => ?_)
    refine lv_aload_n hx hb dL_law_197 rfl (lv_at hl 3 rfl) ?_
    refine lv_aload_n hx hb dL_law_198 rfl (lv_at hl 1 rfl) ?_
    refine lv_iload hx hb dL_law_199 (lv_at hl 5 rfl) ?_
    refine lv_iconst (v := 1) hx hb dL_law_201 (by decide) ?_
    refine lv_iadd hx hb dL_law_202 ?_
    refine va_sld hx hb hX hbl hbA hW.2.2 hi1 dL_law_203 ?_
    have hW := hW.perm pf3
    refine l_mod (As := [.int (xs (x4 + 1).toNatClampNeg)]) C0 hW (g_cw (n := 1) hts wm10_21 wm10_22 wm10_23 wm1_5 wm11_0 ⟨rfl, by decide +kernel, by decide +kernel, by decide +kernel⟩ ⟨rfl, rfl⟩ ⟨by decide, by decide⟩) rfl (c_X11_word l D T A am (outc T ao (vp_updL g 0 r.toInt64) ++ (oc_X10 T (ad 0) (bb ad) (K9 0) ++ (wkL T ad K9 L18 ++ []))) M (xs (x4 + 1).toNatClampNeg) r M9 q2) rfl hl.1 rfl (Nat.le_of_ble_eq_true rfl) dL_law_204 (by omega) (by omega) (fun H locs hW => ?_)
    have hW := hW.perm pf3.symm
    refine lv_istore (lv' := [(6, .int r), (5, .int 0), (0, .ref b), (1, .ref (ad 0 0)), (2, .ref (am 0)), (3, .ref ao), (4, .int x4)]) hx hb dL_law_207 hl (by decide) rfl (fun ls hl => ?_)
    refine lv_aload_n hx hb dL_law_209 rfl (lv_at hl 4 rfl) ?_
    have hW := hW.perm pf3
    refine l_mod (As := []) C0 hW (g_cw (n := 0) hts wm11_13 wm11_14 wm11_15 wm1_5 wm11_16 ⟨rfl, by decide +kernel, by decide +kernel, by decide +kernel⟩ ⟨rfl, rfl⟩ ⟨by decide, by decide⟩) rfl (c_X11_thrown l D T A am (outc T ao (vp_updL g 0 r.toInt64) ++ (oc_X10 T (ad 0) (bb ad) (K9 0) ++ (wkL T ad K9 L18 ++ []))) M9 0 q3) rfl hl.1 rfl (Nat.le_of_ble_eq_true rfl) dL_law_210 (by omega) (by omega) (fun H locs hW => ?_)
    have hW := hW.perm pf3.symm
    refine lv_iload hx hb dL_law_213 (lv_at hl 1 rfl) ?_
    refine lv_icmp_eq (tgt := 220) hx hb dL_law_215 (by decide) (fun _ => ?_) (fun c9 => absurd rfl c9)
    refine lv_iload hx hb dL_law_220 (lv_at hl 1 rfl) ?_
    refine lv_if_ne (tgt := 237) hx hb dL_law_222 (by decide) (fun c9 => absurd rfl c9) (fun _ => ?_)
    refine lv_aload_n hx hb dL_law_225 rfl (lv_at hl 5 rfl) ?_
    refine lv_iconst (v := 0) hx hb dL_law_226 (by decide) ?_
    refine va_lald hx hb hK hW.1 0 3 rfl rfl (gd_in (by decide)) dL_law_227 ?_
    rw [show (vp_updL g 0 r.toInt64) (0 : Int32).toNatClampNeg = r.toInt64 from rfl]
    refine lv_iload hx hb dL_law_228 (lv_at hl 0 rfl) ?_
    refine lv_i2l (v := r.toInt64) hx hb dL_law_230 rfl ?_
    refine W.lcmp hx hb dL_law_231 ?_
    rw [lg_cmp_self]
    refine lv_if_eq (tgt := 237) hx hb dL_law_232 (by decide) (fun _ => ?_) (fun c9 => absurd rfl c9)
    refine lv_goto (tgt := 2470) hx hb dL_law_237 (by decide) ?_
    exact kk K9 M9 (vp_updL g 0 r.toInt64) H locs ls hRI hW (lv_sub hl [2, 3, 4, 5, 6] rfl)
  · refine lv_aload_n hx hb dL_law_184 rfl (lv_at hl 1 rfl) ?_
    refine lv_aload_n hx hb dL_law_185 rfl (lv_at hl 0 rfl) ?_
    refine lv_iload hx hb dL_law_186 (lv_at hl 4 rfl) ?_
    refine lv_iconst (v := 1) hx hb dL_law_188 (by decide) ?_
    refine lv_iadd hx hb dL_law_189 ?_
    refine va_sld hx hb hX hbl hbA hW.2.2 hi1 dL_law_190 ?_
    refine lv_aload_n hx hb dL_law_191 rfl (lv_at hl 3 rfl) ?_
    refine l_wrap (n := 3) C0 hW (wL_word_2 l hfl D T A ad hok (oc_X11 T am M ++ []) ao g K (xs (x4 + 1).toNatClampNeg) r K9 q1) wm9_20 wm9_21 wm9_22 wm9_23 ⟨by decide +kernel, by decide +kernel, by decide +kernel⟩ ⟨by decide, by decide⟩ hc1 hs1 rfl hl.1 rfl (Nat.le_of_ble_eq_true rfl) dL_law_192 (fun H locs hW => ?_)
    refine lv_istore (lv' := [(5, .int 1), (0, .ref b), (1, .ref (ad 0 0)), (2, .ref (am 0)), (3, .ref ao), (4, .int x4)]) hx hb dL_law_195 hl (by decide) rfl (fun ls hl => ?_)
    refine lv_aload_n hx hb dL_law_197 rfl (lv_at hl 3 rfl) ?_
    refine lv_aload_n hx hb dL_law_198 rfl (lv_at hl 1 rfl) ?_
    refine lv_iload hx hb dL_law_199 (lv_at hl 5 rfl) ?_
    refine lv_iconst (v := 1) hx hb dL_law_201 (by decide) ?_
    refine lv_iadd hx hb dL_law_202 ?_
    refine va_sld hx hb hX hbl hbA hW.2.2 hi1 dL_law_203 ?_
    have hW := hW.perm pf3
    refine l_mod (As := [.int (xs (x4 + 1).toNatClampNeg)]) C0 hW (g_cw (n := 1) hts wm10_21 wm10_22 wm10_23 wm1_5 wm11_0 ⟨rfl, by decide +kernel, by decide +kernel, by decide +kernel⟩ ⟨rfl, rfl⟩ ⟨by decide, by decide⟩) rfl (c_X11_word l D T A am (outc T ao g ++ (oc_X10 T (ad 0) (bb ad) (K9 0) ++ (wkL T ad K9 L18 ++ []))) M (xs (x4 + 1).toNatClampNeg) b9 M9 q2) rfl hl.1 rfl (Nat.le_of_ble_eq_true rfl) dL_law_204 (by omega) (by omega) (fun H locs hW => ?_)
    have hW := hW.perm pf3.symm
    refine lv_istore (lv' := [(6, .int b9), (5, .int 1), (0, .ref b), (1, .ref (ad 0 0)), (2, .ref (am 0)), (3, .ref ao), (4, .int x4)]) hx hb dL_law_207 hl (by decide) rfl (fun ls hl => ?_)
    refine lv_aload_n hx hb dL_law_209 rfl (lv_at hl 4 rfl) ?_
    have hW := hW.perm pf3
    refine l_mod (As := []) C0 hW (g_cw (n := 0) hts wm11_13 wm11_14 wm11_15 wm1_5 wm11_16 ⟨rfl, by decide +kernel, by decide +kernel, by decide +kernel⟩ ⟨rfl, rfl⟩ ⟨by decide, by decide⟩) rfl (c_X11_thrown l D T A am (outc T ao g ++ (oc_X10 T (ad 0) (bb ad) (K9 0) ++ (wkL T ad K9 L18 ++ []))) M9 1 q3) rfl hl.1 rfl (Nat.le_of_ble_eq_true rfl) dL_law_210 (by omega) (by omega) (fun H locs hW => ?_)
    have hW := hW.perm pf3.symm
    refine lv_iload hx hb dL_law_213 (lv_at hl 1 rfl) ?_
    refine lv_icmp_eq (tgt := 220) hx hb dL_law_215 (by decide) (fun _ => ?_) (fun c9 => absurd rfl c9)
    refine lv_iload hx hb dL_law_220 (lv_at hl 1 rfl) ?_
    refine lv_if_ne (tgt := 237) hx hb dL_law_222 (by decide) (fun _ => ?_) (fun c9 => absurd c9 (by decide))
    refine lv_goto (tgt := 2470) hx hb dL_law_237 (by decide) ?_
    exact kk K9 M9 g H locs ls hRI hW (lv_sub hl [2, 3, 4, 5, 6] rfl)
  · refine lv_aload_n hx hb dL_law_184 rfl (lv_at hl 1 rfl) ?_
    refine lv_aload_n hx hb dL_law_185 rfl (lv_at hl 0 rfl) ?_
    refine lv_iload hx hb dL_law_186 (lv_at hl 4 rfl) ?_
    refine lv_iconst (v := 1) hx hb dL_law_188 (by decide) ?_
    refine lv_iadd hx hb dL_law_189 ?_
    refine va_sld hx hb hX hbl hbA hW.2.2 hi1 dL_law_190 ?_
    refine lv_aload_n hx hb dL_law_191 rfl (lv_at hl 3 rfl) ?_
    refine l_wrap (n := 3) C0 hW (wL_word_3 l hfl D T A ad hok (oc_X11 T am M ++ []) ao g K (xs (x4 + 1).toNatClampNeg) r K9 q1) wm9_20 wm9_21 wm9_22 wm9_23 ⟨by decide +kernel, by decide +kernel, by decide +kernel⟩ ⟨by decide, by decide⟩ hc1 hs1 rfl hl.1 rfl (Nat.le_of_ble_eq_true rfl) dL_law_192 (fun H locs hW => ?_)
    refine lv_istore (lv' := [(5, .int 2), (0, .ref b), (1, .ref (ad 0 0)), (2, .ref (am 0)), (3, .ref ao), (4, .int x4)]) hx hb dL_law_195 hl (by decide) rfl (fun ls hl => ?_)
    refine lv_aload_n hx hb dL_law_197 rfl (lv_at hl 3 rfl) ?_
    refine lv_aload_n hx hb dL_law_198 rfl (lv_at hl 1 rfl) ?_
    refine lv_iload hx hb dL_law_199 (lv_at hl 5 rfl) ?_
    refine lv_iconst (v := 1) hx hb dL_law_201 (by decide) ?_
    refine lv_iadd hx hb dL_law_202 ?_
    refine va_sld hx hb hX hbl hbA hW.2.2 hi1 dL_law_203 ?_
    have hW := hW.perm pf3
    refine l_mod (As := [.int (xs (x4 + 1).toNatClampNeg)]) C0 hW (g_cw (n := 1) hts wm10_21 wm10_22 wm10_23 wm1_5 wm11_0 ⟨rfl, by decide +kernel, by decide +kernel, by decide +kernel⟩ ⟨rfl, rfl⟩ ⟨by decide, by decide⟩) rfl (c_X11_word l D T A am (outc T ao g ++ (oc_X10 T (ad 0) (bb ad) (K9 0) ++ (wkL T ad K9 L18 ++ []))) M (xs (x4 + 1).toNatClampNeg) b9 M9 q2) rfl hl.1 rfl (Nat.le_of_ble_eq_true rfl) dL_law_204 (by omega) (by omega) (fun H locs hW => ?_)
    have hW := hW.perm pf3.symm
    refine lv_istore (lv' := [(6, .int b9), (5, .int 2), (0, .ref b), (1, .ref (ad 0 0)), (2, .ref (am 0)), (3, .ref ao), (4, .int x4)]) hx hb dL_law_207 hl (by decide) rfl (fun ls hl => ?_)
    refine lv_aload_n hx hb dL_law_209 rfl (lv_at hl 4 rfl) ?_
    have hW := hW.perm pf3
    refine l_mod (As := []) C0 hW (g_cw (n := 0) hts wm11_13 wm11_14 wm11_15 wm1_5 wm11_16 ⟨rfl, by decide +kernel, by decide +kernel, by decide +kernel⟩ ⟨rfl, rfl⟩ ⟨by decide, by decide⟩) rfl (c_X11_thrown l D T A am (outc T ao g ++ (oc_X10 T (ad 0) (bb ad) (K9 0) ++ (wkL T ad K9 L18 ++ []))) M9 2 q3) rfl hl.1 rfl (Nat.le_of_ble_eq_true rfl) dL_law_210 (by omega) (by omega) (fun H locs hW => ?_)
    have hW := hW.perm pf3.symm
    refine lv_iload hx hb dL_law_213 (lv_at hl 1 rfl) ?_
    refine lv_icmp_eq (tgt := 220) hx hb dL_law_215 (by decide) (fun _ => ?_) (fun c9 => absurd rfl c9)
    refine lv_iload hx hb dL_law_220 (lv_at hl 1 rfl) ?_
    refine lv_if_ne (tgt := 237) hx hb dL_law_222 (by decide) (fun _ => ?_) (fun c9 => absurd c9 (by decide))
    refine lv_goto (tgt := 2470) hx hb dL_law_237 (by decide) ?_
    exact kk K9 M9 g H locs ls hRI hW (lv_sub hl [2, 3, 4, 5, 6] rfl)
set_option maxHeartbeats 4000000 in
set_option maxRecDepth 100000 in
theorem law_reading {RI : Nat → (Nat → Ob) → Ob → Prop} {j i : Nat} {x4 : Int32} {K : Nat → Ob} {M : Ob} {g : Nat → Int64} {H : Heap} {locs : List Loc} {cells slots : Nat} {ls : Array Slot} (C0 : LC p l s m c D T A b L xs ad) (hop : Op_reading RI j K M (xs (x4 + 1).toNatClampNeg) (xs (x4 + 2).toNatClampNeg) (xs (x4 + 3).toNatClampNeg) (xs (x4 + 4).toNatClampNeg) (xs (x4 + 5).toNatClampNeg) (xs (x4 + 6).toNatClampNeg)) (hi : i + 6 < L) (ex4 : x4 = nI i) (hc1 : cells ≤ 2000) (hs1 : slots ≤ 400000) (hW : Wd D A s.heap (lw T ad am ao K M g) H locs) (hl : lv_has ls 7 [(0, .ref b), (1, .ref (ad 0 0)), (2, .ref (am 0)), (3, .ref ao), (4, .int x4)])
    (kk : ∀ (K9 : Nat → Ob) (M9 : Ob) (g9 : Nat → Int64) (H : Heap) (locs : List Loc) (ls : Array Slot), RI (j + 1) K9 M9 → Wd D A s.heap (lw T ad am ao K9 M9 g9) H locs → lv_has ls 7 [(0, .ref b), (1, .ref (ad 0 0)), (2, .ref (am 0)), (3, .ref ao), (4, .int x4)] → LW p l e s m b below meth c H locs (cells + 1) (slots + 6) Q (F0 m 2470 ls [])) : LW p l e s m b below meth c H locs cells slots Q (F0 m 240 ls []) := by
  obtain ⟨hx, hb, hml, hown, hts, hX, hbl, hbA, hL, hK, hN, hE, hC, hok, hfl⟩ := id C0
  have hi1 : vp_in (x4 + 1) L := by rw [ex4, show (1 : Int32) = nI 1 from rfl, nI_add]; exact vp_in_nI (by omega) (by omega)
  have hi2 : vp_in (x4 + 2) L := by rw [ex4, show (2 : Int32) = nI 2 from rfl, nI_add]; exact vp_in_nI (by omega) (by omega)
  have hi3 : vp_in (x4 + 3) L := by rw [ex4, show (3 : Int32) = nI 3 from rfl, nI_add]; exact vp_in_nI (by omega) (by omega)
  have hi4 : vp_in (x4 + 4) L := by rw [ex4, show (4 : Int32) = nI 4 from rfl, nI_add]; exact vp_in_nI (by omega) (by omega)
  have hi5 : vp_in (x4 + 5) L := by rw [ex4, show (5 : Int32) = nI 5 from rfl, nI_add]; exact vp_in_nI (by omega) (by omega)
  have hi6 : vp_in (x4 + 6) L := by rw [ex4, show (6 : Int32) = nI 6 from rfl, nI_add]; exact vp_in_nI (by omega) (by omega)
  unfold lw at hW
  obtain ⟨k, r, K9, b9, M9, t, q1, q2, q3, hd, hRI⟩ := hop
  rcases hd with ⟨rfl, rfl, rfl⟩ | ⟨rfl, rfl⟩ | ⟨rfl, rfl⟩ | ⟨rfl, rfl⟩
  · refine lv_aload_n hx hb dL_law_240 rfl (lv_at hl 1 rfl) ?_
    refine lv_aload_n hx hb dL_law_241 rfl (lv_at hl 0 rfl) ?_
    refine lv_iload hx hb dL_law_242 (lv_at hl 4 rfl) ?_
    refine lv_iconst (v := 1) hx hb dL_law_244 (by decide) ?_
    refine lv_iadd hx hb dL_law_245 ?_
    refine va_sld hx hb hX hbl hbA hW.2.2 hi1 dL_law_246 ?_
    refine lv_aload_n hx hb dL_law_247 rfl (lv_at hl 0 rfl) ?_
    refine lv_iload hx hb dL_law_248 (lv_at hl 4 rfl) ?_
    refine lv_iconst (v := 2) hx hb dL_law_250 (by decide) ?_
    refine lv_iadd hx hb dL_law_251 ?_
    refine va_sld hx hb hX hbl hbA hW.2.2 hi2 dL_law_252 ?_
    refine lv_aload_n hx hb dL_law_253 rfl (lv_at hl 0 rfl) ?_
    refine lv_iload hx hb dL_law_254 (lv_at hl 4 rfl) ?_
    refine lv_iconst (v := 3) hx hb dL_law_256 (by decide) ?_
    refine lv_iadd hx hb dL_law_257 ?_
    refine va_sld hx hb hX hbl hbA hW.2.2 hi3 dL_law_258 ?_
    refine lv_aload_n hx hb dL_law_259 rfl (lv_at hl 0 rfl) ?_
    refine lv_iload hx hb dL_law_260 (lv_at hl 4 rfl) ?_
    refine lv_iconst (v := 4) hx hb dL_law_262 (by decide) ?_
    refine lv_iadd hx hb dL_law_263 ?_
    refine va_sld hx hb hX hbl hbA hW.2.2 hi4 dL_law_264 ?_
    refine lv_aload_n hx hb dL_law_265 rfl (lv_at hl 0 rfl) ?_
    refine lv_iload hx hb dL_law_266 (lv_at hl 4 rfl) ?_
    refine lv_iconst (v := 5) hx hb dL_law_268 (by decide) ?_
    refine lv_iadd hx hb dL_law_269 ?_
    refine va_sld hx hb hX hbl hbA hW.2.2 hi5 dL_law_270 ?_
    refine lv_aload_n hx hb dL_law_271 rfl (lv_at hl 0 rfl) ?_
    refine lv_iload hx hb dL_law_272 (lv_at hl 4 rfl) ?_
    refine lv_bipush (v := 6) hx hb dL_law_274 (by decide) ?_
    refine lv_iadd hx hb dL_law_276 ?_
    refine va_sld hx hb hX hbl hbA hW.2.2 hi6 dL_law_277 ?_
    refine lv_aload_n hx hb dL_law_278 rfl (lv_at hl 3 rfl) ?_
    refine l_wrap (n := 8) C0 hW (wL_reading_0 l hfl D T A ad hok (oc_X11 T am M ++ []) ao g K (xs (x4 + 1).toNatClampNeg) (xs (x4 + 2).toNatClampNeg) (xs (x4 + 3).toNatClampNeg) (xs (x4 + 4).toNatClampNeg) (xs (x4 + 5).toNatClampNeg) (xs (x4 + 6).toNatClampNeg) r K9 q1) wm11_17 wm11_18 wm9_22 wm11_19 ⟨by decide +kernel, by decide +kernel, by decide +kernel⟩ ⟨by decide, by decide⟩ hc1 hs1 rfl hl.1 rfl (Nat.le_of_ble_eq_true rfl) dL_law_279 (fun H locs hW => ?_)
    refine lv_istore (lv' := [(5, .int 0), (0, .ref b), (1, .ref (ad 0 0)), (2, .ref (am 0)), (3, .ref ao), (4, .int x4)]) hx hb dL_law_282 hl (by decide) rfl (fun ls hl => ?_)
    refine lv_aload_n hx hb dL_law_284 rfl (lv_at hl 3 rfl) ?_
    refine lv_aload_n hx hb dL_law_285 rfl (lv_at hl 1 rfl) ?_
    refine lv_iload hx hb dL_law_286 (lv_at hl 5 rfl) ?_
    refine lv_iconst (v := 1) hx hb dL_law_288 (by decide) ?_
    refine lv_iadd hx hb dL_law_289 ?_
    refine va_sld hx hb hX hbl hbA hW.2.2 hi1 dL_law_290 ?_
    refine lv_aload_n hx hb dL_law_291 rfl (lv_at hl 1 rfl) ?_
    refine lv_iload hx hb dL_law_292 (lv_at hl 5 rfl) ?_
    refine lv_iconst (v := 2) hx hb dL_law_294 (by decide) ?_
    refine lv_iadd hx hb dL_law_295 ?_
    refine va_sld hx hb hX hbl hbA hW.2.2 hi2 dL_law_296 ?_
    refine lv_aload_n hx hb dL_law_297 rfl (lv_at hl 1 rfl) ?_
    refine lv_iload hx hb dL_law_298 (lv_at hl 5 rfl) ?_
    refine lv_iconst (v := 3) hx hb dL_law_300 (by decide) ?_
    refine lv_iadd hx hb dL_law_301 ?_
    refine va_sld hx hb hX hbl hbA hW.2.2 hi3 dL_law_302 ?_
    refine lv_aload_n hx hb dL_law_303 rfl (lv_at hl 1 rfl) ?_
    refine lv_iload hx hb dL_law_304 (lv_at hl 5 rfl) ?_
    refine lv_iconst (v := 4) hx hb dL_law_306 (by decide) ?_
    refine lv_iadd hx hb dL_law_307 ?_
    refine va_sld hx hb hX hbl hbA hW.2.2 hi4 dL_law_308 ?_
    refine lv_aload_n hx hb dL_law_309 rfl (lv_at hl 1 rfl) ?_
    refine lv_iload hx hb dL_law_310 (lv_at hl 5 rfl) ?_
    refine lv_iconst (v := 5) hx hb dL_law_312 (by decide) ?_
    refine lv_iadd hx hb dL_law_313 ?_
    refine va_sld hx hb hX hbl hbA hW.2.2 hi5 dL_law_314 ?_
    refine lv_aload_n hx hb dL_law_315 rfl (lv_at hl 1 rfl) ?_
    refine lv_iload hx hb dL_law_316 (lv_at hl 5 rfl) ?_
    refine lv_bipush (v := 6) hx hb dL_law_318 (by decide) ?_
    refine lv_iadd hx hb dL_law_320 ?_
    refine va_sld hx hb hX hbl hbA hW.2.2 hi6 dL_law_321 ?_
    have hW := hW.perm pf3
    refine l_mod (As := [.int (xs (x4 + 1).toNatClampNeg), .int (xs (x4 + 2).toNatClampNeg), .int (xs (x4 + 3).toNatClampNeg), .int (xs (x4 + 4).toNatClampNeg), .int (xs (x4 + 5).toNatClampNeg), .int (xs (x4 + 6).toNatClampNeg)]) C0 hW (g_cw (n := 6) hts wm13_10 wm13_11 wm13_12 wm1_5 wm13_13 ⟨rfl, by decide +kernel, by decide +kernel, by decide +kernel⟩ ⟨rfl, rfl⟩ ⟨by decide, by decide⟩) rfl (c_X11_reading l D T A am (outc T ao (vp_updL g 0 r.toInt64) ++ (oc_X10 T (ad 0) (bb ad) (K9 0) ++ (wkL T ad K9 L18 ++ []))) M (xs (x4 + 1).toNatClampNeg) (xs (x4 + 2).toNatClampNeg) (xs (x4 + 3).toNatClampNeg) (xs (x4 + 4).toNatClampNeg) (xs (x4 + 5).toNatClampNeg) (xs (x4 + 6).toNatClampNeg) r M9 q2) rfl hl.1 rfl (Nat.le_of_ble_eq_true rfl) dL_law_322 (by omega) (by omega) (fun H locs hW => ?_)
    have hW := hW.perm pf3.symm
    refine lv_istore (lv' := [(6, .int r), (5, .int 0), (0, .ref b), (1, .ref (ad 0 0)), (2, .ref (am 0)), (3, .ref ao), (4, .int x4)]) hx hb dL_law_325 hl (by decide) rfl (fun ls hl => ?_)
    refine lv_aload_n hx hb dL_law_327 rfl (lv_at hl 4 rfl) ?_
    have hW := hW.perm pf3
    refine l_mod (As := []) C0 hW (g_cw (n := 0) hts wm11_13 wm11_14 wm11_15 wm1_5 wm11_16 ⟨rfl, by decide +kernel, by decide +kernel, by decide +kernel⟩ ⟨rfl, rfl⟩ ⟨by decide, by decide⟩) rfl (c_X11_thrown l D T A am (outc T ao (vp_updL g 0 r.toInt64) ++ (oc_X10 T (ad 0) (bb ad) (K9 0) ++ (wkL T ad K9 L18 ++ []))) M9 0 q3) rfl hl.1 rfl (Nat.le_of_ble_eq_true rfl) dL_law_328 (by omega) (by omega) (fun H locs hW => ?_)
    have hW := hW.perm pf3.symm
    refine lv_iload hx hb dL_law_331 (lv_at hl 1 rfl) ?_
    refine lv_icmp_eq (tgt := 338) hx hb dL_law_333 (by decide) (fun _ => ?_) (fun c9 => absurd rfl c9)
    refine lv_iload hx hb dL_law_338 (lv_at hl 1 rfl) ?_
    refine lv_if_ne (tgt := 355) hx hb dL_law_340 (by decide) (fun c9 => absurd rfl c9) (fun _ => ?_)
    refine lv_aload_n hx hb dL_law_343 rfl (lv_at hl 5 rfl) ?_
    refine lv_iconst (v := 0) hx hb dL_law_344 (by decide) ?_
    refine va_lald hx hb hK hW.1 0 3 rfl rfl (gd_in (by decide)) dL_law_345 ?_
    rw [show (vp_updL g 0 r.toInt64) (0 : Int32).toNatClampNeg = r.toInt64 from rfl]
    refine lv_iload hx hb dL_law_346 (lv_at hl 0 rfl) ?_
    refine lv_i2l (v := r.toInt64) hx hb dL_law_348 rfl ?_
    refine W.lcmp hx hb dL_law_349 ?_
    rw [lg_cmp_self]
    refine lv_if_eq (tgt := 355) hx hb dL_law_350 (by decide) (fun _ => ?_) (fun c9 => absurd rfl c9)
    refine lv_goto (tgt := 2470) hx hb dL_law_355 (by decide) ?_
    exact kk K9 M9 (vp_updL g 0 r.toInt64) H locs ls hRI hW (lv_sub hl [2, 3, 4, 5, 6] rfl)
  · refine lv_aload_n hx hb dL_law_240 rfl (lv_at hl 1 rfl) ?_
    refine lv_aload_n hx hb dL_law_241 rfl (lv_at hl 0 rfl) ?_
    refine lv_iload hx hb dL_law_242 (lv_at hl 4 rfl) ?_
    refine lv_iconst (v := 1) hx hb dL_law_244 (by decide) ?_
    refine lv_iadd hx hb dL_law_245 ?_
    refine va_sld hx hb hX hbl hbA hW.2.2 hi1 dL_law_246 ?_
    refine lv_aload_n hx hb dL_law_247 rfl (lv_at hl 0 rfl) ?_
    refine lv_iload hx hb dL_law_248 (lv_at hl 4 rfl) ?_
    refine lv_iconst (v := 2) hx hb dL_law_250 (by decide) ?_
    refine lv_iadd hx hb dL_law_251 ?_
    refine va_sld hx hb hX hbl hbA hW.2.2 hi2 dL_law_252 ?_
    refine lv_aload_n hx hb dL_law_253 rfl (lv_at hl 0 rfl) ?_
    refine lv_iload hx hb dL_law_254 (lv_at hl 4 rfl) ?_
    refine lv_iconst (v := 3) hx hb dL_law_256 (by decide) ?_
    refine lv_iadd hx hb dL_law_257 ?_
    refine va_sld hx hb hX hbl hbA hW.2.2 hi3 dL_law_258 ?_
    refine lv_aload_n hx hb dL_law_259 rfl (lv_at hl 0 rfl) ?_
    refine lv_iload hx hb dL_law_260 (lv_at hl 4 rfl) ?_
    refine lv_iconst (v := 4) hx hb dL_law_262 (by decide) ?_
    refine lv_iadd hx hb dL_law_263 ?_
    refine va_sld hx hb hX hbl hbA hW.2.2 hi4 dL_law_264 ?_
    refine lv_aload_n hx hb dL_law_265 rfl (lv_at hl 0 rfl) ?_
    refine lv_iload hx hb dL_law_266 (lv_at hl 4 rfl) ?_
    refine lv_iconst (v := 5) hx hb dL_law_268 (by decide) ?_
    refine lv_iadd hx hb dL_law_269 ?_
    refine va_sld hx hb hX hbl hbA hW.2.2 hi5 dL_law_270 ?_
    refine lv_aload_n hx hb dL_law_271 rfl (lv_at hl 0 rfl) ?_
    refine lv_iload hx hb dL_law_272 (lv_at hl 4 rfl) ?_
    refine lv_bipush (v := 6) hx hb dL_law_274 (by decide) ?_
    refine lv_iadd hx hb dL_law_276 ?_
    refine va_sld hx hb hX hbl hbA hW.2.2 hi6 dL_law_277 ?_
    refine lv_aload_n hx hb dL_law_278 rfl (lv_at hl 3 rfl) ?_
    refine l_wrap (n := 8) C0 hW (wL_reading_1 l hfl D T A ad hok (oc_X11 T am M ++ []) ao g K (xs (x4 + 1).toNatClampNeg) (xs (x4 + 2).toNatClampNeg) (xs (x4 + 3).toNatClampNeg) (xs (x4 + 4).toNatClampNeg) (xs (x4 + 5).toNatClampNeg) (xs (x4 + 6).toNatClampNeg) r K9 q1) wm11_17 wm11_18 wm9_22 wm11_19 ⟨by decide +kernel, by decide +kernel, by decide +kernel⟩ ⟨by decide, by decide⟩ hc1 hs1 rfl hl.1 rfl (Nat.le_of_ble_eq_true rfl) dL_law_279 (fun H locs hW => ?_)
    refine lv_istore (lv' := [(5, .int 1), (0, .ref b), (1, .ref (ad 0 0)), (2, .ref (am 0)), (3, .ref ao), (4, .int x4)]) hx hb dL_law_282 hl (by decide) rfl (fun ls hl => ?_)
    refine lv_aload_n hx hb dL_law_284 rfl (lv_at hl 3 rfl) ?_
    refine lv_aload_n hx hb dL_law_285 rfl (lv_at hl 1 rfl) ?_
    refine lv_iload hx hb dL_law_286 (lv_at hl 5 rfl) ?_
    refine lv_iconst (v := 1) hx hb dL_law_288 (by decide) ?_
    refine lv_iadd hx hb dL_law_289 ?_
    refine va_sld hx hb hX hbl hbA hW.2.2 hi1 dL_law_290 ?_
    refine lv_aload_n hx hb dL_law_291 rfl (lv_at hl 1 rfl) ?_
    refine lv_iload hx hb dL_law_292 (lv_at hl 5 rfl) ?_
    refine lv_iconst (v := 2) hx hb dL_law_294 (by decide) ?_
    refine lv_iadd hx hb dL_law_295 ?_
    refine va_sld hx hb hX hbl hbA hW.2.2 hi2 dL_law_296 ?_
    refine lv_aload_n hx hb dL_law_297 rfl (lv_at hl 1 rfl) ?_
    refine lv_iload hx hb dL_law_298 (lv_at hl 5 rfl) ?_
    refine lv_iconst (v := 3) hx hb dL_law_300 (by decide) ?_
    refine lv_iadd hx hb dL_law_301 ?_
    refine va_sld hx hb hX hbl hbA hW.2.2 hi3 dL_law_302 ?_
    refine lv_aload_n hx hb dL_law_303 rfl (lv_at hl 1 rfl) ?_
    refine lv_iload hx hb dL_law_304 (lv_at hl 5 rfl) ?_
    refine lv_iconst (v := 4) hx hb dL_law_306 (by decide) ?_
    refine lv_iadd hx hb dL_law_307 ?_
    refine va_sld hx hb hX hbl hbA hW.2.2 hi4 dL_law_308 ?_
    refine lv_aload_n hx hb dL_law_309 rfl (lv_at hl 1 rfl) ?_
    refine lv_iload hx hb dL_law_310 (lv_at hl 5 rfl) ?_
    refine lv_iconst (v := 5) hx hb dL_law_312 (by decide) ?_
    refine lv_iadd hx hb dL_law_313 ?_
    refine va_sld hx hb hX hbl hbA hW.2.2 hi5 dL_law_314 ?_
    refine lv_aload_n hx hb dL_law_315 rfl (lv_at hl 1 rfl) ?_
    refine lv_iload hx hb dL_law_316 (lv_at hl 5 rfl) ?_
    refine lv_bipush (v := 6) hx hb dL_law_318 (by decide) ?_
    refine lv_iadd hx hb dL_law_320 ?_
    refine va_sld hx hb hX hbl hbA hW.2.2 hi6 dL_law_321 ?_
    have hW := hW.perm pf3
    refine l_mod (As := [.int (xs (x4 + 1).toNatClampNeg), .int (xs (x4 + 2).toNatClampNeg), .int (xs (x4 + 3).toNatClampNeg), .int (xs (x4 + 4).toNatClampNeg), .int (xs (x4 + 5).toNatClampNeg), .int (xs (x4 + 6).toNatClampNeg)]) C0 hW (g_cw (n := 6) hts wm13_10 wm13_11 wm13_12 wm1_5 wm13_13 ⟨rfl, by decide +kernel, by decide +kernel, by decide +kernel⟩ ⟨rfl, rfl⟩ ⟨by decide, by decide⟩) rfl (c_X11_reading l D T A am (outc T ao g ++ (oc_X10 T (ad 0) (bb ad) (K9 0) ++ (wkL T ad K9 L18 ++ []))) M (xs (x4 + 1).toNatClampNeg) (xs (x4 + 2).toNatClampNeg) (xs (x4 + 3).toNatClampNeg) (xs (x4 + 4).toNatClampNeg) (xs (x4 + 5).toNatClampNeg) (xs (x4 + 6).toNatClampNeg) b9 M9 q2) rfl hl.1 rfl (Nat.le_of_ble_eq_true rfl) dL_law_322 (by omega) (by omega) (fun H locs hW => ?_)
    have hW := hW.perm pf3.symm
    refine lv_istore (lv' := [(6, .int b9), (5, .int 1), (0, .ref b), (1, .ref (ad 0 0)), (2, .ref (am 0)), (3, .ref ao), (4, .int x4)]) hx hb dL_law_325 hl (by decide) rfl (fun ls hl => ?_)
    refine lv_aload_n hx hb dL_law_327 rfl (lv_at hl 4 rfl) ?_
    have hW := hW.perm pf3
    refine l_mod (As := []) C0 hW (g_cw (n := 0) hts wm11_13 wm11_14 wm11_15 wm1_5 wm11_16 ⟨rfl, by decide +kernel, by decide +kernel, by decide +kernel⟩ ⟨rfl, rfl⟩ ⟨by decide, by decide⟩) rfl (c_X11_thrown l D T A am (outc T ao g ++ (oc_X10 T (ad 0) (bb ad) (K9 0) ++ (wkL T ad K9 L18 ++ []))) M9 1 q3) rfl hl.1 rfl (Nat.le_of_ble_eq_true rfl) dL_law_328 (by omega) (by omega) (fun H locs hW => ?_)
    have hW := hW.perm pf3.symm
    refine lv_iload hx hb dL_law_331 (lv_at hl 1 rfl) ?_
    refine lv_icmp_eq (tgt := 338) hx hb dL_law_333 (by decide) (fun _ => ?_) (fun c9 => absurd rfl c9)
    refine lv_iload hx hb dL_law_338 (lv_at hl 1 rfl) ?_
    refine lv_if_ne (tgt := 355) hx hb dL_law_340 (by decide) (fun _ => ?_) (fun c9 => absurd c9 (by decide))
    refine lv_goto (tgt := 2470) hx hb dL_law_355 (by decide) ?_
    exact kk K9 M9 g H locs ls hRI hW (lv_sub hl [2, 3, 4, 5, 6] rfl)
  · refine lv_aload_n hx hb dL_law_240 rfl (lv_at hl 1 rfl) ?_
    refine lv_aload_n hx hb dL_law_241 rfl (lv_at hl 0 rfl) ?_
    refine lv_iload hx hb dL_law_242 (lv_at hl 4 rfl) ?_
    refine lv_iconst (v := 1) hx hb dL_law_244 (by decide) ?_
    refine lv_iadd hx hb dL_law_245 ?_
    refine va_sld hx hb hX hbl hbA hW.2.2 hi1 dL_law_246 ?_
    refine lv_aload_n hx hb dL_law_247 rfl (lv_at hl 0 rfl) ?_
    refine lv_iload hx hb dL_law_248 (lv_at hl 4 rfl) ?_
    refine lv_iconst (v := 2) hx hb dL_law_250 (by decide) ?_
    refine lv_iadd hx hb dL_law_251 ?_
    refine va_sld hx hb hX hbl hbA hW.2.2 hi2 dL_law_252 ?_
    refine lv_aload_n hx hb dL_law_253 rfl (lv_at hl 0 rfl) ?_
    refine lv_iload hx hb dL_law_254 (lv_at hl 4 rfl) ?_
    refine lv_iconst (v := 3) hx hb dL_law_256 (by decide) ?_
    refine lv_iadd hx hb dL_law_257 ?_
    refine va_sld hx hb hX hbl hbA hW.2.2 hi3 dL_law_258 ?_
    refine lv_aload_n hx hb dL_law_259 rfl (lv_at hl 0 rfl) ?_
    refine lv_iload hx hb dL_law_260 (lv_at hl 4 rfl) ?_
    refine lv_iconst (v := 4) hx hb dL_law_262 (by decide) ?_
    refine lv_iadd hx hb dL_law_263 ?_
    refine va_sld hx hb hX hbl hbA hW.2.2 hi4 dL_law_264 ?_
    refine lv_aload_n hx hb dL_law_265 rfl (lv_at hl 0 rfl) ?_
    refine lv_iload hx hb dL_law_266 (lv_at hl 4 rfl) ?_
    refine lv_iconst (v := 5) hx hb dL_law_268 (by decide) ?_
    refine lv_iadd hx hb dL_law_269 ?_
    refine va_sld hx hb hX hbl hbA hW.2.2 hi5 dL_law_270 ?_
    refine lv_aload_n hx hb dL_law_271 rfl (lv_at hl 0 rfl) ?_
    refine lv_iload hx hb dL_law_272 (lv_at hl 4 rfl) ?_
    refine lv_bipush (v := 6) hx hb dL_law_274 (by decide) ?_
    refine lv_iadd hx hb dL_law_276 ?_
    refine va_sld hx hb hX hbl hbA hW.2.2 hi6 dL_law_277 ?_
    refine lv_aload_n hx hb dL_law_278 rfl (lv_at hl 3 rfl) ?_
    refine l_wrap (n := 8) C0 hW (wL_reading_2 l hfl D T A ad hok (oc_X11 T am M ++ []) ao g K (xs (x4 + 1).toNatClampNeg) (xs (x4 + 2).toNatClampNeg) (xs (x4 + 3).toNatClampNeg) (xs (x4 + 4).toNatClampNeg) (xs (x4 + 5).toNatClampNeg) (xs (x4 + 6).toNatClampNeg) r K9 q1) wm11_17 wm11_18 wm9_22 wm11_19 ⟨by decide +kernel, by decide +kernel, by decide +kernel⟩ ⟨by decide, by decide⟩ hc1 hs1 rfl hl.1 rfl (Nat.le_of_ble_eq_true rfl) dL_law_279 (fun H locs hW => ?_)
    refine lv_istore (lv' := [(5, .int 2), (0, .ref b), (1, .ref (ad 0 0)), (2, .ref (am 0)), (3, .ref ao), (4, .int x4)]) hx hb dL_law_282 hl (by decide) rfl (fun ls hl => ?_)
    refine lv_aload_n hx hb dL_law_284 rfl (lv_at hl 3 rfl) ?_
    refine lv_aload_n hx hb dL_law_285 rfl (lv_at hl 1 rfl) ?_
    refine lv_iload hx hb dL_law_286 (lv_at hl 5 rfl) ?_
    refine lv_iconst (v := 1) hx hb dL_law_288 (by decide) ?_
    refine lv_iadd hx hb dL_law_289 ?_
    refine va_sld hx hb hX hbl hbA hW.2.2 hi1 dL_law_290 ?_
    refine lv_aload_n hx hb dL_law_291 rfl (lv_at hl 1 rfl) ?_
    refine lv_iload hx hb dL_law_292 (lv_at hl 5 rfl) ?_
    refine lv_iconst (v := 2) hx hb dL_law_294 (by decide) ?_
    refine lv_iadd hx hb dL_law_295 ?_
    refine va_sld hx hb hX hbl hbA hW.2.2 hi2 dL_law_296 ?_
    refine lv_aload_n hx hb dL_law_297 rfl (lv_at hl 1 rfl) ?_
    refine lv_iload hx hb dL_law_298 (lv_at hl 5 rfl) ?_
    refine lv_iconst (v := 3) hx hb dL_law_300 (by decide) ?_
    refine lv_iadd hx hb dL_law_301 ?_
    refine va_sld hx hb hX hbl hbA hW.2.2 hi3 dL_law_302 ?_
    refine lv_aload_n hx hb dL_law_303 rfl (lv_at hl 1 rfl) ?_
    refine lv_iload hx hb dL_law_304 (lv_at hl 5 rfl) ?_
    refine lv_iconst (v := 4) hx hb dL_law_306 (by decide) ?_
    refine lv_iadd hx hb dL_law_307 ?_
    refine va_sld hx hb hX hbl hbA hW.2.2 hi4 dL_law_308 ?_
    refine lv_aload_n hx hb dL_law_309 rfl (lv_at hl 1 rfl) ?_
    refine lv_iload hx hb dL_law_310 (lv_at hl 5 rfl) ?_
    refine lv_iconst (v := 5) hx hb dL_law_312 (by decide) ?_
    refine lv_iadd hx hb dL_law_313 ?_
    refine va_sld hx hb hX hbl hbA hW.2.2 hi5 dL_law_314 ?_
    refine lv_aload_n hx hb dL_law_315 rfl (lv_at hl 1 rfl) ?_
    refine lv_iload hx hb dL_law_316 (lv_at hl 5 rfl) ?_
    refine lv_bipush (v := 6) hx hb dL_law_318 (by decide) ?_
    refine lv_iadd hx hb dL_law_320 ?_
    refine va_sld hx hb hX hbl hbA hW.2.2 hi6 dL_law_321 ?_
    have hW := hW.perm pf3
    refine l_mod (As := [.int (xs (x4 + 1).toNatClampNeg), .int (xs (x4 + 2).toNatClampNeg), .int (xs (x4 + 3).toNatClampNeg), .int (xs (x4 + 4).toNatClampNeg), .int (xs (x4 + 5).toNatClampNeg), .int (xs (x4 + 6).toNatClampNeg)]) C0 hW (g_cw (n := 6) hts wm13_10 wm13_11 wm13_12 wm1_5 wm13_13 ⟨rfl, by decide +kernel, by decide +kernel, by decide +kernel⟩ ⟨rfl, rfl⟩ ⟨by decide, by decide⟩) rfl (c_X11_reading l D T A am (outc T ao g ++ (oc_X10 T (ad 0) (bb ad) (K9 0) ++ (wkL T ad K9 L18 ++ []))) M (xs (x4 + 1).toNatClampNeg) (xs (x4 + 2).toNatClampNeg) (xs (x4 + 3).toNatClampNeg) (xs (x4 + 4).toNatClampNeg) (xs (x4 + 5).toNatClampNeg) (xs (x4 + 6).toNatClampNeg) b9 M9 q2) rfl hl.1 rfl (Nat.le_of_ble_eq_true rfl) dL_law_322 (by omega) (by omega) (fun H locs hW => ?_)
    have hW := hW.perm pf3.symm
    refine lv_istore (lv' := [(6, .int b9), (5, .int 2), (0, .ref b), (1, .ref (ad 0 0)), (2, .ref (am 0)), (3, .ref ao), (4, .int x4)]) hx hb dL_law_325 hl (by decide) rfl (fun ls hl => ?_)
    refine lv_aload_n hx hb dL_law_327 rfl (lv_at hl 4 rfl) ?_
    have hW := hW.perm pf3
    refine l_mod (As := []) C0 hW (g_cw (n := 0) hts wm11_13 wm11_14 wm11_15 wm1_5 wm11_16 ⟨rfl, by decide +kernel, by decide +kernel, by decide +kernel⟩ ⟨rfl, rfl⟩ ⟨by decide, by decide⟩) rfl (c_X11_thrown l D T A am (outc T ao g ++ (oc_X10 T (ad 0) (bb ad) (K9 0) ++ (wkL T ad K9 L18 ++ []))) M9 2 q3) rfl hl.1 rfl (Nat.le_of_ble_eq_true rfl) dL_law_328 (by omega) (by omega) (fun H locs hW => ?_)
    have hW := hW.perm pf3.symm
    refine lv_iload hx hb dL_law_331 (lv_at hl 1 rfl) ?_
    refine lv_icmp_eq (tgt := 338) hx hb dL_law_333 (by decide) (fun _ => ?_) (fun c9 => absurd rfl c9)
    refine lv_iload hx hb dL_law_338 (lv_at hl 1 rfl) ?_
    refine lv_if_ne (tgt := 355) hx hb dL_law_340 (by decide) (fun _ => ?_) (fun c9 => absurd c9 (by decide))
    refine lv_goto (tgt := 2470) hx hb dL_law_355 (by decide) ?_
    exact kk K9 M9 g H locs ls hRI hW (lv_sub hl [2, 3, 4, 5, 6] rfl)
  · refine lv_aload_n hx hb dL_law_240 rfl (lv_at hl 1 rfl) ?_
    refine lv_aload_n hx hb dL_law_241 rfl (lv_at hl 0 rfl) ?_
    refine lv_iload hx hb dL_law_242 (lv_at hl 4 rfl) ?_
    refine lv_iconst (v := 1) hx hb dL_law_244 (by decide) ?_
    refine lv_iadd hx hb dL_law_245 ?_
    refine va_sld hx hb hX hbl hbA hW.2.2 hi1 dL_law_246 ?_
    refine lv_aload_n hx hb dL_law_247 rfl (lv_at hl 0 rfl) ?_
    refine lv_iload hx hb dL_law_248 (lv_at hl 4 rfl) ?_
    refine lv_iconst (v := 2) hx hb dL_law_250 (by decide) ?_
    refine lv_iadd hx hb dL_law_251 ?_
    refine va_sld hx hb hX hbl hbA hW.2.2 hi2 dL_law_252 ?_
    refine lv_aload_n hx hb dL_law_253 rfl (lv_at hl 0 rfl) ?_
    refine lv_iload hx hb dL_law_254 (lv_at hl 4 rfl) ?_
    refine lv_iconst (v := 3) hx hb dL_law_256 (by decide) ?_
    refine lv_iadd hx hb dL_law_257 ?_
    refine va_sld hx hb hX hbl hbA hW.2.2 hi3 dL_law_258 ?_
    refine lv_aload_n hx hb dL_law_259 rfl (lv_at hl 0 rfl) ?_
    refine lv_iload hx hb dL_law_260 (lv_at hl 4 rfl) ?_
    refine lv_iconst (v := 4) hx hb dL_law_262 (by decide) ?_
    refine lv_iadd hx hb dL_law_263 ?_
    refine va_sld hx hb hX hbl hbA hW.2.2 hi4 dL_law_264 ?_
    refine lv_aload_n hx hb dL_law_265 rfl (lv_at hl 0 rfl) ?_
    refine lv_iload hx hb dL_law_266 (lv_at hl 4 rfl) ?_
    refine lv_iconst (v := 5) hx hb dL_law_268 (by decide) ?_
    refine lv_iadd hx hb dL_law_269 ?_
    refine va_sld hx hb hX hbl hbA hW.2.2 hi5 dL_law_270 ?_
    refine lv_aload_n hx hb dL_law_271 rfl (lv_at hl 0 rfl) ?_
    refine lv_iload hx hb dL_law_272 (lv_at hl 4 rfl) ?_
    refine lv_bipush (v := 6) hx hb dL_law_274 (by decide) ?_
    refine lv_iadd hx hb dL_law_276 ?_
    refine va_sld hx hb hX hbl hbA hW.2.2 hi6 dL_law_277 ?_
    refine lv_aload_n hx hb dL_law_278 rfl (lv_at hl 3 rfl) ?_
    refine l_wrap (n := 8) C0 hW (wL_reading_3 l hfl D T A ad hok (oc_X11 T am M ++ []) ao g K (xs (x4 + 1).toNatClampNeg) (xs (x4 + 2).toNatClampNeg) (xs (x4 + 3).toNatClampNeg) (xs (x4 + 4).toNatClampNeg) (xs (x4 + 5).toNatClampNeg) (xs (x4 + 6).toNatClampNeg) r K9 q1) wm11_17 wm11_18 wm9_22 wm11_19 ⟨by decide +kernel, by decide +kernel, by decide +kernel⟩ ⟨by decide, by decide⟩ hc1 hs1 rfl hl.1 rfl (Nat.le_of_ble_eq_true rfl) dL_law_279 (fun H locs hW => ?_)
    refine lv_istore (lv' := [(5, .int 3), (0, .ref b), (1, .ref (ad 0 0)), (2, .ref (am 0)), (3, .ref ao), (4, .int x4)]) hx hb dL_law_282 hl (by decide) rfl (fun ls hl => ?_)
    refine lv_aload_n hx hb dL_law_284 rfl (lv_at hl 3 rfl) ?_
    refine lv_aload_n hx hb dL_law_285 rfl (lv_at hl 1 rfl) ?_
    refine lv_iload hx hb dL_law_286 (lv_at hl 5 rfl) ?_
    refine lv_iconst (v := 1) hx hb dL_law_288 (by decide) ?_
    refine lv_iadd hx hb dL_law_289 ?_
    refine va_sld hx hb hX hbl hbA hW.2.2 hi1 dL_law_290 ?_
    refine lv_aload_n hx hb dL_law_291 rfl (lv_at hl 1 rfl) ?_
    refine lv_iload hx hb dL_law_292 (lv_at hl 5 rfl) ?_
    refine lv_iconst (v := 2) hx hb dL_law_294 (by decide) ?_
    refine lv_iadd hx hb dL_law_295 ?_
    refine va_sld hx hb hX hbl hbA hW.2.2 hi2 dL_law_296 ?_
    refine lv_aload_n hx hb dL_law_297 rfl (lv_at hl 1 rfl) ?_
    refine lv_iload hx hb dL_law_298 (lv_at hl 5 rfl) ?_
    refine lv_iconst (v := 3) hx hb dL_law_300 (by decide) ?_
    refine lv_iadd hx hb dL_law_301 ?_
    refine va_sld hx hb hX hbl hbA hW.2.2 hi3 dL_law_302 ?_
    refine lv_aload_n hx hb dL_law_303 rfl (lv_at hl 1 rfl) ?_
    refine lv_iload hx hb dL_law_304 (lv_at hl 5 rfl) ?_
    refine lv_iconst (v := 4) hx hb dL_law_306 (by decide) ?_
    refine lv_iadd hx hb dL_law_307 ?_
    refine va_sld hx hb hX hbl hbA hW.2.2 hi4 dL_law_308 ?_
    refine lv_aload_n hx hb dL_law_309 rfl (lv_at hl 1 rfl) ?_
    refine lv_iload hx hb dL_law_310 (lv_at hl 5 rfl) ?_
    refine lv_iconst (v := 5) hx hb dL_law_312 (by decide) ?_
    refine lv_iadd hx hb dL_law_313 ?_
    refine va_sld hx hb hX hbl hbA hW.2.2 hi5 dL_law_314 ?_
    refine lv_aload_n hx hb dL_law_315 rfl (lv_at hl 1 rfl) ?_
    refine lv_iload hx hb dL_law_316 (lv_at hl 5 rfl) ?_
    refine lv_bipush (v := 6) hx hb dL_law_318 (by decide) ?_
    refine lv_iadd hx hb dL_law_320 ?_
    refine va_sld hx hb hX hbl hbA hW.2.2 hi6 dL_law_321 ?_
    have hW := hW.perm pf3
    refine l_mod (As := [.int (xs (x4 + 1).toNatClampNeg), .int (xs (x4 + 2).toNatClampNeg), .int (xs (x4 + 3).toNatClampNeg), .int (xs (x4 + 4).toNatClampNeg), .int (xs (x4 + 5).toNatClampNeg), .int (xs (x4 + 6).toNatClampNeg)]) C0 hW (g_cw (n := 6) hts wm13_10 wm13_11 wm13_12 wm1_5 wm13_13 ⟨rfl, by decide +kernel, by decide +kernel, by decide +kernel⟩ ⟨rfl, rfl⟩ ⟨by decide, by decide⟩) rfl (c_X11_reading l D T A am (outc T ao g ++ (oc_X10 T (ad 0) (bb ad) (K9 0) ++ (wkL T ad K9 L18 ++ []))) M (xs (x4 + 1).toNatClampNeg) (xs (x4 + 2).toNatClampNeg) (xs (x4 + 3).toNatClampNeg) (xs (x4 + 4).toNatClampNeg) (xs (x4 + 5).toNatClampNeg) (xs (x4 + 6).toNatClampNeg) b9 M9 q2) rfl hl.1 rfl (Nat.le_of_ble_eq_true rfl) dL_law_322 (by omega) (by omega) (fun H locs hW => ?_)
    have hW := hW.perm pf3.symm
    refine lv_istore (lv' := [(6, .int b9), (5, .int 3), (0, .ref b), (1, .ref (ad 0 0)), (2, .ref (am 0)), (3, .ref ao), (4, .int x4)]) hx hb dL_law_325 hl (by decide) rfl (fun ls hl => ?_)
    refine lv_aload_n hx hb dL_law_327 rfl (lv_at hl 4 rfl) ?_
    have hW := hW.perm pf3
    refine l_mod (As := []) C0 hW (g_cw (n := 0) hts wm11_13 wm11_14 wm11_15 wm1_5 wm11_16 ⟨rfl, by decide +kernel, by decide +kernel, by decide +kernel⟩ ⟨rfl, rfl⟩ ⟨by decide, by decide⟩) rfl (c_X11_thrown l D T A am (outc T ao g ++ (oc_X10 T (ad 0) (bb ad) (K9 0) ++ (wkL T ad K9 L18 ++ []))) M9 3 q3) rfl hl.1 rfl (Nat.le_of_ble_eq_true rfl) dL_law_328 (by omega) (by omega) (fun H locs hW => ?_)
    have hW := hW.perm pf3.symm
    refine lv_iload hx hb dL_law_331 (lv_at hl 1 rfl) ?_
    refine lv_icmp_eq (tgt := 338) hx hb dL_law_333 (by decide) (fun _ => ?_) (fun c9 => absurd rfl c9)
    refine lv_iload hx hb dL_law_338 (lv_at hl 1 rfl) ?_
    refine lv_if_ne (tgt := 355) hx hb dL_law_340 (by decide) (fun _ => ?_) (fun c9 => absurd c9 (by decide))
    refine lv_goto (tgt := 2470) hx hb dL_law_355 (by decide) ?_
    exact kk K9 M9 g H locs ls hRI hW (lv_sub hl [2, 3, 4, 5, 6] rfl)
set_option maxHeartbeats 4000000 in
set_option maxRecDepth 100000 in
theorem law_guess {RI : Nat → (Nat → Ob) → Ob → Prop} {j i : Nat} {x4 : Int32} {K : Nat → Ob} {M : Ob} {g : Nat → Int64} {H : Heap} {locs : List Loc} {cells slots : Nat} {ls : Array Slot} (C0 : LC p l s m c D T A b L xs ad) (hop : Op_guess RI j K M (xs (x4 + 1).toNatClampNeg) (xs (x4 + 2).toNatClampNeg) (xs (x4 + 3).toNatClampNeg) (xs (x4 + 4).toNatClampNeg) (xs (x4 + 5).toNatClampNeg)) (hi : i + 6 < L) (ex4 : x4 = nI i) (hc1 : cells ≤ 2000) (hs1 : slots ≤ 400000) (hW : Wd D A s.heap (lw T ad am ao K M g) H locs) (hl : lv_has ls 7 [(0, .ref b), (1, .ref (ad 0 0)), (2, .ref (am 0)), (3, .ref ao), (4, .int x4)])
    (kk : ∀ (K9 : Nat → Ob) (M9 : Ob) (g9 : Nat → Int64) (H : Heap) (locs : List Loc) (ls : Array Slot), RI (j + 1) K9 M9 → Wd D A s.heap (lw T ad am ao K9 M9 g9) H locs → lv_has ls 7 [(0, .ref b), (1, .ref (ad 0 0)), (2, .ref (am 0)), (3, .ref ao), (4, .int x4)] → LW p l e s m b below meth c H locs (cells + 1) (slots + 6) Q (F0 m 2470 ls [])) : LW p l e s m b below meth c H locs cells slots Q (F0 m 358 ls []) := by
  obtain ⟨hx, hb, hml, hown, hts, hX, hbl, hbA, hL, hK, hN, hE, hC, hok, hfl⟩ := id C0
  have hi1 : vp_in (x4 + 1) L := by rw [ex4, show (1 : Int32) = nI 1 from rfl, nI_add]; exact vp_in_nI (by omega) (by omega)
  have hi2 : vp_in (x4 + 2) L := by rw [ex4, show (2 : Int32) = nI 2 from rfl, nI_add]; exact vp_in_nI (by omega) (by omega)
  have hi3 : vp_in (x4 + 3) L := by rw [ex4, show (3 : Int32) = nI 3 from rfl, nI_add]; exact vp_in_nI (by omega) (by omega)
  have hi4 : vp_in (x4 + 4) L := by rw [ex4, show (4 : Int32) = nI 4 from rfl, nI_add]; exact vp_in_nI (by omega) (by omega)
  have hi5 : vp_in (x4 + 5) L := by rw [ex4, show (5 : Int32) = nI 5 from rfl, nI_add]; exact vp_in_nI (by omega) (by omega)
  unfold lw at hW
  obtain ⟨k, r, K9, b9, M9, t, q1, q2, q3, hd, hRI⟩ := hop
  rcases hd with ⟨rfl, rfl, rfl⟩ | ⟨rfl, rfl⟩ | ⟨rfl, rfl⟩
  · refine lv_aload_n hx hb dL_law_358 rfl (lv_at hl 1 rfl) ?_
    refine lv_aload_n hx hb dL_law_359 rfl (lv_at hl 0 rfl) ?_
    refine lv_iload hx hb dL_law_360 (lv_at hl 4 rfl) ?_
    refine lv_iconst (v := 1) hx hb dL_law_362 (by decide) ?_
    refine lv_iadd hx hb dL_law_363 ?_
    refine va_sld hx hb hX hbl hbA hW.2.2 hi1 dL_law_364 ?_
    refine lv_aload_n hx hb dL_law_365 rfl (lv_at hl 0 rfl) ?_
    refine lv_iload hx hb dL_law_366 (lv_at hl 4 rfl) ?_
    refine lv_iconst (v := 2) hx hb dL_law_368 (by decide) ?_
    refine lv_iadd hx hb dL_law_369 ?_
    refine va_sld hx hb hX hbl hbA hW.2.2 hi2 dL_law_370 ?_
    refine lv_aload_n hx hb dL_law_371 rfl (lv_at hl 0 rfl) ?_
    refine lv_iload hx hb dL_law_372 (lv_at hl 4 rfl) ?_
    refine lv_iconst (v := 3) hx hb dL_law_374 (by decide) ?_
    refine lv_iadd hx hb dL_law_375 ?_
    refine va_sld hx hb hX hbl hbA hW.2.2 hi3 dL_law_376 ?_
    refine lv_aload_n hx hb dL_law_377 rfl (lv_at hl 0 rfl) ?_
    refine lv_iload hx hb dL_law_378 (lv_at hl 4 rfl) ?_
    refine lv_iconst (v := 4) hx hb dL_law_380 (by decide) ?_
    refine lv_iadd hx hb dL_law_381 ?_
    refine va_sld hx hb hX hbl hbA hW.2.2 hi4 dL_law_382 ?_
    refine lv_aload_n hx hb dL_law_383 rfl (lv_at hl 0 rfl) ?_
    refine lv_iload hx hb dL_law_384 (lv_at hl 4 rfl) ?_
    refine lv_iconst (v := 5) hx hb dL_law_386 (by decide) ?_
    refine lv_iadd hx hb dL_law_387 ?_
    refine va_sld hx hb hX hbl hbA hW.2.2 hi5 dL_law_388 ?_
    refine lv_aload_n hx hb dL_law_389 rfl (lv_at hl 3 rfl) ?_
    refine l_wrap (n := 7) C0 hW (wL_guess_0 l hfl D T A ad hok (oc_X11 T am M ++ []) ao g K (xs (x4 + 1).toNatClampNeg) (xs (x4 + 2).toNatClampNeg) (xs (x4 + 3).toNatClampNeg) (xs (x4 + 4).toNatClampNeg) (xs (x4 + 5).toNatClampNeg) r K9 q1) wm14_2 wm14_3 wm9_22 wm14_4 ⟨by decide +kernel, by decide +kernel, by decide +kernel⟩ ⟨by decide, by decide⟩ hc1 hs1 rfl hl.1 rfl (Nat.le_of_ble_eq_true rfl) dL_law_390 (fun H locs hW => ?_)
    refine lv_istore (lv' := [(5, .int 0), (0, .ref b), (1, .ref (ad 0 0)), (2, .ref (am 0)), (3, .ref ao), (4, .int x4)]) hx hb dL_law_393 hl (by decide) rfl (fun ls hl => ?_)
    refine lv_aload_n hx hb dL_law_395 rfl (lv_at hl 3 rfl) ?_
    refine lv_aload_n hx hb dL_law_396 rfl (lv_at hl 1 rfl) ?_
    refine lv_iload hx hb dL_law_397 (lv_at hl 5 rfl) ?_
    refine lv_iconst (v := 1) hx hb dL_law_399 (by decide) ?_
    refine lv_iadd hx hb dL_law_400 ?_
    refine va_sld hx hb hX hbl hbA hW.2.2 hi1 dL_law_401 ?_
    refine lv_aload_n hx hb dL_law_402 rfl (lv_at hl 1 rfl) ?_
    refine lv_iload hx hb dL_law_403 (lv_at hl 5 rfl) ?_
    refine lv_iconst (v := 2) hx hb dL_law_405 (by decide) ?_
    refine lv_iadd hx hb dL_law_406 ?_
    refine va_sld hx hb hX hbl hbA hW.2.2 hi2 dL_law_407 ?_
    refine lv_aload_n hx hb dL_law_408 rfl (lv_at hl 1 rfl) ?_
    refine lv_iload hx hb dL_law_409 (lv_at hl 5 rfl) ?_
    refine lv_iconst (v := 3) hx hb dL_law_411 (by decide) ?_
    refine lv_iadd hx hb dL_law_412 ?_
    refine va_sld hx hb hX hbl hbA hW.2.2 hi3 dL_law_413 ?_
    refine lv_aload_n hx hb dL_law_414 rfl (lv_at hl 1 rfl) ?_
    refine lv_iload hx hb dL_law_415 (lv_at hl 5 rfl) ?_
    refine lv_iconst (v := 4) hx hb dL_law_417 (by decide) ?_
    refine lv_iadd hx hb dL_law_418 ?_
    refine va_sld hx hb hX hbl hbA hW.2.2 hi4 dL_law_419 ?_
    refine lv_aload_n hx hb dL_law_420 rfl (lv_at hl 1 rfl) ?_
    refine lv_iload hx hb dL_law_421 (lv_at hl 5 rfl) ?_
    refine lv_iconst (v := 5) hx hb dL_law_423 (by decide) ?_
    refine lv_iadd hx hb dL_law_424 ?_
    refine va_sld hx hb hX hbl hbA hW.2.2 hi5 dL_law_425 ?_
    have hW := hW.perm pf3
    refine l_mod (As := [.int (xs (x4 + 1).toNatClampNeg), .int (xs (x4 + 2).toNatClampNeg), .int (xs (x4 + 3).toNatClampNeg), .int (xs (x4 + 4).toNatClampNeg), .int (xs (x4 + 5).toNatClampNeg)]) C0 hW (g_cw (n := 5) hts wm14_9 wm14_10 wm14_11 wm1_5 wm14_12 ⟨rfl, by decide +kernel, by decide +kernel, by decide +kernel⟩ ⟨rfl, rfl⟩ ⟨by decide, by decide⟩) rfl (c_X11_guess l D T A am (outc T ao (vp_updL g 0 r.toInt64) ++ (oc_X10 T (ad 0) (bb ad) (K9 0) ++ (wkL T ad K9 L18 ++ []))) M (xs (x4 + 1).toNatClampNeg) (xs (x4 + 2).toNatClampNeg) (xs (x4 + 3).toNatClampNeg) (xs (x4 + 4).toNatClampNeg) (xs (x4 + 5).toNatClampNeg) r M9 q2) rfl hl.1 rfl (Nat.le_of_ble_eq_true rfl) dL_law_426 (by omega) (by omega) (fun H locs hW => ?_)
    have hW := hW.perm pf3.symm
    refine lv_istore (lv' := [(6, .int r), (5, .int 0), (0, .ref b), (1, .ref (ad 0 0)), (2, .ref (am 0)), (3, .ref ao), (4, .int x4)]) hx hb dL_law_429 hl (by decide) rfl (fun ls hl => ?_)
    refine lv_aload_n hx hb dL_law_431 rfl (lv_at hl 4 rfl) ?_
    have hW := hW.perm pf3
    refine l_mod (As := []) C0 hW (g_cw (n := 0) hts wm11_13 wm11_14 wm11_15 wm1_5 wm11_16 ⟨rfl, by decide +kernel, by decide +kernel, by decide +kernel⟩ ⟨rfl, rfl⟩ ⟨by decide, by decide⟩) rfl (c_X11_thrown l D T A am (outc T ao (vp_updL g 0 r.toInt64) ++ (oc_X10 T (ad 0) (bb ad) (K9 0) ++ (wkL T ad K9 L18 ++ []))) M9 0 q3) rfl hl.1 rfl (Nat.le_of_ble_eq_true rfl) dL_law_432 (by omega) (by omega) (fun H locs hW => ?_)
    have hW := hW.perm pf3.symm
    refine lv_iload hx hb dL_law_435 (lv_at hl 1 rfl) ?_
    refine lv_icmp_eq (tgt := 442) hx hb dL_law_437 (by decide) (fun _ => ?_) (fun c9 => absurd rfl c9)
    refine lv_iload hx hb dL_law_442 (lv_at hl 1 rfl) ?_
    refine lv_if_ne (tgt := 459) hx hb dL_law_444 (by decide) (fun c9 => absurd rfl c9) (fun _ => ?_)
    refine lv_aload_n hx hb dL_law_447 rfl (lv_at hl 5 rfl) ?_
    refine lv_iconst (v := 0) hx hb dL_law_448 (by decide) ?_
    refine va_lald hx hb hK hW.1 0 3 rfl rfl (gd_in (by decide)) dL_law_449 ?_
    rw [show (vp_updL g 0 r.toInt64) (0 : Int32).toNatClampNeg = r.toInt64 from rfl]
    refine lv_iload hx hb dL_law_450 (lv_at hl 0 rfl) ?_
    refine lv_i2l (v := r.toInt64) hx hb dL_law_452 rfl ?_
    refine W.lcmp hx hb dL_law_453 ?_
    rw [lg_cmp_self]
    refine lv_if_eq (tgt := 459) hx hb dL_law_454 (by decide) (fun _ => ?_) (fun c9 => absurd rfl c9)
    refine lv_goto (tgt := 2470) hx hb dL_law_459 (by decide) ?_
    exact kk K9 M9 (vp_updL g 0 r.toInt64) H locs ls hRI hW (lv_sub hl [2, 3, 4, 5, 6] rfl)
  · refine lv_aload_n hx hb dL_law_358 rfl (lv_at hl 1 rfl) ?_
    refine lv_aload_n hx hb dL_law_359 rfl (lv_at hl 0 rfl) ?_
    refine lv_iload hx hb dL_law_360 (lv_at hl 4 rfl) ?_
    refine lv_iconst (v := 1) hx hb dL_law_362 (by decide) ?_
    refine lv_iadd hx hb dL_law_363 ?_
    refine va_sld hx hb hX hbl hbA hW.2.2 hi1 dL_law_364 ?_
    refine lv_aload_n hx hb dL_law_365 rfl (lv_at hl 0 rfl) ?_
    refine lv_iload hx hb dL_law_366 (lv_at hl 4 rfl) ?_
    refine lv_iconst (v := 2) hx hb dL_law_368 (by decide) ?_
    refine lv_iadd hx hb dL_law_369 ?_
    refine va_sld hx hb hX hbl hbA hW.2.2 hi2 dL_law_370 ?_
    refine lv_aload_n hx hb dL_law_371 rfl (lv_at hl 0 rfl) ?_
    refine lv_iload hx hb dL_law_372 (lv_at hl 4 rfl) ?_
    refine lv_iconst (v := 3) hx hb dL_law_374 (by decide) ?_
    refine lv_iadd hx hb dL_law_375 ?_
    refine va_sld hx hb hX hbl hbA hW.2.2 hi3 dL_law_376 ?_
    refine lv_aload_n hx hb dL_law_377 rfl (lv_at hl 0 rfl) ?_
    refine lv_iload hx hb dL_law_378 (lv_at hl 4 rfl) ?_
    refine lv_iconst (v := 4) hx hb dL_law_380 (by decide) ?_
    refine lv_iadd hx hb dL_law_381 ?_
    refine va_sld hx hb hX hbl hbA hW.2.2 hi4 dL_law_382 ?_
    refine lv_aload_n hx hb dL_law_383 rfl (lv_at hl 0 rfl) ?_
    refine lv_iload hx hb dL_law_384 (lv_at hl 4 rfl) ?_
    refine lv_iconst (v := 5) hx hb dL_law_386 (by decide) ?_
    refine lv_iadd hx hb dL_law_387 ?_
    refine va_sld hx hb hX hbl hbA hW.2.2 hi5 dL_law_388 ?_
    refine lv_aload_n hx hb dL_law_389 rfl (lv_at hl 3 rfl) ?_
    refine l_wrap (n := 7) C0 hW (wL_guess_2 l hfl D T A ad hok (oc_X11 T am M ++ []) ao g K (xs (x4 + 1).toNatClampNeg) (xs (x4 + 2).toNatClampNeg) (xs (x4 + 3).toNatClampNeg) (xs (x4 + 4).toNatClampNeg) (xs (x4 + 5).toNatClampNeg) r K9 q1) wm14_2 wm14_3 wm9_22 wm14_4 ⟨by decide +kernel, by decide +kernel, by decide +kernel⟩ ⟨by decide, by decide⟩ hc1 hs1 rfl hl.1 rfl (Nat.le_of_ble_eq_true rfl) dL_law_390 (fun H locs hW => ?_)
    refine lv_istore (lv' := [(5, .int 1), (0, .ref b), (1, .ref (ad 0 0)), (2, .ref (am 0)), (3, .ref ao), (4, .int x4)]) hx hb dL_law_393 hl (by decide) rfl (fun ls hl => ?_)
    refine lv_aload_n hx hb dL_law_395 rfl (lv_at hl 3 rfl) ?_
    refine lv_aload_n hx hb dL_law_396 rfl (lv_at hl 1 rfl) ?_
    refine lv_iload hx hb dL_law_397 (lv_at hl 5 rfl) ?_
    refine lv_iconst (v := 1) hx hb dL_law_399 (by decide) ?_
    refine lv_iadd hx hb dL_law_400 ?_
    refine va_sld hx hb hX hbl hbA hW.2.2 hi1 dL_law_401 ?_
    refine lv_aload_n hx hb dL_law_402 rfl (lv_at hl 1 rfl) ?_
    refine lv_iload hx hb dL_law_403 (lv_at hl 5 rfl) ?_
    refine lv_iconst (v := 2) hx hb dL_law_405 (by decide) ?_
    refine lv_iadd hx hb dL_law_406 ?_
    refine va_sld hx hb hX hbl hbA hW.2.2 hi2 dL_law_407 ?_
    refine lv_aload_n hx hb dL_law_408 rfl (lv_at hl 1 rfl) ?_
    refine lv_iload hx hb dL_law_409 (lv_at hl 5 rfl) ?_
    refine lv_iconst (v := 3) hx hb dL_law_411 (by decide) ?_
    refine lv_iadd hx hb dL_law_412 ?_
    refine va_sld hx hb hX hbl hbA hW.2.2 hi3 dL_law_413 ?_
    refine lv_aload_n hx hb dL_law_414 rfl (lv_at hl 1 rfl) ?_
    refine lv_iload hx hb dL_law_415 (lv_at hl 5 rfl) ?_
    refine lv_iconst (v := 4) hx hb dL_law_417 (by decide) ?_
    refine lv_iadd hx hb dL_law_418 ?_
    refine va_sld hx hb hX hbl hbA hW.2.2 hi4 dL_law_419 ?_
    refine lv_aload_n hx hb dL_law_420 rfl (lv_at hl 1 rfl) ?_
    refine lv_iload hx hb dL_law_421 (lv_at hl 5 rfl) ?_
    refine lv_iconst (v := 5) hx hb dL_law_423 (by decide) ?_
    refine lv_iadd hx hb dL_law_424 ?_
    refine va_sld hx hb hX hbl hbA hW.2.2 hi5 dL_law_425 ?_
    have hW := hW.perm pf3
    refine l_mod (As := [.int (xs (x4 + 1).toNatClampNeg), .int (xs (x4 + 2).toNatClampNeg), .int (xs (x4 + 3).toNatClampNeg), .int (xs (x4 + 4).toNatClampNeg), .int (xs (x4 + 5).toNatClampNeg)]) C0 hW (g_cw (n := 5) hts wm14_9 wm14_10 wm14_11 wm1_5 wm14_12 ⟨rfl, by decide +kernel, by decide +kernel, by decide +kernel⟩ ⟨rfl, rfl⟩ ⟨by decide, by decide⟩) rfl (c_X11_guess l D T A am (outc T ao g ++ (oc_X10 T (ad 0) (bb ad) (K9 0) ++ (wkL T ad K9 L18 ++ []))) M (xs (x4 + 1).toNatClampNeg) (xs (x4 + 2).toNatClampNeg) (xs (x4 + 3).toNatClampNeg) (xs (x4 + 4).toNatClampNeg) (xs (x4 + 5).toNatClampNeg) b9 M9 q2) rfl hl.1 rfl (Nat.le_of_ble_eq_true rfl) dL_law_426 (by omega) (by omega) (fun H locs hW => ?_)
    have hW := hW.perm pf3.symm
    refine lv_istore (lv' := [(6, .int b9), (5, .int 1), (0, .ref b), (1, .ref (ad 0 0)), (2, .ref (am 0)), (3, .ref ao), (4, .int x4)]) hx hb dL_law_429 hl (by decide) rfl (fun ls hl => ?_)
    refine lv_aload_n hx hb dL_law_431 rfl (lv_at hl 4 rfl) ?_
    have hW := hW.perm pf3
    refine l_mod (As := []) C0 hW (g_cw (n := 0) hts wm11_13 wm11_14 wm11_15 wm1_5 wm11_16 ⟨rfl, by decide +kernel, by decide +kernel, by decide +kernel⟩ ⟨rfl, rfl⟩ ⟨by decide, by decide⟩) rfl (c_X11_thrown l D T A am (outc T ao g ++ (oc_X10 T (ad 0) (bb ad) (K9 0) ++ (wkL T ad K9 L18 ++ []))) M9 1 q3) rfl hl.1 rfl (Nat.le_of_ble_eq_true rfl) dL_law_432 (by omega) (by omega) (fun H locs hW => ?_)
    have hW := hW.perm pf3.symm
    refine lv_iload hx hb dL_law_435 (lv_at hl 1 rfl) ?_
    refine lv_icmp_eq (tgt := 442) hx hb dL_law_437 (by decide) (fun _ => ?_) (fun c9 => absurd rfl c9)
    refine lv_iload hx hb dL_law_442 (lv_at hl 1 rfl) ?_
    refine lv_if_ne (tgt := 459) hx hb dL_law_444 (by decide) (fun _ => ?_) (fun c9 => absurd c9 (by decide))
    refine lv_goto (tgt := 2470) hx hb dL_law_459 (by decide) ?_
    exact kk K9 M9 g H locs ls hRI hW (lv_sub hl [2, 3, 4, 5, 6] rfl)
  · refine lv_aload_n hx hb dL_law_358 rfl (lv_at hl 1 rfl) ?_
    refine lv_aload_n hx hb dL_law_359 rfl (lv_at hl 0 rfl) ?_
    refine lv_iload hx hb dL_law_360 (lv_at hl 4 rfl) ?_
    refine lv_iconst (v := 1) hx hb dL_law_362 (by decide) ?_
    refine lv_iadd hx hb dL_law_363 ?_
    refine va_sld hx hb hX hbl hbA hW.2.2 hi1 dL_law_364 ?_
    refine lv_aload_n hx hb dL_law_365 rfl (lv_at hl 0 rfl) ?_
    refine lv_iload hx hb dL_law_366 (lv_at hl 4 rfl) ?_
    refine lv_iconst (v := 2) hx hb dL_law_368 (by decide) ?_
    refine lv_iadd hx hb dL_law_369 ?_
    refine va_sld hx hb hX hbl hbA hW.2.2 hi2 dL_law_370 ?_
    refine lv_aload_n hx hb dL_law_371 rfl (lv_at hl 0 rfl) ?_
    refine lv_iload hx hb dL_law_372 (lv_at hl 4 rfl) ?_
    refine lv_iconst (v := 3) hx hb dL_law_374 (by decide) ?_
    refine lv_iadd hx hb dL_law_375 ?_
    refine va_sld hx hb hX hbl hbA hW.2.2 hi3 dL_law_376 ?_
    refine lv_aload_n hx hb dL_law_377 rfl (lv_at hl 0 rfl) ?_
    refine lv_iload hx hb dL_law_378 (lv_at hl 4 rfl) ?_
    refine lv_iconst (v := 4) hx hb dL_law_380 (by decide) ?_
    refine lv_iadd hx hb dL_law_381 ?_
    refine va_sld hx hb hX hbl hbA hW.2.2 hi4 dL_law_382 ?_
    refine lv_aload_n hx hb dL_law_383 rfl (lv_at hl 0 rfl) ?_
    refine lv_iload hx hb dL_law_384 (lv_at hl 4 rfl) ?_
    refine lv_iconst (v := 5) hx hb dL_law_386 (by decide) ?_
    refine lv_iadd hx hb dL_law_387 ?_
    refine va_sld hx hb hX hbl hbA hW.2.2 hi5 dL_law_388 ?_
    refine lv_aload_n hx hb dL_law_389 rfl (lv_at hl 3 rfl) ?_
    refine l_wrap (n := 7) C0 hW (wL_guess_3 l hfl D T A ad hok (oc_X11 T am M ++ []) ao g K (xs (x4 + 1).toNatClampNeg) (xs (x4 + 2).toNatClampNeg) (xs (x4 + 3).toNatClampNeg) (xs (x4 + 4).toNatClampNeg) (xs (x4 + 5).toNatClampNeg) r K9 q1) wm14_2 wm14_3 wm9_22 wm14_4 ⟨by decide +kernel, by decide +kernel, by decide +kernel⟩ ⟨by decide, by decide⟩ hc1 hs1 rfl hl.1 rfl (Nat.le_of_ble_eq_true rfl) dL_law_390 (fun H locs hW => ?_)
    refine lv_istore (lv' := [(5, .int 2), (0, .ref b), (1, .ref (ad 0 0)), (2, .ref (am 0)), (3, .ref ao), (4, .int x4)]) hx hb dL_law_393 hl (by decide) rfl (fun ls hl => ?_)
    refine lv_aload_n hx hb dL_law_395 rfl (lv_at hl 3 rfl) ?_
    refine lv_aload_n hx hb dL_law_396 rfl (lv_at hl 1 rfl) ?_
    refine lv_iload hx hb dL_law_397 (lv_at hl 5 rfl) ?_
    refine lv_iconst (v := 1) hx hb dL_law_399 (by decide) ?_
    refine lv_iadd hx hb dL_law_400 ?_
    refine va_sld hx hb hX hbl hbA hW.2.2 hi1 dL_law_401 ?_
    refine lv_aload_n hx hb dL_law_402 rfl (lv_at hl 1 rfl) ?_
    refine lv_iload hx hb dL_law_403 (lv_at hl 5 rfl) ?_
    refine lv_iconst (v := 2) hx hb dL_law_405 (by decide) ?_
    refine lv_iadd hx hb dL_law_406 ?_
    refine va_sld hx hb hX hbl hbA hW.2.2 hi2 dL_law_407 ?_
    refine lv_aload_n hx hb dL_law_408 rfl (lv_at hl 1 rfl) ?_
    refine lv_iload hx hb dL_law_409 (lv_at hl 5 rfl) ?_
    refine lv_iconst (v := 3) hx hb dL_law_411 (by decide) ?_
    refine lv_iadd hx hb dL_law_412 ?_
    refine va_sld hx hb hX hbl hbA hW.2.2 hi3 dL_law_413 ?_
    refine lv_aload_n hx hb dL_law_414 rfl (lv_at hl 1 rfl) ?_
    refine lv_iload hx hb dL_law_415 (lv_at hl 5 rfl) ?_
    refine lv_iconst (v := 4) hx hb dL_law_417 (by decide) ?_
    refine lv_iadd hx hb dL_law_418 ?_
    refine va_sld hx hb hX hbl hbA hW.2.2 hi4 dL_law_419 ?_
    refine lv_aload_n hx hb dL_law_420 rfl (lv_at hl 1 rfl) ?_
    refine lv_iload hx hb dL_law_421 (lv_at hl 5 rfl) ?_
    refine lv_iconst (v := 5) hx hb dL_law_423 (by decide) ?_
    refine lv_iadd hx hb dL_law_424 ?_
    refine va_sld hx hb hX hbl hbA hW.2.2 hi5 dL_law_425 ?_
    have hW := hW.perm pf3
    refine l_mod (As := [.int (xs (x4 + 1).toNatClampNeg), .int (xs (x4 + 2).toNatClampNeg), .int (xs (x4 + 3).toNatClampNeg), .int (xs (x4 + 4).toNatClampNeg), .int (xs (x4 + 5).toNatClampNeg)]) C0 hW (g_cw (n := 5) hts wm14_9 wm14_10 wm14_11 wm1_5 wm14_12 ⟨rfl, by decide +kernel, by decide +kernel, by decide +kernel⟩ ⟨rfl, rfl⟩ ⟨by decide, by decide⟩) rfl (c_X11_guess l D T A am (outc T ao g ++ (oc_X10 T (ad 0) (bb ad) (K9 0) ++ (wkL T ad K9 L18 ++ []))) M (xs (x4 + 1).toNatClampNeg) (xs (x4 + 2).toNatClampNeg) (xs (x4 + 3).toNatClampNeg) (xs (x4 + 4).toNatClampNeg) (xs (x4 + 5).toNatClampNeg) b9 M9 q2) rfl hl.1 rfl (Nat.le_of_ble_eq_true rfl) dL_law_426 (by omega) (by omega) (fun H locs hW => ?_)
    have hW := hW.perm pf3.symm
    refine lv_istore (lv' := [(6, .int b9), (5, .int 2), (0, .ref b), (1, .ref (ad 0 0)), (2, .ref (am 0)), (3, .ref ao), (4, .int x4)]) hx hb dL_law_429 hl (by decide) rfl (fun ls hl => ?_)
    refine lv_aload_n hx hb dL_law_431 rfl (lv_at hl 4 rfl) ?_
    have hW := hW.perm pf3
    refine l_mod (As := []) C0 hW (g_cw (n := 0) hts wm11_13 wm11_14 wm11_15 wm1_5 wm11_16 ⟨rfl, by decide +kernel, by decide +kernel, by decide +kernel⟩ ⟨rfl, rfl⟩ ⟨by decide, by decide⟩) rfl (c_X11_thrown l D T A am (outc T ao g ++ (oc_X10 T (ad 0) (bb ad) (K9 0) ++ (wkL T ad K9 L18 ++ []))) M9 2 q3) rfl hl.1 rfl (Nat.le_of_ble_eq_true rfl) dL_law_432 (by omega) (by omega) (fun H locs hW => ?_)
    have hW := hW.perm pf3.symm
    refine lv_iload hx hb dL_law_435 (lv_at hl 1 rfl) ?_
    refine lv_icmp_eq (tgt := 442) hx hb dL_law_437 (by decide) (fun _ => ?_) (fun c9 => absurd rfl c9)
    refine lv_iload hx hb dL_law_442 (lv_at hl 1 rfl) ?_
    refine lv_if_ne (tgt := 459) hx hb dL_law_444 (by decide) (fun _ => ?_) (fun c9 => absurd c9 (by decide))
    refine lv_goto (tgt := 2470) hx hb dL_law_459 (by decide) ?_
    exact kk K9 M9 g H locs ls hRI hW (lv_sub hl [2, 3, 4, 5, 6] rfl)
set_option maxHeartbeats 4000000 in
set_option maxRecDepth 100000 in
theorem law_readings {RI : Nat → (Nat → Ob) → Ob → Prop} {j i : Nat} {x4 : Int32} {K : Nat → Ob} {M : Ob} {g : Nat → Int64} {H : Heap} {locs : List Loc} {cells slots : Nat} {ls : Array Slot} (C0 : LC p l s m c D T A b L xs ad) (hop : Op_readings RI j K M (xs (x4 + 1).toNatClampNeg)) (hi : i + 6 < L) (ex4 : x4 = nI i) (hc1 : cells ≤ 2000) (hs1 : slots ≤ 400000) (hW : Wd D A s.heap (lw T ad am ao K M g) H locs) (hl : lv_has ls 7 [(0, .ref b), (1, .ref (ad 0 0)), (2, .ref (am 0)), (3, .ref ao), (4, .int x4)])
    (kk : ∀ (K9 : Nat → Ob) (M9 : Ob) (g9 : Nat → Int64) (H : Heap) (locs : List Loc) (ls : Array Slot), RI (j + 1) K9 M9 → Wd D A s.heap (lw T ad am ao K9 M9 g9) H locs → lv_has ls 7 [(0, .ref b), (1, .ref (ad 0 0)), (2, .ref (am 0)), (3, .ref ao), (4, .int x4)] → LW p l e s m b below meth c H locs (cells + 1) (slots + 6) Q (F0 m 2470 ls [])) : LW p l e s m b below meth c H locs cells slots Q (F0 m 462 ls []) := by
  obtain ⟨hx, hb, hml, hown, hts, hX, hbl, hbA, hL, hK, hN, hE, hC, hok, hfl⟩ := id C0
  have hi1 : vp_in (x4 + 1) L := by rw [ex4, show (1 : Int32) = nI 1 from rfl, nI_add]; exact vp_in_nI (by omega) (by omega)
  unfold lw at hW
  obtain ⟨k, r, K9, b9, M9, t, q1, eK, q2, q3, hd, hRI⟩ := hop
  subst eK
  rcases hd with ⟨rfl, rfl, rfl⟩ | ⟨rfl, rfl⟩
  · refine lv_aload_n hx hb dL_law_462 rfl (lv_at hl 1 rfl) ?_
    refine lv_aload_n hx hb dL_law_463 rfl (lv_at hl 0 rfl) ?_
    refine lv_iload hx hb dL_law_464 (lv_at hl 4 rfl) ?_
    refine lv_iconst (v := 1) hx hb dL_law_466 (by decide) ?_
    refine lv_iadd hx hb dL_law_467 ?_
    refine va_sld hx hb hX hbl hbA hW.2.2 hi1 dL_law_468 ?_
    refine lv_aload_n hx hb dL_law_469 rfl (lv_at hl 3 rfl) ?_
    refine l_wrap (n := 3) C0 hW (wL_readings_0 l hfl D T A ad hok (oc_X11 T am M ++ []) ao g K9 (xs (x4 + 1).toNatClampNeg) r  q1) wm14_13 wm14_14 wm9_22 wm14_15 ⟨by decide +kernel, by decide +kernel, by decide +kernel⟩ ⟨by decide, by decide⟩ hc1 hs1 rfl hl.1 rfl (Nat.le_of_ble_eq_true rfl) dL_law_470 (fun H locs hW => ?_)
    refine lv_istore (lv' := [(5, .int 0), (0, .ref b), (1, .ref (ad 0 0)), (2, .ref (am 0)), (3, .ref ao), (4, .int x4)]) hx hb dL_law_473 hl (by decide) rfl (fun ls hl => ?_)
    refine lv_aload_n hx hb dL_law_475 rfl (lv_at hl 3 rfl) ?_
    refine lv_aload_n hx hb dL_law_476 rfl (lv_at hl 1 rfl) ?_
    refine lv_iload hx hb dL_law_477 (lv_at hl 5 rfl) ?_
    refine lv_iconst (v := 1) hx hb dL_law_479 (by decide) ?_
    refine lv_iadd hx hb dL_law_480 ?_
    refine va_sld hx hb hX hbl hbA hW.2.2 hi1 dL_law_481 ?_
    have hW := hW.perm pf3
    refine l_mod (As := [.int (xs (x4 + 1).toNatClampNeg)]) C0 hW (g_cw (n := 1) hts wm15_4 wm15_5 wm15_6 wm1_5 wm15_7 ⟨rfl, by decide +kernel, by decide +kernel, by decide +kernel⟩ ⟨rfl, rfl⟩ ⟨by decide, by decide⟩) rfl (c_X11_readings l D T A am (outc T ao (vp_updL g 0 r.toInt64) ++ (oc_X10 T (ad 0) (bb ad) (K9 0) ++ (wkL T ad K9 L18 ++ []))) M (xs (x4 + 1).toNatClampNeg) r M9 q2) rfl hl.1 rfl (Nat.le_of_ble_eq_true rfl) dL_law_482 (by omega) (by omega) (fun H locs hW => ?_)
    have hW := hW.perm pf3.symm
    refine lv_istore (lv' := [(6, .int r), (5, .int 0), (0, .ref b), (1, .ref (ad 0 0)), (2, .ref (am 0)), (3, .ref ao), (4, .int x4)]) hx hb dL_law_485 hl (by decide) rfl (fun ls hl => ?_)
    refine lv_aload_n hx hb dL_law_487 rfl (lv_at hl 4 rfl) ?_
    have hW := hW.perm pf3
    refine l_mod (As := []) C0 hW (g_cw (n := 0) hts wm11_13 wm11_14 wm11_15 wm1_5 wm11_16 ⟨rfl, by decide +kernel, by decide +kernel, by decide +kernel⟩ ⟨rfl, rfl⟩ ⟨by decide, by decide⟩) rfl (c_X11_thrown l D T A am (outc T ao (vp_updL g 0 r.toInt64) ++ (oc_X10 T (ad 0) (bb ad) (K9 0) ++ (wkL T ad K9 L18 ++ []))) M9 0 q3) rfl hl.1 rfl (Nat.le_of_ble_eq_true rfl) dL_law_488 (by omega) (by omega) (fun H locs hW => ?_)
    have hW := hW.perm pf3.symm
    refine lv_iload hx hb dL_law_491 (lv_at hl 1 rfl) ?_
    refine lv_icmp_eq (tgt := 498) hx hb dL_law_493 (by decide) (fun _ => ?_) (fun c9 => absurd rfl c9)
    refine lv_iload hx hb dL_law_498 (lv_at hl 1 rfl) ?_
    refine lv_if_ne (tgt := 515) hx hb dL_law_500 (by decide) (fun c9 => absurd rfl c9) (fun _ => ?_)
    refine lv_aload_n hx hb dL_law_503 rfl (lv_at hl 5 rfl) ?_
    refine lv_iconst (v := 0) hx hb dL_law_504 (by decide) ?_
    refine va_lald hx hb hK hW.1 0 3 rfl rfl (gd_in (by decide)) dL_law_505 ?_
    rw [show (vp_updL g 0 r.toInt64) (0 : Int32).toNatClampNeg = r.toInt64 from rfl]
    refine lv_iload hx hb dL_law_506 (lv_at hl 0 rfl) ?_
    refine lv_i2l (v := r.toInt64) hx hb dL_law_508 rfl ?_
    refine W.lcmp hx hb dL_law_509 ?_
    rw [lg_cmp_self]
    refine lv_if_eq (tgt := 515) hx hb dL_law_510 (by decide) (fun _ => ?_) (fun c9 => absurd rfl c9)
    refine lv_goto (tgt := 2470) hx hb dL_law_515 (by decide) ?_
    exact kk K9 M9 (vp_updL g 0 r.toInt64) H locs ls hRI hW (lv_sub hl [2, 3, 4, 5, 6] rfl)
  · refine lv_aload_n hx hb dL_law_462 rfl (lv_at hl 1 rfl) ?_
    refine lv_aload_n hx hb dL_law_463 rfl (lv_at hl 0 rfl) ?_
    refine lv_iload hx hb dL_law_464 (lv_at hl 4 rfl) ?_
    refine lv_iconst (v := 1) hx hb dL_law_466 (by decide) ?_
    refine lv_iadd hx hb dL_law_467 ?_
    refine va_sld hx hb hX hbl hbA hW.2.2 hi1 dL_law_468 ?_
    refine lv_aload_n hx hb dL_law_469 rfl (lv_at hl 3 rfl) ?_
    refine l_wrap (n := 3) C0 hW (wL_readings_1 l hfl D T A ad hok (oc_X11 T am M ++ []) ao g K9 (xs (x4 + 1).toNatClampNeg) r  q1) wm14_13 wm14_14 wm9_22 wm14_15 ⟨by decide +kernel, by decide +kernel, by decide +kernel⟩ ⟨by decide, by decide⟩ hc1 hs1 rfl hl.1 rfl (Nat.le_of_ble_eq_true rfl) dL_law_470 (fun H locs hW => ?_)
    refine lv_istore (lv' := [(5, .int 1), (0, .ref b), (1, .ref (ad 0 0)), (2, .ref (am 0)), (3, .ref ao), (4, .int x4)]) hx hb dL_law_473 hl (by decide) rfl (fun ls hl => ?_)
    refine lv_aload_n hx hb dL_law_475 rfl (lv_at hl 3 rfl) ?_
    refine lv_aload_n hx hb dL_law_476 rfl (lv_at hl 1 rfl) ?_
    refine lv_iload hx hb dL_law_477 (lv_at hl 5 rfl) ?_
    refine lv_iconst (v := 1) hx hb dL_law_479 (by decide) ?_
    refine lv_iadd hx hb dL_law_480 ?_
    refine va_sld hx hb hX hbl hbA hW.2.2 hi1 dL_law_481 ?_
    have hW := hW.perm pf3
    refine l_mod (As := [.int (xs (x4 + 1).toNatClampNeg)]) C0 hW (g_cw (n := 1) hts wm15_4 wm15_5 wm15_6 wm1_5 wm15_7 ⟨rfl, by decide +kernel, by decide +kernel, by decide +kernel⟩ ⟨rfl, rfl⟩ ⟨by decide, by decide⟩) rfl (c_X11_readings l D T A am (outc T ao g ++ (oc_X10 T (ad 0) (bb ad) (K9 0) ++ (wkL T ad K9 L18 ++ []))) M (xs (x4 + 1).toNatClampNeg) b9 M9 q2) rfl hl.1 rfl (Nat.le_of_ble_eq_true rfl) dL_law_482 (by omega) (by omega) (fun H locs hW => ?_)
    have hW := hW.perm pf3.symm
    refine lv_istore (lv' := [(6, .int b9), (5, .int 1), (0, .ref b), (1, .ref (ad 0 0)), (2, .ref (am 0)), (3, .ref ao), (4, .int x4)]) hx hb dL_law_485 hl (by decide) rfl (fun ls hl => ?_)
    refine lv_aload_n hx hb dL_law_487 rfl (lv_at hl 4 rfl) ?_
    have hW := hW.perm pf3
    refine l_mod (As := []) C0 hW (g_cw (n := 0) hts wm11_13 wm11_14 wm11_15 wm1_5 wm11_16 ⟨rfl, by decide +kernel, by decide +kernel, by decide +kernel⟩ ⟨rfl, rfl⟩ ⟨by decide, by decide⟩) rfl (c_X11_thrown l D T A am (outc T ao g ++ (oc_X10 T (ad 0) (bb ad) (K9 0) ++ (wkL T ad K9 L18 ++ []))) M9 1 q3) rfl hl.1 rfl (Nat.le_of_ble_eq_true rfl) dL_law_488 (by omega) (by omega) (fun H locs hW => ?_)
    have hW := hW.perm pf3.symm
    refine lv_iload hx hb dL_law_491 (lv_at hl 1 rfl) ?_
    refine lv_icmp_eq (tgt := 498) hx hb dL_law_493 (by decide) (fun _ => ?_) (fun c9 => absurd rfl c9)
    refine lv_iload hx hb dL_law_498 (lv_at hl 1 rfl) ?_
    refine lv_if_ne (tgt := 515) hx hb dL_law_500 (by decide) (fun _ => ?_) (fun c9 => absurd c9 (by decide))
    refine lv_goto (tgt := 2470) hx hb dL_law_515 (by decide) ?_
    exact kk K9 M9 g H locs ls hRI hW (lv_sub hl [2, 3, 4, 5, 6] rfl)
set_option maxHeartbeats 4000000 in
set_option maxRecDepth 100000 in
theorem law_sure {RI : Nat → (Nat → Ob) → Ob → Prop} {j i : Nat} {x4 : Int32} {K : Nat → Ob} {M : Ob} {g : Nat → Int64} {H : Heap} {locs : List Loc} {cells slots : Nat} {ls : Array Slot} (C0 : LC p l s m c D T A b L xs ad) (hop : Op_sure RI j K M (xs (x4 + 1).toNatClampNeg) (xs (x4 + 2).toNatClampNeg) (xs (x4 + 3).toNatClampNeg)) (hi : i + 6 < L) (ex4 : x4 = nI i) (hc1 : cells ≤ 2000) (hs1 : slots ≤ 400000) (hW : Wd D A s.heap (lw T ad am ao K M g) H locs) (hl : lv_has ls 7 [(0, .ref b), (1, .ref (ad 0 0)), (2, .ref (am 0)), (3, .ref ao), (4, .int x4)])
    (kk : ∀ (K9 : Nat → Ob) (M9 : Ob) (g9 : Nat → Int64) (H : Heap) (locs : List Loc) (ls : Array Slot), RI (j + 1) K9 M9 → Wd D A s.heap (lw T ad am ao K9 M9 g9) H locs → lv_has ls 7 [(0, .ref b), (1, .ref (ad 0 0)), (2, .ref (am 0)), (3, .ref ao), (4, .int x4)] → LW p l e s m b below meth c H locs (cells + 1) (slots + 6) Q (F0 m 2470 ls [])) : LW p l e s m b below meth c H locs cells slots Q (F0 m 518 ls []) := by
  obtain ⟨hx, hb, hml, hown, hts, hX, hbl, hbA, hL, hK, hN, hE, hC, hok, hfl⟩ := id C0
  have hi1 : vp_in (x4 + 1) L := by rw [ex4, show (1 : Int32) = nI 1 from rfl, nI_add]; exact vp_in_nI (by omega) (by omega)
  have hi2 : vp_in (x4 + 2) L := by rw [ex4, show (2 : Int32) = nI 2 from rfl, nI_add]; exact vp_in_nI (by omega) (by omega)
  have hi3 : vp_in (x4 + 3) L := by rw [ex4, show (3 : Int32) = nI 3 from rfl, nI_add]; exact vp_in_nI (by omega) (by omega)
  unfold lw at hW
  obtain ⟨k, r, K9, b9, M9, t, q1, q2, q3, hd, hRI⟩ := hop
  rcases hd with ⟨rfl, rfl, rfl⟩ | ⟨rfl, rfl⟩ | ⟨rfl, rfl⟩
  · refine lv_aload_n hx hb dL_law_518 rfl (lv_at hl 1 rfl) ?_
    refine lv_aload_n hx hb dL_law_519 rfl (lv_at hl 0 rfl) ?_
    refine lv_iload hx hb dL_law_520 (lv_at hl 4 rfl) ?_
    refine lv_iconst (v := 1) hx hb dL_law_522 (by decide) ?_
    refine lv_iadd hx hb dL_law_523 ?_
    refine va_sld hx hb hX hbl hbA hW.2.2 hi1 dL_law_524 ?_
    refine lv_aload_n hx hb dL_law_525 rfl (lv_at hl 0 rfl) ?_
    refine lv_iload hx hb dL_law_526 (lv_at hl 4 rfl) ?_
    refine lv_iconst (v := 2) hx hb dL_law_528 (by decide) ?_
    refine lv_iadd hx hb dL_law_529 ?_
    refine va_sld hx hb hX hbl hbA hW.2.2 hi2 dL_law_530 ?_
    refine lv_aload_n hx hb dL_law_531 rfl (lv_at hl 0 rfl) ?_
    refine lv_iload hx hb dL_law_532 (lv_at hl 4 rfl) ?_
    refine lv_iconst (v := 3) hx hb dL_law_534 (by decide) ?_
    refine lv_iadd hx hb dL_law_535 ?_
    refine va_sld hx hb hX hbl hbA hW.2.2 hi3 dL_law_536 ?_
    refine lv_aload_n hx hb dL_law_537 rfl (lv_at hl 3 rfl) ?_
    refine l_wrap (n := 5) C0 hW (wL_sure_0 l hfl D T A ad hok (oc_X11 T am M ++ []) ao g K (xs (x4 + 1).toNatClampNeg) (xs (x4 + 2).toNatClampNeg) (xs (x4 + 3).toNatClampNeg) r K9 q1) wm15_16 wm15_17 wm9_22 wm15_18 ⟨by decide +kernel, by decide +kernel, by decide +kernel⟩ ⟨by decide, by decide⟩ hc1 hs1 rfl hl.1 rfl (Nat.le_of_ble_eq_true rfl) dL_law_538 (fun H locs hW => ?_)
    refine lv_istore (lv' := [(5, .int 0), (0, .ref b), (1, .ref (ad 0 0)), (2, .ref (am 0)), (3, .ref ao), (4, .int x4)]) hx hb dL_law_541 hl (by decide) rfl (fun ls hl => ?_)
    refine lv_aload_n hx hb dL_law_543 rfl (lv_at hl 3 rfl) ?_
    refine lv_aload_n hx hb dL_law_544 rfl (lv_at hl 1 rfl) ?_
    refine lv_iload hx hb dL_law_545 (lv_at hl 5 rfl) ?_
    refine lv_iconst (v := 1) hx hb dL_law_547 (by decide) ?_
    refine lv_iadd hx hb dL_law_548 ?_
    refine va_sld hx hb hX hbl hbA hW.2.2 hi1 dL_law_549 ?_
    refine lv_aload_n hx hb dL_law_550 rfl (lv_at hl 1 rfl) ?_
    refine lv_iload hx hb dL_law_551 (lv_at hl 5 rfl) ?_
    refine lv_iconst (v := 2) hx hb dL_law_553 (by decide) ?_
    refine lv_iadd hx hb dL_law_554 ?_
    refine va_sld hx hb hX hbl hbA hW.2.2 hi2 dL_law_555 ?_
    refine lv_aload_n hx hb dL_law_556 rfl (lv_at hl 1 rfl) ?_
    refine lv_iload hx hb dL_law_557 (lv_at hl 5 rfl) ?_
    refine lv_iconst (v := 3) hx hb dL_law_559 (by decide) ?_
    refine lv_iadd hx hb dL_law_560 ?_
    refine va_sld hx hb hX hbl hbA hW.2.2 hi3 dL_law_561 ?_
    have hW := hW.perm pf3
    refine l_mod (As := [.int (xs (x4 + 1).toNatClampNeg), .int (xs (x4 + 2).toNatClampNeg), .int (xs (x4 + 3).toNatClampNeg)]) C0 hW (g_cw (n := 3) hts wm16_11 wm16_12 wm16_13 wm1_5 wm16_14 ⟨rfl, by decide +kernel, by decide +kernel, by decide +kernel⟩ ⟨rfl, rfl⟩ ⟨by decide, by decide⟩) rfl (c_X11_sure l D T A am (outc T ao (vp_updL g 0 r.toInt64) ++ (oc_X10 T (ad 0) (bb ad) (K9 0) ++ (wkL T ad K9 L18 ++ []))) M (xs (x4 + 1).toNatClampNeg) (xs (x4 + 2).toNatClampNeg) (xs (x4 + 3).toNatClampNeg) r M9 q2) rfl hl.1 rfl (Nat.le_of_ble_eq_true rfl) dL_law_562 (by omega) (by omega) (fun H locs hW => ?_)
    have hW := hW.perm pf3.symm
    refine lv_istore (lv' := [(6, .int r), (5, .int 0), (0, .ref b), (1, .ref (ad 0 0)), (2, .ref (am 0)), (3, .ref ao), (4, .int x4)]) hx hb dL_law_565 hl (by decide) rfl (fun ls hl => ?_)
    refine lv_aload_n hx hb dL_law_567 rfl (lv_at hl 4 rfl) ?_
    have hW := hW.perm pf3
    refine l_mod (As := []) C0 hW (g_cw (n := 0) hts wm11_13 wm11_14 wm11_15 wm1_5 wm11_16 ⟨rfl, by decide +kernel, by decide +kernel, by decide +kernel⟩ ⟨rfl, rfl⟩ ⟨by decide, by decide⟩) rfl (c_X11_thrown l D T A am (outc T ao (vp_updL g 0 r.toInt64) ++ (oc_X10 T (ad 0) (bb ad) (K9 0) ++ (wkL T ad K9 L18 ++ []))) M9 0 q3) rfl hl.1 rfl (Nat.le_of_ble_eq_true rfl) dL_law_568 (by omega) (by omega) (fun H locs hW => ?_)
    have hW := hW.perm pf3.symm
    refine lv_iload hx hb dL_law_571 (lv_at hl 1 rfl) ?_
    refine lv_icmp_eq (tgt := 578) hx hb dL_law_573 (by decide) (fun _ => ?_) (fun c9 => absurd rfl c9)
    refine lv_iload hx hb dL_law_578 (lv_at hl 1 rfl) ?_
    refine lv_if_ne (tgt := 595) hx hb dL_law_580 (by decide) (fun c9 => absurd rfl c9) (fun _ => ?_)
    refine lv_aload_n hx hb dL_law_583 rfl (lv_at hl 5 rfl) ?_
    refine lv_iconst (v := 0) hx hb dL_law_584 (by decide) ?_
    refine va_lald hx hb hK hW.1 0 3 rfl rfl (gd_in (by decide)) dL_law_585 ?_
    rw [show (vp_updL g 0 r.toInt64) (0 : Int32).toNatClampNeg = r.toInt64 from rfl]
    refine lv_iload hx hb dL_law_586 (lv_at hl 0 rfl) ?_
    refine lv_i2l (v := r.toInt64) hx hb dL_law_588 rfl ?_
    refine W.lcmp hx hb dL_law_589 ?_
    rw [lg_cmp_self]
    refine lv_if_eq (tgt := 595) hx hb dL_law_590 (by decide) (fun _ => ?_) (fun c9 => absurd rfl c9)
    refine lv_goto (tgt := 2470) hx hb dL_law_595 (by decide) ?_
    exact kk K9 M9 (vp_updL g 0 r.toInt64) H locs ls hRI hW (lv_sub hl [2, 3, 4, 5, 6] rfl)
  · refine lv_aload_n hx hb dL_law_518 rfl (lv_at hl 1 rfl) ?_
    refine lv_aload_n hx hb dL_law_519 rfl (lv_at hl 0 rfl) ?_
    refine lv_iload hx hb dL_law_520 (lv_at hl 4 rfl) ?_
    refine lv_iconst (v := 1) hx hb dL_law_522 (by decide) ?_
    refine lv_iadd hx hb dL_law_523 ?_
    refine va_sld hx hb hX hbl hbA hW.2.2 hi1 dL_law_524 ?_
    refine lv_aload_n hx hb dL_law_525 rfl (lv_at hl 0 rfl) ?_
    refine lv_iload hx hb dL_law_526 (lv_at hl 4 rfl) ?_
    refine lv_iconst (v := 2) hx hb dL_law_528 (by decide) ?_
    refine lv_iadd hx hb dL_law_529 ?_
    refine va_sld hx hb hX hbl hbA hW.2.2 hi2 dL_law_530 ?_
    refine lv_aload_n hx hb dL_law_531 rfl (lv_at hl 0 rfl) ?_
    refine lv_iload hx hb dL_law_532 (lv_at hl 4 rfl) ?_
    refine lv_iconst (v := 3) hx hb dL_law_534 (by decide) ?_
    refine lv_iadd hx hb dL_law_535 ?_
    refine va_sld hx hb hX hbl hbA hW.2.2 hi3 dL_law_536 ?_
    refine lv_aload_n hx hb dL_law_537 rfl (lv_at hl 3 rfl) ?_
    refine l_wrap (n := 5) C0 hW (wL_sure_2 l hfl D T A ad hok (oc_X11 T am M ++ []) ao g K (xs (x4 + 1).toNatClampNeg) (xs (x4 + 2).toNatClampNeg) (xs (x4 + 3).toNatClampNeg) r K9 q1) wm15_16 wm15_17 wm9_22 wm15_18 ⟨by decide +kernel, by decide +kernel, by decide +kernel⟩ ⟨by decide, by decide⟩ hc1 hs1 rfl hl.1 rfl (Nat.le_of_ble_eq_true rfl) dL_law_538 (fun H locs hW => ?_)
    refine lv_istore (lv' := [(5, .int 1), (0, .ref b), (1, .ref (ad 0 0)), (2, .ref (am 0)), (3, .ref ao), (4, .int x4)]) hx hb dL_law_541 hl (by decide) rfl (fun ls hl => ?_)
    refine lv_aload_n hx hb dL_law_543 rfl (lv_at hl 3 rfl) ?_
    refine lv_aload_n hx hb dL_law_544 rfl (lv_at hl 1 rfl) ?_
    refine lv_iload hx hb dL_law_545 (lv_at hl 5 rfl) ?_
    refine lv_iconst (v := 1) hx hb dL_law_547 (by decide) ?_
    refine lv_iadd hx hb dL_law_548 ?_
    refine va_sld hx hb hX hbl hbA hW.2.2 hi1 dL_law_549 ?_
    refine lv_aload_n hx hb dL_law_550 rfl (lv_at hl 1 rfl) ?_
    refine lv_iload hx hb dL_law_551 (lv_at hl 5 rfl) ?_
    refine lv_iconst (v := 2) hx hb dL_law_553 (by decide) ?_
    refine lv_iadd hx hb dL_law_554 ?_
    refine va_sld hx hb hX hbl hbA hW.2.2 hi2 dL_law_555 ?_
    refine lv_aload_n hx hb dL_law_556 rfl (lv_at hl 1 rfl) ?_
    refine lv_iload hx hb dL_law_557 (lv_at hl 5 rfl) ?_
    refine lv_iconst (v := 3) hx hb dL_law_559 (by decide) ?_
    refine lv_iadd hx hb dL_law_560 ?_
    refine va_sld hx hb hX hbl hbA hW.2.2 hi3 dL_law_561 ?_
    have hW := hW.perm pf3
    refine l_mod (As := [.int (xs (x4 + 1).toNatClampNeg), .int (xs (x4 + 2).toNatClampNeg), .int (xs (x4 + 3).toNatClampNeg)]) C0 hW (g_cw (n := 3) hts wm16_11 wm16_12 wm16_13 wm1_5 wm16_14 ⟨rfl, by decide +kernel, by decide +kernel, by decide +kernel⟩ ⟨rfl, rfl⟩ ⟨by decide, by decide⟩) rfl (c_X11_sure l D T A am (outc T ao g ++ (oc_X10 T (ad 0) (bb ad) (K9 0) ++ (wkL T ad K9 L18 ++ []))) M (xs (x4 + 1).toNatClampNeg) (xs (x4 + 2).toNatClampNeg) (xs (x4 + 3).toNatClampNeg) b9 M9 q2) rfl hl.1 rfl (Nat.le_of_ble_eq_true rfl) dL_law_562 (by omega) (by omega) (fun H locs hW => ?_)
    have hW := hW.perm pf3.symm
    refine lv_istore (lv' := [(6, .int b9), (5, .int 1), (0, .ref b), (1, .ref (ad 0 0)), (2, .ref (am 0)), (3, .ref ao), (4, .int x4)]) hx hb dL_law_565 hl (by decide) rfl (fun ls hl => ?_)
    refine lv_aload_n hx hb dL_law_567 rfl (lv_at hl 4 rfl) ?_
    have hW := hW.perm pf3
    refine l_mod (As := []) C0 hW (g_cw (n := 0) hts wm11_13 wm11_14 wm11_15 wm1_5 wm11_16 ⟨rfl, by decide +kernel, by decide +kernel, by decide +kernel⟩ ⟨rfl, rfl⟩ ⟨by decide, by decide⟩) rfl (c_X11_thrown l D T A am (outc T ao g ++ (oc_X10 T (ad 0) (bb ad) (K9 0) ++ (wkL T ad K9 L18 ++ []))) M9 1 q3) rfl hl.1 rfl (Nat.le_of_ble_eq_true rfl) dL_law_568 (by omega) (by omega) (fun H locs hW => ?_)
    have hW := hW.perm pf3.symm
    refine lv_iload hx hb dL_law_571 (lv_at hl 1 rfl) ?_
    refine lv_icmp_eq (tgt := 578) hx hb dL_law_573 (by decide) (fun _ => ?_) (fun c9 => absurd rfl c9)
    refine lv_iload hx hb dL_law_578 (lv_at hl 1 rfl) ?_
    refine lv_if_ne (tgt := 595) hx hb dL_law_580 (by decide) (fun _ => ?_) (fun c9 => absurd c9 (by decide))
    refine lv_goto (tgt := 2470) hx hb dL_law_595 (by decide) ?_
    exact kk K9 M9 g H locs ls hRI hW (lv_sub hl [2, 3, 4, 5, 6] rfl)
  · refine lv_aload_n hx hb dL_law_518 rfl (lv_at hl 1 rfl) ?_
    refine lv_aload_n hx hb dL_law_519 rfl (lv_at hl 0 rfl) ?_
    refine lv_iload hx hb dL_law_520 (lv_at hl 4 rfl) ?_
    refine lv_iconst (v := 1) hx hb dL_law_522 (by decide) ?_
    refine lv_iadd hx hb dL_law_523 ?_
    refine va_sld hx hb hX hbl hbA hW.2.2 hi1 dL_law_524 ?_
    refine lv_aload_n hx hb dL_law_525 rfl (lv_at hl 0 rfl) ?_
    refine lv_iload hx hb dL_law_526 (lv_at hl 4 rfl) ?_
    refine lv_iconst (v := 2) hx hb dL_law_528 (by decide) ?_
    refine lv_iadd hx hb dL_law_529 ?_
    refine va_sld hx hb hX hbl hbA hW.2.2 hi2 dL_law_530 ?_
    refine lv_aload_n hx hb dL_law_531 rfl (lv_at hl 0 rfl) ?_
    refine lv_iload hx hb dL_law_532 (lv_at hl 4 rfl) ?_
    refine lv_iconst (v := 3) hx hb dL_law_534 (by decide) ?_
    refine lv_iadd hx hb dL_law_535 ?_
    refine va_sld hx hb hX hbl hbA hW.2.2 hi3 dL_law_536 ?_
    refine lv_aload_n hx hb dL_law_537 rfl (lv_at hl 3 rfl) ?_
    refine l_wrap (n := 5) C0 hW (wL_sure_3 l hfl D T A ad hok (oc_X11 T am M ++ []) ao g K (xs (x4 + 1).toNatClampNeg) (xs (x4 + 2).toNatClampNeg) (xs (x4 + 3).toNatClampNeg) r K9 q1) wm15_16 wm15_17 wm9_22 wm15_18 ⟨by decide +kernel, by decide +kernel, by decide +kernel⟩ ⟨by decide, by decide⟩ hc1 hs1 rfl hl.1 rfl (Nat.le_of_ble_eq_true rfl) dL_law_538 (fun H locs hW => ?_)
    refine lv_istore (lv' := [(5, .int 2), (0, .ref b), (1, .ref (ad 0 0)), (2, .ref (am 0)), (3, .ref ao), (4, .int x4)]) hx hb dL_law_541 hl (by decide) rfl (fun ls hl => ?_)
    refine lv_aload_n hx hb dL_law_543 rfl (lv_at hl 3 rfl) ?_
    refine lv_aload_n hx hb dL_law_544 rfl (lv_at hl 1 rfl) ?_
    refine lv_iload hx hb dL_law_545 (lv_at hl 5 rfl) ?_
    refine lv_iconst (v := 1) hx hb dL_law_547 (by decide) ?_
    refine lv_iadd hx hb dL_law_548 ?_
    refine va_sld hx hb hX hbl hbA hW.2.2 hi1 dL_law_549 ?_
    refine lv_aload_n hx hb dL_law_550 rfl (lv_at hl 1 rfl) ?_
    refine lv_iload hx hb dL_law_551 (lv_at hl 5 rfl) ?_
    refine lv_iconst (v := 2) hx hb dL_law_553 (by decide) ?_
    refine lv_iadd hx hb dL_law_554 ?_
    refine va_sld hx hb hX hbl hbA hW.2.2 hi2 dL_law_555 ?_
    refine lv_aload_n hx hb dL_law_556 rfl (lv_at hl 1 rfl) ?_
    refine lv_iload hx hb dL_law_557 (lv_at hl 5 rfl) ?_
    refine lv_iconst (v := 3) hx hb dL_law_559 (by decide) ?_
    refine lv_iadd hx hb dL_law_560 ?_
    refine va_sld hx hb hX hbl hbA hW.2.2 hi3 dL_law_561 ?_
    have hW := hW.perm pf3
    refine l_mod (As := [.int (xs (x4 + 1).toNatClampNeg), .int (xs (x4 + 2).toNatClampNeg), .int (xs (x4 + 3).toNatClampNeg)]) C0 hW (g_cw (n := 3) hts wm16_11 wm16_12 wm16_13 wm1_5 wm16_14 ⟨rfl, by decide +kernel, by decide +kernel, by decide +kernel⟩ ⟨rfl, rfl⟩ ⟨by decide, by decide⟩) rfl (c_X11_sure l D T A am (outc T ao g ++ (oc_X10 T (ad 0) (bb ad) (K9 0) ++ (wkL T ad K9 L18 ++ []))) M (xs (x4 + 1).toNatClampNeg) (xs (x4 + 2).toNatClampNeg) (xs (x4 + 3).toNatClampNeg) b9 M9 q2) rfl hl.1 rfl (Nat.le_of_ble_eq_true rfl) dL_law_562 (by omega) (by omega) (fun H locs hW => ?_)
    have hW := hW.perm pf3.symm
    refine lv_istore (lv' := [(6, .int b9), (5, .int 2), (0, .ref b), (1, .ref (ad 0 0)), (2, .ref (am 0)), (3, .ref ao), (4, .int x4)]) hx hb dL_law_565 hl (by decide) rfl (fun ls hl => ?_)
    refine lv_aload_n hx hb dL_law_567 rfl (lv_at hl 4 rfl) ?_
    have hW := hW.perm pf3
    refine l_mod (As := []) C0 hW (g_cw (n := 0) hts wm11_13 wm11_14 wm11_15 wm1_5 wm11_16 ⟨rfl, by decide +kernel, by decide +kernel, by decide +kernel⟩ ⟨rfl, rfl⟩ ⟨by decide, by decide⟩) rfl (c_X11_thrown l D T A am (outc T ao g ++ (oc_X10 T (ad 0) (bb ad) (K9 0) ++ (wkL T ad K9 L18 ++ []))) M9 2 q3) rfl hl.1 rfl (Nat.le_of_ble_eq_true rfl) dL_law_568 (by omega) (by omega) (fun H locs hW => ?_)
    have hW := hW.perm pf3.symm
    refine lv_iload hx hb dL_law_571 (lv_at hl 1 rfl) ?_
    refine lv_icmp_eq (tgt := 578) hx hb dL_law_573 (by decide) (fun _ => ?_) (fun c9 => absurd rfl c9)
    refine lv_iload hx hb dL_law_578 (lv_at hl 1 rfl) ?_
    refine lv_if_ne (tgt := 595) hx hb dL_law_580 (by decide) (fun _ => ?_) (fun c9 => absurd c9 (by decide))
    refine lv_goto (tgt := 2470) hx hb dL_law_595 (by decide) ?_
    exact kk K9 M9 g H locs ls hRI hW (lv_sub hl [2, 3, 4, 5, 6] rfl)
set_option maxHeartbeats 4000000 in
set_option maxRecDepth 100000 in
theorem law_seen {RI : Nat → (Nat → Ob) → Ob → Prop} {j i : Nat} {x4 : Int32} {K : Nat → Ob} {M : Ob} {g : Nat → Int64} {H : Heap} {locs : List Loc} {cells slots : Nat} {ls : Array Slot} (C0 : LC p l s m c D T A b L xs ad) (hop : Op_seen RI j K M (xs (x4 + 1).toNatClampNeg) (xs (x4 + 2).toNatClampNeg) (xs (x4 + 3).toNatClampNeg) (xs (x4 + 4).toNatClampNeg)) (hi : i + 6 < L) (ex4 : x4 = nI i) (hc1 : cells ≤ 2000) (hs1 : slots ≤ 400000) (hW : Wd D A s.heap (lw T ad am ao K M g) H locs) (hl : lv_has ls 7 [(0, .ref b), (1, .ref (ad 0 0)), (2, .ref (am 0)), (3, .ref ao), (4, .int x4)])
    (kk : ∀ (K9 : Nat → Ob) (M9 : Ob) (g9 : Nat → Int64) (H : Heap) (locs : List Loc) (ls : Array Slot), RI (j + 1) K9 M9 → Wd D A s.heap (lw T ad am ao K9 M9 g9) H locs → lv_has ls 7 [(0, .ref b), (1, .ref (ad 0 0)), (2, .ref (am 0)), (3, .ref ao), (4, .int x4)] → LW p l e s m b below meth c H locs (cells + 1) (slots + 6) Q (F0 m 2470 ls [])) : LW p l e s m b below meth c H locs cells slots Q (F0 m 598 ls []) := by
  obtain ⟨hx, hb, hml, hown, hts, hX, hbl, hbA, hL, hK, hN, hE, hC, hok, hfl⟩ := id C0
  have hi1 : vp_in (x4 + 1) L := by rw [ex4, show (1 : Int32) = nI 1 from rfl, nI_add]; exact vp_in_nI (by omega) (by omega)
  have hi2 : vp_in (x4 + 2) L := by rw [ex4, show (2 : Int32) = nI 2 from rfl, nI_add]; exact vp_in_nI (by omega) (by omega)
  have hi3 : vp_in (x4 + 3) L := by rw [ex4, show (3 : Int32) = nI 3 from rfl, nI_add]; exact vp_in_nI (by omega) (by omega)
  have hi4 : vp_in (x4 + 4) L := by rw [ex4, show (4 : Int32) = nI 4 from rfl, nI_add]; exact vp_in_nI (by omega) (by omega)
  unfold lw at hW
  obtain ⟨k, r, K9, b9, M9, t, q1, q2, q3, hd, hRI⟩ := hop
  rcases hd with ⟨rfl, rfl, rfl⟩ | ⟨rfl, rfl⟩ | ⟨rfl, rfl⟩
  · refine lv_aload_n hx hb dL_law_598 rfl (lv_at hl 1 rfl) ?_
    refine lv_aload_n hx hb dL_law_599 rfl (lv_at hl 0 rfl) ?_
    refine lv_iload hx hb dL_law_600 (lv_at hl 4 rfl) ?_
    refine lv_iconst (v := 1) hx hb dL_law_602 (by decide) ?_
    refine lv_iadd hx hb dL_law_603 ?_
    refine va_sld hx hb hX hbl hbA hW.2.2 hi1 dL_law_604 ?_
    refine lv_aload_n hx hb dL_law_605 rfl (lv_at hl 0 rfl) ?_
    refine lv_iload hx hb dL_law_606 (lv_at hl 4 rfl) ?_
    refine lv_iconst (v := 2) hx hb dL_law_608 (by decide) ?_
    refine lv_iadd hx hb dL_law_609 ?_
    refine va_sld hx hb hX hbl hbA hW.2.2 hi2 dL_law_610 ?_
    refine lv_aload_n hx hb dL_law_611 rfl (lv_at hl 0 rfl) ?_
    refine lv_iload hx hb dL_law_612 (lv_at hl 4 rfl) ?_
    refine lv_iconst (v := 3) hx hb dL_law_614 (by decide) ?_
    refine lv_iadd hx hb dL_law_615 ?_
    refine va_sld hx hb hX hbl hbA hW.2.2 hi3 dL_law_616 ?_
    refine lv_aload_n hx hb dL_law_617 rfl (lv_at hl 0 rfl) ?_
    refine lv_iload hx hb dL_law_618 (lv_at hl 4 rfl) ?_
    refine lv_iconst (v := 4) hx hb dL_law_620 (by decide) ?_
    refine lv_iadd hx hb dL_law_621 ?_
    refine va_sld hx hb hX hbl hbA hW.2.2 hi4 dL_law_622 ?_
    refine lv_aload_n hx hb dL_law_623 rfl (lv_at hl 3 rfl) ?_
    refine l_wrap (n := 6) C0 hW (wL_seen_0 l hfl D T A ad hok (oc_X11 T am M ++ []) ao g K (xs (x4 + 1).toNatClampNeg) (xs (x4 + 2).toNatClampNeg) (xs (x4 + 3).toNatClampNeg) (xs (x4 + 4).toNatClampNeg) r K9 q1) wm16_20 wm16_21 wm9_22 wm16_22 ⟨by decide +kernel, by decide +kernel, by decide +kernel⟩ ⟨by decide, by decide⟩ hc1 hs1 rfl hl.1 rfl (Nat.le_of_ble_eq_true rfl) dL_law_624 (fun H locs hW => ?_)
    refine lv_istore (lv' := [(5, .int 0), (0, .ref b), (1, .ref (ad 0 0)), (2, .ref (am 0)), (3, .ref ao), (4, .int x4)]) hx hb dL_law_627 hl (by decide) rfl (fun ls hl => ?_)
    refine lv_aload_n hx hb dL_law_629 rfl (lv_at hl 3 rfl) ?_
    refine lv_aload_n hx hb dL_law_630 rfl (lv_at hl 1 rfl) ?_
    refine lv_iload hx hb dL_law_631 (lv_at hl 5 rfl) ?_
    refine lv_iconst (v := 1) hx hb dL_law_633 (by decide) ?_
    refine lv_iadd hx hb dL_law_634 ?_
    refine va_sld hx hb hX hbl hbA hW.2.2 hi1 dL_law_635 ?_
    refine lv_aload_n hx hb dL_law_636 rfl (lv_at hl 1 rfl) ?_
    refine lv_iload hx hb dL_law_637 (lv_at hl 5 rfl) ?_
    refine lv_iconst (v := 2) hx hb dL_law_639 (by decide) ?_
    refine lv_iadd hx hb dL_law_640 ?_
    refine va_sld hx hb hX hbl hbA hW.2.2 hi2 dL_law_641 ?_
    refine lv_aload_n hx hb dL_law_642 rfl (lv_at hl 1 rfl) ?_
    refine lv_iload hx hb dL_law_643 (lv_at hl 5 rfl) ?_
    refine lv_iconst (v := 3) hx hb dL_law_645 (by decide) ?_
    refine lv_iadd hx hb dL_law_646 ?_
    refine va_sld hx hb hX hbl hbA hW.2.2 hi3 dL_law_647 ?_
    refine lv_aload_n hx hb dL_law_648 rfl (lv_at hl 1 rfl) ?_
    refine lv_iload hx hb dL_law_649 (lv_at hl 5 rfl) ?_
    refine lv_iconst (v := 4) hx hb dL_law_651 (by decide) ?_
    refine lv_iadd hx hb dL_law_652 ?_
    refine va_sld hx hb hX hbl hbA hW.2.2 hi4 dL_law_653 ?_
    have hW := hW.perm pf3
    refine l_mod (As := [.int (xs (x4 + 1).toNatClampNeg), .int (xs (x4 + 2).toNatClampNeg), .int (xs (x4 + 3).toNatClampNeg), .int (xs (x4 + 4).toNatClampNeg)]) C0 hW (g_cw (n := 4) hts wm17_10 wm17_11 wm17_12 wm1_5 wm17_13 ⟨rfl, by decide +kernel, by decide +kernel, by decide +kernel⟩ ⟨rfl, rfl⟩ ⟨by decide, by decide⟩) rfl (c_X11_seen l D T A am (outc T ao (vp_updL g 0 r.toInt64) ++ (oc_X10 T (ad 0) (bb ad) (K9 0) ++ (wkL T ad K9 L18 ++ []))) M (xs (x4 + 1).toNatClampNeg) (xs (x4 + 2).toNatClampNeg) (xs (x4 + 3).toNatClampNeg) (xs (x4 + 4).toNatClampNeg) r M9 q2) rfl hl.1 rfl (Nat.le_of_ble_eq_true rfl) dL_law_654 (by omega) (by omega) (fun H locs hW => ?_)
    have hW := hW.perm pf3.symm
    refine lv_istore (lv' := [(6, .int r), (5, .int 0), (0, .ref b), (1, .ref (ad 0 0)), (2, .ref (am 0)), (3, .ref ao), (4, .int x4)]) hx hb dL_law_657 hl (by decide) rfl (fun ls hl => ?_)
    refine lv_aload_n hx hb dL_law_659 rfl (lv_at hl 4 rfl) ?_
    have hW := hW.perm pf3
    refine l_mod (As := []) C0 hW (g_cw (n := 0) hts wm11_13 wm11_14 wm11_15 wm1_5 wm11_16 ⟨rfl, by decide +kernel, by decide +kernel, by decide +kernel⟩ ⟨rfl, rfl⟩ ⟨by decide, by decide⟩) rfl (c_X11_thrown l D T A am (outc T ao (vp_updL g 0 r.toInt64) ++ (oc_X10 T (ad 0) (bb ad) (K9 0) ++ (wkL T ad K9 L18 ++ []))) M9 0 q3) rfl hl.1 rfl (Nat.le_of_ble_eq_true rfl) dL_law_660 (by omega) (by omega) (fun H locs hW => ?_)
    have hW := hW.perm pf3.symm
    refine lv_iload hx hb dL_law_663 (lv_at hl 1 rfl) ?_
    refine lv_icmp_eq (tgt := 670) hx hb dL_law_665 (by decide) (fun _ => ?_) (fun c9 => absurd rfl c9)
    refine lv_iload hx hb dL_law_670 (lv_at hl 1 rfl) ?_
    refine lv_if_ne (tgt := 687) hx hb dL_law_672 (by decide) (fun c9 => absurd rfl c9) (fun _ => ?_)
    refine lv_aload_n hx hb dL_law_675 rfl (lv_at hl 5 rfl) ?_
    refine lv_iconst (v := 0) hx hb dL_law_676 (by decide) ?_
    refine va_lald hx hb hK hW.1 0 3 rfl rfl (gd_in (by decide)) dL_law_677 ?_
    rw [show (vp_updL g 0 r.toInt64) (0 : Int32).toNatClampNeg = r.toInt64 from rfl]
    refine lv_iload hx hb dL_law_678 (lv_at hl 0 rfl) ?_
    refine lv_i2l (v := r.toInt64) hx hb dL_law_680 rfl ?_
    refine W.lcmp hx hb dL_law_681 ?_
    rw [lg_cmp_self]
    refine lv_if_eq (tgt := 687) hx hb dL_law_682 (by decide) (fun _ => ?_) (fun c9 => absurd rfl c9)
    refine lv_goto (tgt := 2470) hx hb dL_law_687 (by decide) ?_
    exact kk K9 M9 (vp_updL g 0 r.toInt64) H locs ls hRI hW (lv_sub hl [2, 3, 4, 5, 6] rfl)
  · refine lv_aload_n hx hb dL_law_598 rfl (lv_at hl 1 rfl) ?_
    refine lv_aload_n hx hb dL_law_599 rfl (lv_at hl 0 rfl) ?_
    refine lv_iload hx hb dL_law_600 (lv_at hl 4 rfl) ?_
    refine lv_iconst (v := 1) hx hb dL_law_602 (by decide) ?_
    refine lv_iadd hx hb dL_law_603 ?_
    refine va_sld hx hb hX hbl hbA hW.2.2 hi1 dL_law_604 ?_
    refine lv_aload_n hx hb dL_law_605 rfl (lv_at hl 0 rfl) ?_
    refine lv_iload hx hb dL_law_606 (lv_at hl 4 rfl) ?_
    refine lv_iconst (v := 2) hx hb dL_law_608 (by decide) ?_
    refine lv_iadd hx hb dL_law_609 ?_
    refine va_sld hx hb hX hbl hbA hW.2.2 hi2 dL_law_610 ?_
    refine lv_aload_n hx hb dL_law_611 rfl (lv_at hl 0 rfl) ?_
    refine lv_iload hx hb dL_law_612 (lv_at hl 4 rfl) ?_
    refine lv_iconst (v := 3) hx hb dL_law_614 (by decide) ?_
    refine lv_iadd hx hb dL_law_615 ?_
    refine va_sld hx hb hX hbl hbA hW.2.2 hi3 dL_law_616 ?_
    refine lv_aload_n hx hb dL_law_617 rfl (lv_at hl 0 rfl) ?_
    refine lv_iload hx hb dL_law_618 (lv_at hl 4 rfl) ?_
    refine lv_iconst (v := 4) hx hb dL_law_620 (by decide) ?_
    refine lv_iadd hx hb dL_law_621 ?_
    refine va_sld hx hb hX hbl hbA hW.2.2 hi4 dL_law_622 ?_
    refine lv_aload_n hx hb dL_law_623 rfl (lv_at hl 3 rfl) ?_
    refine l_wrap (n := 6) C0 hW (wL_seen_2 l hfl D T A ad hok (oc_X11 T am M ++ []) ao g K (xs (x4 + 1).toNatClampNeg) (xs (x4 + 2).toNatClampNeg) (xs (x4 + 3).toNatClampNeg) (xs (x4 + 4).toNatClampNeg) r K9 q1) wm16_20 wm16_21 wm9_22 wm16_22 ⟨by decide +kernel, by decide +kernel, by decide +kernel⟩ ⟨by decide, by decide⟩ hc1 hs1 rfl hl.1 rfl (Nat.le_of_ble_eq_true rfl) dL_law_624 (fun H locs hW => ?_)
    refine lv_istore (lv' := [(5, .int 1), (0, .ref b), (1, .ref (ad 0 0)), (2, .ref (am 0)), (3, .ref ao), (4, .int x4)]) hx hb dL_law_627 hl (by decide) rfl (fun ls hl => ?_)
    refine lv_aload_n hx hb dL_law_629 rfl (lv_at hl 3 rfl) ?_
    refine lv_aload_n hx hb dL_law_630 rfl (lv_at hl 1 rfl) ?_
    refine lv_iload hx hb dL_law_631 (lv_at hl 5 rfl) ?_
    refine lv_iconst (v := 1) hx hb dL_law_633 (by decide) ?_
    refine lv_iadd hx hb dL_law_634 ?_
    refine va_sld hx hb hX hbl hbA hW.2.2 hi1 dL_law_635 ?_
    refine lv_aload_n hx hb dL_law_636 rfl (lv_at hl 1 rfl) ?_
    refine lv_iload hx hb dL_law_637 (lv_at hl 5 rfl) ?_
    refine lv_iconst (v := 2) hx hb dL_law_639 (by decide) ?_
    refine lv_iadd hx hb dL_law_640 ?_
    refine va_sld hx hb hX hbl hbA hW.2.2 hi2 dL_law_641 ?_
    refine lv_aload_n hx hb dL_law_642 rfl (lv_at hl 1 rfl) ?_
    refine lv_iload hx hb dL_law_643 (lv_at hl 5 rfl) ?_
    refine lv_iconst (v := 3) hx hb dL_law_645 (by decide) ?_
    refine lv_iadd hx hb dL_law_646 ?_
    refine va_sld hx hb hX hbl hbA hW.2.2 hi3 dL_law_647 ?_
    refine lv_aload_n hx hb dL_law_648 rfl (lv_at hl 1 rfl) ?_
    refine lv_iload hx hb dL_law_649 (lv_at hl 5 rfl) ?_
    refine lv_iconst (v := 4) hx hb dL_law_651 (by decide) ?_
    refine lv_iadd hx hb dL_law_652 ?_
    refine va_sld hx hb hX hbl hbA hW.2.2 hi4 dL_law_653 ?_
    have hW := hW.perm pf3
    refine l_mod (As := [.int (xs (x4 + 1).toNatClampNeg), .int (xs (x4 + 2).toNatClampNeg), .int (xs (x4 + 3).toNatClampNeg), .int (xs (x4 + 4).toNatClampNeg)]) C0 hW (g_cw (n := 4) hts wm17_10 wm17_11 wm17_12 wm1_5 wm17_13 ⟨rfl, by decide +kernel, by decide +kernel, by decide +kernel⟩ ⟨rfl, rfl⟩ ⟨by decide, by decide⟩) rfl (c_X11_seen l D T A am (outc T ao g ++ (oc_X10 T (ad 0) (bb ad) (K9 0) ++ (wkL T ad K9 L18 ++ []))) M (xs (x4 + 1).toNatClampNeg) (xs (x4 + 2).toNatClampNeg) (xs (x4 + 3).toNatClampNeg) (xs (x4 + 4).toNatClampNeg) b9 M9 q2) rfl hl.1 rfl (Nat.le_of_ble_eq_true rfl) dL_law_654 (by omega) (by omega) (fun H locs hW => ?_)
    have hW := hW.perm pf3.symm
    refine lv_istore (lv' := [(6, .int b9), (5, .int 1), (0, .ref b), (1, .ref (ad 0 0)), (2, .ref (am 0)), (3, .ref ao), (4, .int x4)]) hx hb dL_law_657 hl (by decide) rfl (fun ls hl => ?_)
    refine lv_aload_n hx hb dL_law_659 rfl (lv_at hl 4 rfl) ?_
    have hW := hW.perm pf3
    refine l_mod (As := []) C0 hW (g_cw (n := 0) hts wm11_13 wm11_14 wm11_15 wm1_5 wm11_16 ⟨rfl, by decide +kernel, by decide +kernel, by decide +kernel⟩ ⟨rfl, rfl⟩ ⟨by decide, by decide⟩) rfl (c_X11_thrown l D T A am (outc T ao g ++ (oc_X10 T (ad 0) (bb ad) (K9 0) ++ (wkL T ad K9 L18 ++ []))) M9 1 q3) rfl hl.1 rfl (Nat.le_of_ble_eq_true rfl) dL_law_660 (by omega) (by omega) (fun H locs hW => ?_)
    have hW := hW.perm pf3.symm
    refine lv_iload hx hb dL_law_663 (lv_at hl 1 rfl) ?_
    refine lv_icmp_eq (tgt := 670) hx hb dL_law_665 (by decide) (fun _ => ?_) (fun c9 => absurd rfl c9)
    refine lv_iload hx hb dL_law_670 (lv_at hl 1 rfl) ?_
    refine lv_if_ne (tgt := 687) hx hb dL_law_672 (by decide) (fun _ => ?_) (fun c9 => absurd c9 (by decide))
    refine lv_goto (tgt := 2470) hx hb dL_law_687 (by decide) ?_
    exact kk K9 M9 g H locs ls hRI hW (lv_sub hl [2, 3, 4, 5, 6] rfl)
  · refine lv_aload_n hx hb dL_law_598 rfl (lv_at hl 1 rfl) ?_
    refine lv_aload_n hx hb dL_law_599 rfl (lv_at hl 0 rfl) ?_
    refine lv_iload hx hb dL_law_600 (lv_at hl 4 rfl) ?_
    refine lv_iconst (v := 1) hx hb dL_law_602 (by decide) ?_
    refine lv_iadd hx hb dL_law_603 ?_
    refine va_sld hx hb hX hbl hbA hW.2.2 hi1 dL_law_604 ?_
    refine lv_aload_n hx hb dL_law_605 rfl (lv_at hl 0 rfl) ?_
    refine lv_iload hx hb dL_law_606 (lv_at hl 4 rfl) ?_
    refine lv_iconst (v := 2) hx hb dL_law_608 (by decide) ?_
    refine lv_iadd hx hb dL_law_609 ?_
    refine va_sld hx hb hX hbl hbA hW.2.2 hi2 dL_law_610 ?_
    refine lv_aload_n hx hb dL_law_611 rfl (lv_at hl 0 rfl) ?_
    refine lv_iload hx hb dL_law_612 (lv_at hl 4 rfl) ?_
    refine lv_iconst (v := 3) hx hb dL_law_614 (by decide) ?_
    refine lv_iadd hx hb dL_law_615 ?_
    refine va_sld hx hb hX hbl hbA hW.2.2 hi3 dL_law_616 ?_
    refine lv_aload_n hx hb dL_law_617 rfl (lv_at hl 0 rfl) ?_
    refine lv_iload hx hb dL_law_618 (lv_at hl 4 rfl) ?_
    refine lv_iconst (v := 4) hx hb dL_law_620 (by decide) ?_
    refine lv_iadd hx hb dL_law_621 ?_
    refine va_sld hx hb hX hbl hbA hW.2.2 hi4 dL_law_622 ?_
    refine lv_aload_n hx hb dL_law_623 rfl (lv_at hl 3 rfl) ?_
    refine l_wrap (n := 6) C0 hW (wL_seen_3 l hfl D T A ad hok (oc_X11 T am M ++ []) ao g K (xs (x4 + 1).toNatClampNeg) (xs (x4 + 2).toNatClampNeg) (xs (x4 + 3).toNatClampNeg) (xs (x4 + 4).toNatClampNeg) r K9 q1) wm16_20 wm16_21 wm9_22 wm16_22 ⟨by decide +kernel, by decide +kernel, by decide +kernel⟩ ⟨by decide, by decide⟩ hc1 hs1 rfl hl.1 rfl (Nat.le_of_ble_eq_true rfl) dL_law_624 (fun H locs hW => ?_)
    refine lv_istore (lv' := [(5, .int 2), (0, .ref b), (1, .ref (ad 0 0)), (2, .ref (am 0)), (3, .ref ao), (4, .int x4)]) hx hb dL_law_627 hl (by decide) rfl (fun ls hl => ?_)
    refine lv_aload_n hx hb dL_law_629 rfl (lv_at hl 3 rfl) ?_
    refine lv_aload_n hx hb dL_law_630 rfl (lv_at hl 1 rfl) ?_
    refine lv_iload hx hb dL_law_631 (lv_at hl 5 rfl) ?_
    refine lv_iconst (v := 1) hx hb dL_law_633 (by decide) ?_
    refine lv_iadd hx hb dL_law_634 ?_
    refine va_sld hx hb hX hbl hbA hW.2.2 hi1 dL_law_635 ?_
    refine lv_aload_n hx hb dL_law_636 rfl (lv_at hl 1 rfl) ?_
    refine lv_iload hx hb dL_law_637 (lv_at hl 5 rfl) ?_
    refine lv_iconst (v := 2) hx hb dL_law_639 (by decide) ?_
    refine lv_iadd hx hb dL_law_640 ?_
    refine va_sld hx hb hX hbl hbA hW.2.2 hi2 dL_law_641 ?_
    refine lv_aload_n hx hb dL_law_642 rfl (lv_at hl 1 rfl) ?_
    refine lv_iload hx hb dL_law_643 (lv_at hl 5 rfl) ?_
    refine lv_iconst (v := 3) hx hb dL_law_645 (by decide) ?_
    refine lv_iadd hx hb dL_law_646 ?_
    refine va_sld hx hb hX hbl hbA hW.2.2 hi3 dL_law_647 ?_
    refine lv_aload_n hx hb dL_law_648 rfl (lv_at hl 1 rfl) ?_
    refine lv_iload hx hb dL_law_649 (lv_at hl 5 rfl) ?_
    refine lv_iconst (v := 4) hx hb dL_law_651 (by decide) ?_
    refine lv_iadd hx hb dL_law_652 ?_
    refine va_sld hx hb hX hbl hbA hW.2.2 hi4 dL_law_653 ?_
    have hW := hW.perm pf3
    refine l_mod (As := [.int (xs (x4 + 1).toNatClampNeg), .int (xs (x4 + 2).toNatClampNeg), .int (xs (x4 + 3).toNatClampNeg), .int (xs (x4 + 4).toNatClampNeg)]) C0 hW (g_cw (n := 4) hts wm17_10 wm17_11 wm17_12 wm1_5 wm17_13 ⟨rfl, by decide +kernel, by decide +kernel, by decide +kernel⟩ ⟨rfl, rfl⟩ ⟨by decide, by decide⟩) rfl (c_X11_seen l D T A am (outc T ao g ++ (oc_X10 T (ad 0) (bb ad) (K9 0) ++ (wkL T ad K9 L18 ++ []))) M (xs (x4 + 1).toNatClampNeg) (xs (x4 + 2).toNatClampNeg) (xs (x4 + 3).toNatClampNeg) (xs (x4 + 4).toNatClampNeg) b9 M9 q2) rfl hl.1 rfl (Nat.le_of_ble_eq_true rfl) dL_law_654 (by omega) (by omega) (fun H locs hW => ?_)
    have hW := hW.perm pf3.symm
    refine lv_istore (lv' := [(6, .int b9), (5, .int 2), (0, .ref b), (1, .ref (ad 0 0)), (2, .ref (am 0)), (3, .ref ao), (4, .int x4)]) hx hb dL_law_657 hl (by decide) rfl (fun ls hl => ?_)
    refine lv_aload_n hx hb dL_law_659 rfl (lv_at hl 4 rfl) ?_
    have hW := hW.perm pf3
    refine l_mod (As := []) C0 hW (g_cw (n := 0) hts wm11_13 wm11_14 wm11_15 wm1_5 wm11_16 ⟨rfl, by decide +kernel, by decide +kernel, by decide +kernel⟩ ⟨rfl, rfl⟩ ⟨by decide, by decide⟩) rfl (c_X11_thrown l D T A am (outc T ao g ++ (oc_X10 T (ad 0) (bb ad) (K9 0) ++ (wkL T ad K9 L18 ++ []))) M9 2 q3) rfl hl.1 rfl (Nat.le_of_ble_eq_true rfl) dL_law_660 (by omega) (by omega) (fun H locs hW => ?_)
    have hW := hW.perm pf3.symm
    refine lv_iload hx hb dL_law_663 (lv_at hl 1 rfl) ?_
    refine lv_icmp_eq (tgt := 670) hx hb dL_law_665 (by decide) (fun _ => ?_) (fun c9 => absurd rfl c9)
    refine lv_iload hx hb dL_law_670 (lv_at hl 1 rfl) ?_
    refine lv_if_ne (tgt := 687) hx hb dL_law_672 (by decide) (fun _ => ?_) (fun c9 => absurd c9 (by decide))
    refine lv_goto (tgt := 2470) hx hb dL_law_687 (by decide) ?_
    exact kk K9 M9 g H locs ls hRI hW (lv_sub hl [2, 3, 4, 5, 6] rfl)
set_option maxHeartbeats 4000000 in
set_option maxRecDepth 100000 in
theorem law_rule {RI : Nat → (Nat → Ob) → Ob → Prop} {j i : Nat} {x4 : Int32} {K : Nat → Ob} {M : Ob} {g : Nat → Int64} {H : Heap} {locs : List Loc} {cells slots : Nat} {ls : Array Slot} (C0 : LC p l s m c D T A b L xs ad) (hop : Op_rule RI j K M (xs (x4 + 1).toNatClampNeg) (xs (x4 + 2).toNatClampNeg) (xs (x4 + 3).toNatClampNeg) (xs (x4 + 4).toNatClampNeg)) (hi : i + 6 < L) (ex4 : x4 = nI i) (hc1 : cells ≤ 2000) (hs1 : slots ≤ 400000) (hW : Wd D A s.heap (lw T ad am ao K M g) H locs) (hl : lv_has ls 7 [(0, .ref b), (1, .ref (ad 0 0)), (2, .ref (am 0)), (3, .ref ao), (4, .int x4)])
    (kk : ∀ (K9 : Nat → Ob) (M9 : Ob) (g9 : Nat → Int64) (H : Heap) (locs : List Loc) (ls : Array Slot), RI (j + 1) K9 M9 → Wd D A s.heap (lw T ad am ao K9 M9 g9) H locs → lv_has ls 7 [(0, .ref b), (1, .ref (ad 0 0)), (2, .ref (am 0)), (3, .ref ao), (4, .int x4)] → LW p l e s m b below meth c H locs (cells + 1) (slots + 6) Q (F0 m 2470 ls [])) : LW p l e s m b below meth c H locs cells slots Q (F0 m 690 ls []) := by
  obtain ⟨hx, hb, hml, hown, hts, hX, hbl, hbA, hL, hK, hN, hE, hC, hok, hfl⟩ := id C0
  have hi1 : vp_in (x4 + 1) L := by rw [ex4, show (1 : Int32) = nI 1 from rfl, nI_add]; exact vp_in_nI (by omega) (by omega)
  have hi2 : vp_in (x4 + 2) L := by rw [ex4, show (2 : Int32) = nI 2 from rfl, nI_add]; exact vp_in_nI (by omega) (by omega)
  have hi3 : vp_in (x4 + 3) L := by rw [ex4, show (3 : Int32) = nI 3 from rfl, nI_add]; exact vp_in_nI (by omega) (by omega)
  have hi4 : vp_in (x4 + 4) L := by rw [ex4, show (4 : Int32) = nI 4 from rfl, nI_add]; exact vp_in_nI (by omega) (by omega)
  unfold lw at hW
  obtain ⟨k, r, K9, b9, M9, t, q1, q2, q3, hd, hRI⟩ := hop
  rcases hd with ⟨rfl, rfl, rfl⟩ | ⟨rfl, rfl⟩ | ⟨rfl, rfl⟩
  · refine lv_aload_n hx hb dL_law_690 rfl (lv_at hl 1 rfl) ?_
    refine lv_aload_n hx hb dL_law_691 rfl (lv_at hl 0 rfl) ?_
    refine lv_iload hx hb dL_law_692 (lv_at hl 4 rfl) ?_
    refine lv_iconst (v := 1) hx hb dL_law_694 (by decide) ?_
    refine lv_iadd hx hb dL_law_695 ?_
    refine va_sld hx hb hX hbl hbA hW.2.2 hi1 dL_law_696 ?_
    refine lv_aload_n hx hb dL_law_697 rfl (lv_at hl 0 rfl) ?_
    refine lv_iload hx hb dL_law_698 (lv_at hl 4 rfl) ?_
    refine lv_iconst (v := 2) hx hb dL_law_700 (by decide) ?_
    refine lv_iadd hx hb dL_law_701 ?_
    refine va_sld hx hb hX hbl hbA hW.2.2 hi2 dL_law_702 ?_
    refine lv_aload_n hx hb dL_law_703 rfl (lv_at hl 0 rfl) ?_
    refine lv_iload hx hb dL_law_704 (lv_at hl 4 rfl) ?_
    refine lv_iconst (v := 3) hx hb dL_law_706 (by decide) ?_
    refine lv_iadd hx hb dL_law_707 ?_
    refine va_sld hx hb hX hbl hbA hW.2.2 hi3 dL_law_708 ?_
    refine lv_aload_n hx hb dL_law_709 rfl (lv_at hl 0 rfl) ?_
    refine lv_iload hx hb dL_law_710 (lv_at hl 4 rfl) ?_
    refine lv_iconst (v := 4) hx hb dL_law_712 (by decide) ?_
    refine lv_iadd hx hb dL_law_713 ?_
    refine va_sld hx hb hX hbl hbA hW.2.2 hi4 dL_law_714 ?_
    refine lv_aload_n hx hb dL_law_715 rfl (lv_at hl 3 rfl) ?_
    refine l_wrap (n := 6) C0 hW (wL_rule_0 l hfl D T A ad hok (oc_X11 T am M ++ []) ao g K (xs (x4 + 1).toNatClampNeg) (xs (x4 + 2).toNatClampNeg) (xs (x4 + 3).toNatClampNeg) (xs (x4 + 4).toNatClampNeg) r K9 q1) wm17_14 wm17_15 wm9_22 wm17_16 ⟨by decide +kernel, by decide +kernel, by decide +kernel⟩ ⟨by decide, by decide⟩ hc1 hs1 rfl hl.1 rfl (Nat.le_of_ble_eq_true rfl) dL_law_716 (fun H locs hW => ?_)
    refine lv_istore (lv' := [(5, .int 0), (0, .ref b), (1, .ref (ad 0 0)), (2, .ref (am 0)), (3, .ref ao), (4, .int x4)]) hx hb dL_law_719 hl (by decide) rfl (fun ls hl => ?_)
    refine lv_aload_n hx hb dL_law_721 rfl (lv_at hl 3 rfl) ?_
    refine lv_aload_n hx hb dL_law_722 rfl (lv_at hl 1 rfl) ?_
    refine lv_iload hx hb dL_law_723 (lv_at hl 5 rfl) ?_
    refine lv_iconst (v := 1) hx hb dL_law_725 (by decide) ?_
    refine lv_iadd hx hb dL_law_726 ?_
    refine va_sld hx hb hX hbl hbA hW.2.2 hi1 dL_law_727 ?_
    refine lv_aload_n hx hb dL_law_728 rfl (lv_at hl 1 rfl) ?_
    refine lv_iload hx hb dL_law_729 (lv_at hl 5 rfl) ?_
    refine lv_iconst (v := 2) hx hb dL_law_731 (by decide) ?_
    refine lv_iadd hx hb dL_law_732 ?_
    refine va_sld hx hb hX hbl hbA hW.2.2 hi2 dL_law_733 ?_
    refine lv_aload_n hx hb dL_law_734 rfl (lv_at hl 1 rfl) ?_
    refine lv_iload hx hb dL_law_735 (lv_at hl 5 rfl) ?_
    refine lv_iconst (v := 3) hx hb dL_law_737 (by decide) ?_
    refine lv_iadd hx hb dL_law_738 ?_
    refine va_sld hx hb hX hbl hbA hW.2.2 hi3 dL_law_739 ?_
    refine lv_aload_n hx hb dL_law_740 rfl (lv_at hl 1 rfl) ?_
    refine lv_iload hx hb dL_law_741 (lv_at hl 5 rfl) ?_
    refine lv_iconst (v := 4) hx hb dL_law_743 (by decide) ?_
    refine lv_iadd hx hb dL_law_744 ?_
    refine va_sld hx hb hX hbl hbA hW.2.2 hi4 dL_law_745 ?_
    have hW := hW.perm pf3
    refine l_mod (As := [.int (xs (x4 + 1).toNatClampNeg), .int (xs (x4 + 2).toNatClampNeg), .int (xs (x4 + 3).toNatClampNeg), .int (xs (x4 + 4).toNatClampNeg)]) C0 hW (g_cw (n := 4) hts wm18_17 wm18_18 wm18_19 wm1_5 wm18_20 ⟨rfl, by decide +kernel, by decide +kernel, by decide +kernel⟩ ⟨rfl, rfl⟩ ⟨by decide, by decide⟩) rfl (c_X11_rule l D T A am (outc T ao (vp_updL g 0 r.toInt64) ++ (oc_X10 T (ad 0) (bb ad) (K9 0) ++ (wkL T ad K9 L18 ++ []))) M (xs (x4 + 1).toNatClampNeg) (xs (x4 + 2).toNatClampNeg) (xs (x4 + 3).toNatClampNeg) (xs (x4 + 4).toNatClampNeg) r M9 q2) rfl hl.1 rfl (Nat.le_of_ble_eq_true rfl) dL_law_746 (by omega) (by omega) (fun H locs hW => ?_)
    have hW := hW.perm pf3.symm
    refine lv_istore (lv' := [(6, .int r), (5, .int 0), (0, .ref b), (1, .ref (ad 0 0)), (2, .ref (am 0)), (3, .ref ao), (4, .int x4)]) hx hb dL_law_749 hl (by decide) rfl (fun ls hl => ?_)
    refine lv_aload_n hx hb dL_law_751 rfl (lv_at hl 4 rfl) ?_
    have hW := hW.perm pf3
    refine l_mod (As := []) C0 hW (g_cw (n := 0) hts wm11_13 wm11_14 wm11_15 wm1_5 wm11_16 ⟨rfl, by decide +kernel, by decide +kernel, by decide +kernel⟩ ⟨rfl, rfl⟩ ⟨by decide, by decide⟩) rfl (c_X11_thrown l D T A am (outc T ao (vp_updL g 0 r.toInt64) ++ (oc_X10 T (ad 0) (bb ad) (K9 0) ++ (wkL T ad K9 L18 ++ []))) M9 0 q3) rfl hl.1 rfl (Nat.le_of_ble_eq_true rfl) dL_law_752 (by omega) (by omega) (fun H locs hW => ?_)
    have hW := hW.perm pf3.symm
    refine lv_iload hx hb dL_law_755 (lv_at hl 1 rfl) ?_
    refine lv_icmp_eq (tgt := 762) hx hb dL_law_757 (by decide) (fun _ => ?_) (fun c9 => absurd rfl c9)
    refine lv_iload hx hb dL_law_762 (lv_at hl 1 rfl) ?_
    refine lv_if_ne (tgt := 779) hx hb dL_law_764 (by decide) (fun c9 => absurd rfl c9) (fun _ => ?_)
    refine lv_aload_n hx hb dL_law_767 rfl (lv_at hl 5 rfl) ?_
    refine lv_iconst (v := 0) hx hb dL_law_768 (by decide) ?_
    refine va_lald hx hb hK hW.1 0 3 rfl rfl (gd_in (by decide)) dL_law_769 ?_
    rw [show (vp_updL g 0 r.toInt64) (0 : Int32).toNatClampNeg = r.toInt64 from rfl]
    refine lv_iload hx hb dL_law_770 (lv_at hl 0 rfl) ?_
    refine lv_i2l (v := r.toInt64) hx hb dL_law_772 rfl ?_
    refine W.lcmp hx hb dL_law_773 ?_
    rw [lg_cmp_self]
    refine lv_if_eq (tgt := 779) hx hb dL_law_774 (by decide) (fun _ => ?_) (fun c9 => absurd rfl c9)
    refine lv_goto (tgt := 2470) hx hb dL_law_779 (by decide) ?_
    exact kk K9 M9 (vp_updL g 0 r.toInt64) H locs ls hRI hW (lv_sub hl [2, 3, 4, 5, 6] rfl)
  · refine lv_aload_n hx hb dL_law_690 rfl (lv_at hl 1 rfl) ?_
    refine lv_aload_n hx hb dL_law_691 rfl (lv_at hl 0 rfl) ?_
    refine lv_iload hx hb dL_law_692 (lv_at hl 4 rfl) ?_
    refine lv_iconst (v := 1) hx hb dL_law_694 (by decide) ?_
    refine lv_iadd hx hb dL_law_695 ?_
    refine va_sld hx hb hX hbl hbA hW.2.2 hi1 dL_law_696 ?_
    refine lv_aload_n hx hb dL_law_697 rfl (lv_at hl 0 rfl) ?_
    refine lv_iload hx hb dL_law_698 (lv_at hl 4 rfl) ?_
    refine lv_iconst (v := 2) hx hb dL_law_700 (by decide) ?_
    refine lv_iadd hx hb dL_law_701 ?_
    refine va_sld hx hb hX hbl hbA hW.2.2 hi2 dL_law_702 ?_
    refine lv_aload_n hx hb dL_law_703 rfl (lv_at hl 0 rfl) ?_
    refine lv_iload hx hb dL_law_704 (lv_at hl 4 rfl) ?_
    refine lv_iconst (v := 3) hx hb dL_law_706 (by decide) ?_
    refine lv_iadd hx hb dL_law_707 ?_
    refine va_sld hx hb hX hbl hbA hW.2.2 hi3 dL_law_708 ?_
    refine lv_aload_n hx hb dL_law_709 rfl (lv_at hl 0 rfl) ?_
    refine lv_iload hx hb dL_law_710 (lv_at hl 4 rfl) ?_
    refine lv_iconst (v := 4) hx hb dL_law_712 (by decide) ?_
    refine lv_iadd hx hb dL_law_713 ?_
    refine va_sld hx hb hX hbl hbA hW.2.2 hi4 dL_law_714 ?_
    refine lv_aload_n hx hb dL_law_715 rfl (lv_at hl 3 rfl) ?_
    refine l_wrap (n := 6) C0 hW (wL_rule_2 l hfl D T A ad hok (oc_X11 T am M ++ []) ao g K (xs (x4 + 1).toNatClampNeg) (xs (x4 + 2).toNatClampNeg) (xs (x4 + 3).toNatClampNeg) (xs (x4 + 4).toNatClampNeg) r K9 q1) wm17_14 wm17_15 wm9_22 wm17_16 ⟨by decide +kernel, by decide +kernel, by decide +kernel⟩ ⟨by decide, by decide⟩ hc1 hs1 rfl hl.1 rfl (Nat.le_of_ble_eq_true rfl) dL_law_716 (fun H locs hW => ?_)
    refine lv_istore (lv' := [(5, .int 1), (0, .ref b), (1, .ref (ad 0 0)), (2, .ref (am 0)), (3, .ref ao), (4, .int x4)]) hx hb dL_law_719 hl (by decide) rfl (fun ls hl => ?_)
    refine lv_aload_n hx hb dL_law_721 rfl (lv_at hl 3 rfl) ?_
    refine lv_aload_n hx hb dL_law_722 rfl (lv_at hl 1 rfl) ?_
    refine lv_iload hx hb dL_law_723 (lv_at hl 5 rfl) ?_
    refine lv_iconst (v := 1) hx hb dL_law_725 (by decide) ?_
    refine lv_iadd hx hb dL_law_726 ?_
    refine va_sld hx hb hX hbl hbA hW.2.2 hi1 dL_law_727 ?_
    refine lv_aload_n hx hb dL_law_728 rfl (lv_at hl 1 rfl) ?_
    refine lv_iload hx hb dL_law_729 (lv_at hl 5 rfl) ?_
    refine lv_iconst (v := 2) hx hb dL_law_731 (by decide) ?_
    refine lv_iadd hx hb dL_law_732 ?_
    refine va_sld hx hb hX hbl hbA hW.2.2 hi2 dL_law_733 ?_
    refine lv_aload_n hx hb dL_law_734 rfl (lv_at hl 1 rfl) ?_
    refine lv_iload hx hb dL_law_735 (lv_at hl 5 rfl) ?_
    refine lv_iconst (v := 3) hx hb dL_law_737 (by decide) ?_
    refine lv_iadd hx hb dL_law_738 ?_
    refine va_sld hx hb hX hbl hbA hW.2.2 hi3 dL_law_739 ?_
    refine lv_aload_n hx hb dL_law_740 rfl (lv_at hl 1 rfl) ?_
    refine lv_iload hx hb dL_law_741 (lv_at hl 5 rfl) ?_
    refine lv_iconst (v := 4) hx hb dL_law_743 (by decide) ?_
    refine lv_iadd hx hb dL_law_744 ?_
    refine va_sld hx hb hX hbl hbA hW.2.2 hi4 dL_law_745 ?_
    have hW := hW.perm pf3
    refine l_mod (As := [.int (xs (x4 + 1).toNatClampNeg), .int (xs (x4 + 2).toNatClampNeg), .int (xs (x4 + 3).toNatClampNeg), .int (xs (x4 + 4).toNatClampNeg)]) C0 hW (g_cw (n := 4) hts wm18_17 wm18_18 wm18_19 wm1_5 wm18_20 ⟨rfl, by decide +kernel, by decide +kernel, by decide +kernel⟩ ⟨rfl, rfl⟩ ⟨by decide, by decide⟩) rfl (c_X11_rule l D T A am (outc T ao g ++ (oc_X10 T (ad 0) (bb ad) (K9 0) ++ (wkL T ad K9 L18 ++ []))) M (xs (x4 + 1).toNatClampNeg) (xs (x4 + 2).toNatClampNeg) (xs (x4 + 3).toNatClampNeg) (xs (x4 + 4).toNatClampNeg) b9 M9 q2) rfl hl.1 rfl (Nat.le_of_ble_eq_true rfl) dL_law_746 (by omega) (by omega) (fun H locs hW => ?_)
    have hW := hW.perm pf3.symm
    refine lv_istore (lv' := [(6, .int b9), (5, .int 1), (0, .ref b), (1, .ref (ad 0 0)), (2, .ref (am 0)), (3, .ref ao), (4, .int x4)]) hx hb dL_law_749 hl (by decide) rfl (fun ls hl => ?_)
    refine lv_aload_n hx hb dL_law_751 rfl (lv_at hl 4 rfl) ?_
    have hW := hW.perm pf3
    refine l_mod (As := []) C0 hW (g_cw (n := 0) hts wm11_13 wm11_14 wm11_15 wm1_5 wm11_16 ⟨rfl, by decide +kernel, by decide +kernel, by decide +kernel⟩ ⟨rfl, rfl⟩ ⟨by decide, by decide⟩) rfl (c_X11_thrown l D T A am (outc T ao g ++ (oc_X10 T (ad 0) (bb ad) (K9 0) ++ (wkL T ad K9 L18 ++ []))) M9 1 q3) rfl hl.1 rfl (Nat.le_of_ble_eq_true rfl) dL_law_752 (by omega) (by omega) (fun H locs hW => ?_)
    have hW := hW.perm pf3.symm
    refine lv_iload hx hb dL_law_755 (lv_at hl 1 rfl) ?_
    refine lv_icmp_eq (tgt := 762) hx hb dL_law_757 (by decide) (fun _ => ?_) (fun c9 => absurd rfl c9)
    refine lv_iload hx hb dL_law_762 (lv_at hl 1 rfl) ?_
    refine lv_if_ne (tgt := 779) hx hb dL_law_764 (by decide) (fun _ => ?_) (fun c9 => absurd c9 (by decide))
    refine lv_goto (tgt := 2470) hx hb dL_law_779 (by decide) ?_
    exact kk K9 M9 g H locs ls hRI hW (lv_sub hl [2, 3, 4, 5, 6] rfl)
  · refine lv_aload_n hx hb dL_law_690 rfl (lv_at hl 1 rfl) ?_
    refine lv_aload_n hx hb dL_law_691 rfl (lv_at hl 0 rfl) ?_
    refine lv_iload hx hb dL_law_692 (lv_at hl 4 rfl) ?_
    refine lv_iconst (v := 1) hx hb dL_law_694 (by decide) ?_
    refine lv_iadd hx hb dL_law_695 ?_
    refine va_sld hx hb hX hbl hbA hW.2.2 hi1 dL_law_696 ?_
    refine lv_aload_n hx hb dL_law_697 rfl (lv_at hl 0 rfl) ?_
    refine lv_iload hx hb dL_law_698 (lv_at hl 4 rfl) ?_
    refine lv_iconst (v := 2) hx hb dL_law_700 (by decide) ?_
    refine lv_iadd hx hb dL_law_701 ?_
    refine va_sld hx hb hX hbl hbA hW.2.2 hi2 dL_law_702 ?_
    refine lv_aload_n hx hb dL_law_703 rfl (lv_at hl 0 rfl) ?_
    refine lv_iload hx hb dL_law_704 (lv_at hl 4 rfl) ?_
    refine lv_iconst (v := 3) hx hb dL_law_706 (by decide) ?_
    refine lv_iadd hx hb dL_law_707 ?_
    refine va_sld hx hb hX hbl hbA hW.2.2 hi3 dL_law_708 ?_
    refine lv_aload_n hx hb dL_law_709 rfl (lv_at hl 0 rfl) ?_
    refine lv_iload hx hb dL_law_710 (lv_at hl 4 rfl) ?_
    refine lv_iconst (v := 4) hx hb dL_law_712 (by decide) ?_
    refine lv_iadd hx hb dL_law_713 ?_
    refine va_sld hx hb hX hbl hbA hW.2.2 hi4 dL_law_714 ?_
    refine lv_aload_n hx hb dL_law_715 rfl (lv_at hl 3 rfl) ?_
    refine l_wrap (n := 6) C0 hW (wL_rule_3 l hfl D T A ad hok (oc_X11 T am M ++ []) ao g K (xs (x4 + 1).toNatClampNeg) (xs (x4 + 2).toNatClampNeg) (xs (x4 + 3).toNatClampNeg) (xs (x4 + 4).toNatClampNeg) r K9 q1) wm17_14 wm17_15 wm9_22 wm17_16 ⟨by decide +kernel, by decide +kernel, by decide +kernel⟩ ⟨by decide, by decide⟩ hc1 hs1 rfl hl.1 rfl (Nat.le_of_ble_eq_true rfl) dL_law_716 (fun H locs hW => ?_)
    refine lv_istore (lv' := [(5, .int 2), (0, .ref b), (1, .ref (ad 0 0)), (2, .ref (am 0)), (3, .ref ao), (4, .int x4)]) hx hb dL_law_719 hl (by decide) rfl (fun ls hl => ?_)
    refine lv_aload_n hx hb dL_law_721 rfl (lv_at hl 3 rfl) ?_
    refine lv_aload_n hx hb dL_law_722 rfl (lv_at hl 1 rfl) ?_
    refine lv_iload hx hb dL_law_723 (lv_at hl 5 rfl) ?_
    refine lv_iconst (v := 1) hx hb dL_law_725 (by decide) ?_
    refine lv_iadd hx hb dL_law_726 ?_
    refine va_sld hx hb hX hbl hbA hW.2.2 hi1 dL_law_727 ?_
    refine lv_aload_n hx hb dL_law_728 rfl (lv_at hl 1 rfl) ?_
    refine lv_iload hx hb dL_law_729 (lv_at hl 5 rfl) ?_
    refine lv_iconst (v := 2) hx hb dL_law_731 (by decide) ?_
    refine lv_iadd hx hb dL_law_732 ?_
    refine va_sld hx hb hX hbl hbA hW.2.2 hi2 dL_law_733 ?_
    refine lv_aload_n hx hb dL_law_734 rfl (lv_at hl 1 rfl) ?_
    refine lv_iload hx hb dL_law_735 (lv_at hl 5 rfl) ?_
    refine lv_iconst (v := 3) hx hb dL_law_737 (by decide) ?_
    refine lv_iadd hx hb dL_law_738 ?_
    refine va_sld hx hb hX hbl hbA hW.2.2 hi3 dL_law_739 ?_
    refine lv_aload_n hx hb dL_law_740 rfl (lv_at hl 1 rfl) ?_
    refine lv_iload hx hb dL_law_741 (lv_at hl 5 rfl) ?_
    refine lv_iconst (v := 4) hx hb dL_law_743 (by decide) ?_
    refine lv_iadd hx hb dL_law_744 ?_
    refine va_sld hx hb hX hbl hbA hW.2.2 hi4 dL_law_745 ?_
    have hW := hW.perm pf3
    refine l_mod (As := [.int (xs (x4 + 1).toNatClampNeg), .int (xs (x4 + 2).toNatClampNeg), .int (xs (x4 + 3).toNatClampNeg), .int (xs (x4 + 4).toNatClampNeg)]) C0 hW (g_cw (n := 4) hts wm18_17 wm18_18 wm18_19 wm1_5 wm18_20 ⟨rfl, by decide +kernel, by decide +kernel, by decide +kernel⟩ ⟨rfl, rfl⟩ ⟨by decide, by decide⟩) rfl (c_X11_rule l D T A am (outc T ao g ++ (oc_X10 T (ad 0) (bb ad) (K9 0) ++ (wkL T ad K9 L18 ++ []))) M (xs (x4 + 1).toNatClampNeg) (xs (x4 + 2).toNatClampNeg) (xs (x4 + 3).toNatClampNeg) (xs (x4 + 4).toNatClampNeg) b9 M9 q2) rfl hl.1 rfl (Nat.le_of_ble_eq_true rfl) dL_law_746 (by omega) (by omega) (fun H locs hW => ?_)
    have hW := hW.perm pf3.symm
    refine lv_istore (lv' := [(6, .int b9), (5, .int 2), (0, .ref b), (1, .ref (ad 0 0)), (2, .ref (am 0)), (3, .ref ao), (4, .int x4)]) hx hb dL_law_749 hl (by decide) rfl (fun ls hl => ?_)
    refine lv_aload_n hx hb dL_law_751 rfl (lv_at hl 4 rfl) ?_
    have hW := hW.perm pf3
    refine l_mod (As := []) C0 hW (g_cw (n := 0) hts wm11_13 wm11_14 wm11_15 wm1_5 wm11_16 ⟨rfl, by decide +kernel, by decide +kernel, by decide +kernel⟩ ⟨rfl, rfl⟩ ⟨by decide, by decide⟩) rfl (c_X11_thrown l D T A am (outc T ao g ++ (oc_X10 T (ad 0) (bb ad) (K9 0) ++ (wkL T ad K9 L18 ++ []))) M9 2 q3) rfl hl.1 rfl (Nat.le_of_ble_eq_true rfl) dL_law_752 (by omega) (by omega) (fun H locs hW => ?_)
    have hW := hW.perm pf3.symm
    refine lv_iload hx hb dL_law_755 (lv_at hl 1 rfl) ?_
    refine lv_icmp_eq (tgt := 762) hx hb dL_law_757 (by decide) (fun _ => ?_) (fun c9 => absurd rfl c9)
    refine lv_iload hx hb dL_law_762 (lv_at hl 1 rfl) ?_
    refine lv_if_ne (tgt := 779) hx hb dL_law_764 (by decide) (fun _ => ?_) (fun c9 => absurd c9 (by decide))
    refine lv_goto (tgt := 2470) hx hb dL_law_779 (by decide) ?_
    exact kk K9 M9 g H locs ls hRI hW (lv_sub hl [2, 3, 4, 5, 6] rfl)
set_option maxHeartbeats 4000000 in
set_option maxRecDepth 100000 in
theorem law_equate {RI : Nat → (Nat → Ob) → Ob → Prop} {j i : Nat} {x4 : Int32} {K : Nat → Ob} {M : Ob} {g : Nat → Int64} {H : Heap} {locs : List Loc} {cells slots : Nat} {ls : Array Slot} (C0 : LC p l s m c D T A b L xs ad) (hop : Op_equate RI j K M (xs (x4 + 1).toNatClampNeg) (xs (x4 + 2).toNatClampNeg) (xs (x4 + 3).toNatClampNeg) (xs (x4 + 4).toNatClampNeg) (xs (x4 + 5).toNatClampNeg)) (hi : i + 6 < L) (ex4 : x4 = nI i) (hc1 : cells ≤ 2000) (hs1 : slots ≤ 400000) (hW : Wd D A s.heap (lw T ad am ao K M g) H locs) (hl : lv_has ls 7 [(0, .ref b), (1, .ref (ad 0 0)), (2, .ref (am 0)), (3, .ref ao), (4, .int x4)])
    (kk : ∀ (K9 : Nat → Ob) (M9 : Ob) (g9 : Nat → Int64) (H : Heap) (locs : List Loc) (ls : Array Slot), RI (j + 1) K9 M9 → Wd D A s.heap (lw T ad am ao K9 M9 g9) H locs → lv_has ls 7 [(0, .ref b), (1, .ref (ad 0 0)), (2, .ref (am 0)), (3, .ref ao), (4, .int x4)] → LW p l e s m b below meth c H locs (cells + 1) (slots + 6) Q (F0 m 2470 ls [])) : LW p l e s m b below meth c H locs cells slots Q (F0 m 782 ls []) := by
  obtain ⟨hx, hb, hml, hown, hts, hX, hbl, hbA, hL, hK, hN, hE, hC, hok, hfl⟩ := id C0
  have hi1 : vp_in (x4 + 1) L := by rw [ex4, show (1 : Int32) = nI 1 from rfl, nI_add]; exact vp_in_nI (by omega) (by omega)
  have hi2 : vp_in (x4 + 2) L := by rw [ex4, show (2 : Int32) = nI 2 from rfl, nI_add]; exact vp_in_nI (by omega) (by omega)
  have hi3 : vp_in (x4 + 3) L := by rw [ex4, show (3 : Int32) = nI 3 from rfl, nI_add]; exact vp_in_nI (by omega) (by omega)
  have hi4 : vp_in (x4 + 4) L := by rw [ex4, show (4 : Int32) = nI 4 from rfl, nI_add]; exact vp_in_nI (by omega) (by omega)
  have hi5 : vp_in (x4 + 5) L := by rw [ex4, show (5 : Int32) = nI 5 from rfl, nI_add]; exact vp_in_nI (by omega) (by omega)
  unfold lw at hW
  obtain ⟨k, r, K9, b9, M9, t, q1, q2, q3, hd, hRI⟩ := hop
  rcases hd with ⟨rfl, rfl, rfl⟩ | ⟨rfl, rfl⟩ | ⟨rfl, rfl⟩ | ⟨rfl, rfl⟩
  · refine lv_aload_n hx hb dL_law_782 rfl (lv_at hl 1 rfl) ?_
    refine lv_aload_n hx hb dL_law_783 rfl (lv_at hl 0 rfl) ?_
    refine lv_iload hx hb dL_law_784 (lv_at hl 4 rfl) ?_
    refine lv_iconst (v := 1) hx hb dL_law_786 (by decide) ?_
    refine lv_iadd hx hb dL_law_787 ?_
    refine va_sld hx hb hX hbl hbA hW.2.2 hi1 dL_law_788 ?_
    refine lv_aload_n hx hb dL_law_789 rfl (lv_at hl 0 rfl) ?_
    refine lv_iload hx hb dL_law_790 (lv_at hl 4 rfl) ?_
    refine lv_iconst (v := 2) hx hb dL_law_792 (by decide) ?_
    refine lv_iadd hx hb dL_law_793 ?_
    refine va_sld hx hb hX hbl hbA hW.2.2 hi2 dL_law_794 ?_
    refine lv_aload_n hx hb dL_law_795 rfl (lv_at hl 0 rfl) ?_
    refine lv_iload hx hb dL_law_796 (lv_at hl 4 rfl) ?_
    refine lv_iconst (v := 3) hx hb dL_law_798 (by decide) ?_
    refine lv_iadd hx hb dL_law_799 ?_
    refine va_sld hx hb hX hbl hbA hW.2.2 hi3 dL_law_800 ?_
    refine lv_aload_n hx hb dL_law_801 rfl (lv_at hl 0 rfl) ?_
    refine lv_iload hx hb dL_law_802 (lv_at hl 4 rfl) ?_
    refine lv_iconst (v := 4) hx hb dL_law_804 (by decide) ?_
    refine lv_iadd hx hb dL_law_805 ?_
    refine va_sld hx hb hX hbl hbA hW.2.2 hi4 dL_law_806 ?_
    refine lv_aload_n hx hb dL_law_807 rfl (lv_at hl 0 rfl) ?_
    refine lv_iload hx hb dL_law_808 (lv_at hl 4 rfl) ?_
    refine lv_iconst (v := 5) hx hb dL_law_810 (by decide) ?_
    refine lv_iadd hx hb dL_law_811 ?_
    refine va_sld hx hb hX hbl hbA hW.2.2 hi5 dL_law_812 ?_
    refine lv_aload_n hx hb dL_law_813 rfl (lv_at hl 3 rfl) ?_
    refine l_wrap (n := 7) C0 hW (wL_equate_0 l hfl D T A ad hok (oc_X11 T am M ++ []) ao g K (xs (x4 + 1).toNatClampNeg) (xs (x4 + 2).toNatClampNeg) (xs (x4 + 3).toNatClampNeg) (xs (x4 + 4).toNatClampNeg) (xs (x4 + 5).toNatClampNeg) r K9 q1) wm18_22 wm18_23 wm9_22 wm19_0 ⟨by decide +kernel, by decide +kernel, by decide +kernel⟩ ⟨by decide, by decide⟩ hc1 hs1 rfl hl.1 rfl (Nat.le_of_ble_eq_true rfl) dL_law_814 (fun H locs hW => ?_)
    refine lv_istore (lv' := [(5, .int 0), (0, .ref b), (1, .ref (ad 0 0)), (2, .ref (am 0)), (3, .ref ao), (4, .int x4)]) hx hb dL_law_817 hl (by decide) rfl (fun ls hl => ?_)
    refine lv_aload_n hx hb dL_law_819 rfl (lv_at hl 3 rfl) ?_
    refine lv_aload_n hx hb dL_law_820 rfl (lv_at hl 1 rfl) ?_
    refine lv_iload hx hb dL_law_821 (lv_at hl 5 rfl) ?_
    refine lv_iconst (v := 1) hx hb dL_law_823 (by decide) ?_
    refine lv_iadd hx hb dL_law_824 ?_
    refine va_sld hx hb hX hbl hbA hW.2.2 hi1 dL_law_825 ?_
    refine lv_aload_n hx hb dL_law_826 rfl (lv_at hl 1 rfl) ?_
    refine lv_iload hx hb dL_law_827 (lv_at hl 5 rfl) ?_
    refine lv_iconst (v := 2) hx hb dL_law_829 (by decide) ?_
    refine lv_iadd hx hb dL_law_830 ?_
    refine va_sld hx hb hX hbl hbA hW.2.2 hi2 dL_law_831 ?_
    refine lv_aload_n hx hb dL_law_832 rfl (lv_at hl 1 rfl) ?_
    refine lv_iload hx hb dL_law_833 (lv_at hl 5 rfl) ?_
    refine lv_iconst (v := 3) hx hb dL_law_835 (by decide) ?_
    refine lv_iadd hx hb dL_law_836 ?_
    refine va_sld hx hb hX hbl hbA hW.2.2 hi3 dL_law_837 ?_
    refine lv_aload_n hx hb dL_law_838 rfl (lv_at hl 1 rfl) ?_
    refine lv_iload hx hb dL_law_839 (lv_at hl 5 rfl) ?_
    refine lv_iconst (v := 4) hx hb dL_law_841 (by decide) ?_
    refine lv_iadd hx hb dL_law_842 ?_
    refine va_sld hx hb hX hbl hbA hW.2.2 hi4 dL_law_843 ?_
    refine lv_aload_n hx hb dL_law_844 rfl (lv_at hl 1 rfl) ?_
    refine lv_iload hx hb dL_law_845 (lv_at hl 5 rfl) ?_
    refine lv_iconst (v := 5) hx hb dL_law_847 (by decide) ?_
    refine lv_iadd hx hb dL_law_848 ?_
    refine va_sld hx hb hX hbl hbA hW.2.2 hi5 dL_law_849 ?_
    have hW := hW.perm pf3
    refine l_mod (As := [.int (xs (x4 + 1).toNatClampNeg), .int (xs (x4 + 2).toNatClampNeg), .int (xs (x4 + 3).toNatClampNeg), .int (xs (x4 + 4).toNatClampNeg), .int (xs (x4 + 5).toNatClampNeg)]) C0 hW (g_cw (n := 5) hts wm19_23 wm20_0 wm20_1 wm1_5 wm20_2 ⟨rfl, by decide +kernel, by decide +kernel, by decide +kernel⟩ ⟨rfl, rfl⟩ ⟨by decide, by decide⟩) rfl (c_X11_equate l D T A am (outc T ao (vp_updL g 0 r.toInt64) ++ (oc_X10 T (ad 0) (bb ad) (K9 0) ++ (wkL T ad K9 L18 ++ []))) M (xs (x4 + 1).toNatClampNeg) (xs (x4 + 2).toNatClampNeg) (xs (x4 + 3).toNatClampNeg) (xs (x4 + 4).toNatClampNeg) (xs (x4 + 5).toNatClampNeg) r M9 q2) rfl hl.1 rfl (Nat.le_of_ble_eq_true rfl) dL_law_850 (by omega) (by omega) (fun H locs hW => ?_)
    have hW := hW.perm pf3.symm
    refine lv_istore (lv' := [(6, .int r), (5, .int 0), (0, .ref b), (1, .ref (ad 0 0)), (2, .ref (am 0)), (3, .ref ao), (4, .int x4)]) hx hb dL_law_853 hl (by decide) rfl (fun ls hl => ?_)
    refine lv_aload_n hx hb dL_law_855 rfl (lv_at hl 4 rfl) ?_
    have hW := hW.perm pf3
    refine l_mod (As := []) C0 hW (g_cw (n := 0) hts wm11_13 wm11_14 wm11_15 wm1_5 wm11_16 ⟨rfl, by decide +kernel, by decide +kernel, by decide +kernel⟩ ⟨rfl, rfl⟩ ⟨by decide, by decide⟩) rfl (c_X11_thrown l D T A am (outc T ao (vp_updL g 0 r.toInt64) ++ (oc_X10 T (ad 0) (bb ad) (K9 0) ++ (wkL T ad K9 L18 ++ []))) M9 0 q3) rfl hl.1 rfl (Nat.le_of_ble_eq_true rfl) dL_law_856 (by omega) (by omega) (fun H locs hW => ?_)
    have hW := hW.perm pf3.symm
    refine lv_iload hx hb dL_law_859 (lv_at hl 1 rfl) ?_
    refine lv_icmp_eq (tgt := 866) hx hb dL_law_861 (by decide) (fun _ => ?_) (fun c9 => absurd rfl c9)
    refine lv_iload hx hb dL_law_866 (lv_at hl 1 rfl) ?_
    refine lv_if_ne (tgt := 883) hx hb dL_law_868 (by decide) (fun c9 => absurd rfl c9) (fun _ => ?_)
    refine lv_aload_n hx hb dL_law_871 rfl (lv_at hl 5 rfl) ?_
    refine lv_iconst (v := 0) hx hb dL_law_872 (by decide) ?_
    refine va_lald hx hb hK hW.1 0 3 rfl rfl (gd_in (by decide)) dL_law_873 ?_
    rw [show (vp_updL g 0 r.toInt64) (0 : Int32).toNatClampNeg = r.toInt64 from rfl]
    refine lv_iload hx hb dL_law_874 (lv_at hl 0 rfl) ?_
    refine lv_i2l (v := r.toInt64) hx hb dL_law_876 rfl ?_
    refine W.lcmp hx hb dL_law_877 ?_
    rw [lg_cmp_self]
    refine lv_if_eq (tgt := 883) hx hb dL_law_878 (by decide) (fun _ => ?_) (fun c9 => absurd rfl c9)
    refine lv_goto (tgt := 2470) hx hb dL_law_883 (by decide) ?_
    exact kk K9 M9 (vp_updL g 0 r.toInt64) H locs ls hRI hW (lv_sub hl [2, 3, 4, 5, 6] rfl)
  · refine lv_aload_n hx hb dL_law_782 rfl (lv_at hl 1 rfl) ?_
    refine lv_aload_n hx hb dL_law_783 rfl (lv_at hl 0 rfl) ?_
    refine lv_iload hx hb dL_law_784 (lv_at hl 4 rfl) ?_
    refine lv_iconst (v := 1) hx hb dL_law_786 (by decide) ?_
    refine lv_iadd hx hb dL_law_787 ?_
    refine va_sld hx hb hX hbl hbA hW.2.2 hi1 dL_law_788 ?_
    refine lv_aload_n hx hb dL_law_789 rfl (lv_at hl 0 rfl) ?_
    refine lv_iload hx hb dL_law_790 (lv_at hl 4 rfl) ?_
    refine lv_iconst (v := 2) hx hb dL_law_792 (by decide) ?_
    refine lv_iadd hx hb dL_law_793 ?_
    refine va_sld hx hb hX hbl hbA hW.2.2 hi2 dL_law_794 ?_
    refine lv_aload_n hx hb dL_law_795 rfl (lv_at hl 0 rfl) ?_
    refine lv_iload hx hb dL_law_796 (lv_at hl 4 rfl) ?_
    refine lv_iconst (v := 3) hx hb dL_law_798 (by decide) ?_
    refine lv_iadd hx hb dL_law_799 ?_
    refine va_sld hx hb hX hbl hbA hW.2.2 hi3 dL_law_800 ?_
    refine lv_aload_n hx hb dL_law_801 rfl (lv_at hl 0 rfl) ?_
    refine lv_iload hx hb dL_law_802 (lv_at hl 4 rfl) ?_
    refine lv_iconst (v := 4) hx hb dL_law_804 (by decide) ?_
    refine lv_iadd hx hb dL_law_805 ?_
    refine va_sld hx hb hX hbl hbA hW.2.2 hi4 dL_law_806 ?_
    refine lv_aload_n hx hb dL_law_807 rfl (lv_at hl 0 rfl) ?_
    refine lv_iload hx hb dL_law_808 (lv_at hl 4 rfl) ?_
    refine lv_iconst (v := 5) hx hb dL_law_810 (by decide) ?_
    refine lv_iadd hx hb dL_law_811 ?_
    refine va_sld hx hb hX hbl hbA hW.2.2 hi5 dL_law_812 ?_
    refine lv_aload_n hx hb dL_law_813 rfl (lv_at hl 3 rfl) ?_
    refine l_wrap (n := 7) C0 hW (wL_equate_1 l hfl D T A ad hok (oc_X11 T am M ++ []) ao g K (xs (x4 + 1).toNatClampNeg) (xs (x4 + 2).toNatClampNeg) (xs (x4 + 3).toNatClampNeg) (xs (x4 + 4).toNatClampNeg) (xs (x4 + 5).toNatClampNeg) r K9 q1) wm18_22 wm18_23 wm9_22 wm19_0 ⟨by decide +kernel, by decide +kernel, by decide +kernel⟩ ⟨by decide, by decide⟩ hc1 hs1 rfl hl.1 rfl (Nat.le_of_ble_eq_true rfl) dL_law_814 (fun H locs hW => ?_)
    refine lv_istore (lv' := [(5, .int 1), (0, .ref b), (1, .ref (ad 0 0)), (2, .ref (am 0)), (3, .ref ao), (4, .int x4)]) hx hb dL_law_817 hl (by decide) rfl (fun ls hl => ?_)
    refine lv_aload_n hx hb dL_law_819 rfl (lv_at hl 3 rfl) ?_
    refine lv_aload_n hx hb dL_law_820 rfl (lv_at hl 1 rfl) ?_
    refine lv_iload hx hb dL_law_821 (lv_at hl 5 rfl) ?_
    refine lv_iconst (v := 1) hx hb dL_law_823 (by decide) ?_
    refine lv_iadd hx hb dL_law_824 ?_
    refine va_sld hx hb hX hbl hbA hW.2.2 hi1 dL_law_825 ?_
    refine lv_aload_n hx hb dL_law_826 rfl (lv_at hl 1 rfl) ?_
    refine lv_iload hx hb dL_law_827 (lv_at hl 5 rfl) ?_
    refine lv_iconst (v := 2) hx hb dL_law_829 (by decide) ?_
    refine lv_iadd hx hb dL_law_830 ?_
    refine va_sld hx hb hX hbl hbA hW.2.2 hi2 dL_law_831 ?_
    refine lv_aload_n hx hb dL_law_832 rfl (lv_at hl 1 rfl) ?_
    refine lv_iload hx hb dL_law_833 (lv_at hl 5 rfl) ?_
    refine lv_iconst (v := 3) hx hb dL_law_835 (by decide) ?_
    refine lv_iadd hx hb dL_law_836 ?_
    refine va_sld hx hb hX hbl hbA hW.2.2 hi3 dL_law_837 ?_
    refine lv_aload_n hx hb dL_law_838 rfl (lv_at hl 1 rfl) ?_
    refine lv_iload hx hb dL_law_839 (lv_at hl 5 rfl) ?_
    refine lv_iconst (v := 4) hx hb dL_law_841 (by decide) ?_
    refine lv_iadd hx hb dL_law_842 ?_
    refine va_sld hx hb hX hbl hbA hW.2.2 hi4 dL_law_843 ?_
    refine lv_aload_n hx hb dL_law_844 rfl (lv_at hl 1 rfl) ?_
    refine lv_iload hx hb dL_law_845 (lv_at hl 5 rfl) ?_
    refine lv_iconst (v := 5) hx hb dL_law_847 (by decide) ?_
    refine lv_iadd hx hb dL_law_848 ?_
    refine va_sld hx hb hX hbl hbA hW.2.2 hi5 dL_law_849 ?_
    have hW := hW.perm pf3
    refine l_mod (As := [.int (xs (x4 + 1).toNatClampNeg), .int (xs (x4 + 2).toNatClampNeg), .int (xs (x4 + 3).toNatClampNeg), .int (xs (x4 + 4).toNatClampNeg), .int (xs (x4 + 5).toNatClampNeg)]) C0 hW (g_cw (n := 5) hts wm19_23 wm20_0 wm20_1 wm1_5 wm20_2 ⟨rfl, by decide +kernel, by decide +kernel, by decide +kernel⟩ ⟨rfl, rfl⟩ ⟨by decide, by decide⟩) rfl (c_X11_equate l D T A am (outc T ao g ++ (oc_X10 T (ad 0) (bb ad) (K9 0) ++ (wkL T ad K9 L18 ++ []))) M (xs (x4 + 1).toNatClampNeg) (xs (x4 + 2).toNatClampNeg) (xs (x4 + 3).toNatClampNeg) (xs (x4 + 4).toNatClampNeg) (xs (x4 + 5).toNatClampNeg) b9 M9 q2) rfl hl.1 rfl (Nat.le_of_ble_eq_true rfl) dL_law_850 (by omega) (by omega) (fun H locs hW => ?_)
    have hW := hW.perm pf3.symm
    refine lv_istore (lv' := [(6, .int b9), (5, .int 1), (0, .ref b), (1, .ref (ad 0 0)), (2, .ref (am 0)), (3, .ref ao), (4, .int x4)]) hx hb dL_law_853 hl (by decide) rfl (fun ls hl => ?_)
    refine lv_aload_n hx hb dL_law_855 rfl (lv_at hl 4 rfl) ?_
    have hW := hW.perm pf3
    refine l_mod (As := []) C0 hW (g_cw (n := 0) hts wm11_13 wm11_14 wm11_15 wm1_5 wm11_16 ⟨rfl, by decide +kernel, by decide +kernel, by decide +kernel⟩ ⟨rfl, rfl⟩ ⟨by decide, by decide⟩) rfl (c_X11_thrown l D T A am (outc T ao g ++ (oc_X10 T (ad 0) (bb ad) (K9 0) ++ (wkL T ad K9 L18 ++ []))) M9 1 q3) rfl hl.1 rfl (Nat.le_of_ble_eq_true rfl) dL_law_856 (by omega) (by omega) (fun H locs hW => ?_)
    have hW := hW.perm pf3.symm
    refine lv_iload hx hb dL_law_859 (lv_at hl 1 rfl) ?_
    refine lv_icmp_eq (tgt := 866) hx hb dL_law_861 (by decide) (fun _ => ?_) (fun c9 => absurd rfl c9)
    refine lv_iload hx hb dL_law_866 (lv_at hl 1 rfl) ?_
    refine lv_if_ne (tgt := 883) hx hb dL_law_868 (by decide) (fun _ => ?_) (fun c9 => absurd c9 (by decide))
    refine lv_goto (tgt := 2470) hx hb dL_law_883 (by decide) ?_
    exact kk K9 M9 g H locs ls hRI hW (lv_sub hl [2, 3, 4, 5, 6] rfl)
  · refine lv_aload_n hx hb dL_law_782 rfl (lv_at hl 1 rfl) ?_
    refine lv_aload_n hx hb dL_law_783 rfl (lv_at hl 0 rfl) ?_
    refine lv_iload hx hb dL_law_784 (lv_at hl 4 rfl) ?_
    refine lv_iconst (v := 1) hx hb dL_law_786 (by decide) ?_
    refine lv_iadd hx hb dL_law_787 ?_
    refine va_sld hx hb hX hbl hbA hW.2.2 hi1 dL_law_788 ?_
    refine lv_aload_n hx hb dL_law_789 rfl (lv_at hl 0 rfl) ?_
    refine lv_iload hx hb dL_law_790 (lv_at hl 4 rfl) ?_
    refine lv_iconst (v := 2) hx hb dL_law_792 (by decide) ?_
    refine lv_iadd hx hb dL_law_793 ?_
    refine va_sld hx hb hX hbl hbA hW.2.2 hi2 dL_law_794 ?_
    refine lv_aload_n hx hb dL_law_795 rfl (lv_at hl 0 rfl) ?_
    refine lv_iload hx hb dL_law_796 (lv_at hl 4 rfl) ?_
    refine lv_iconst (v := 3) hx hb dL_law_798 (by decide) ?_
    refine lv_iadd hx hb dL_law_799 ?_
    refine va_sld hx hb hX hbl hbA hW.2.2 hi3 dL_law_800 ?_
    refine lv_aload_n hx hb dL_law_801 rfl (lv_at hl 0 rfl) ?_
    refine lv_iload hx hb dL_law_802 (lv_at hl 4 rfl) ?_
    refine lv_iconst (v := 4) hx hb dL_law_804 (by decide) ?_
    refine lv_iadd hx hb dL_law_805 ?_
    refine va_sld hx hb hX hbl hbA hW.2.2 hi4 dL_law_806 ?_
    refine lv_aload_n hx hb dL_law_807 rfl (lv_at hl 0 rfl) ?_
    refine lv_iload hx hb dL_law_808 (lv_at hl 4 rfl) ?_
    refine lv_iconst (v := 5) hx hb dL_law_810 (by decide) ?_
    refine lv_iadd hx hb dL_law_811 ?_
    refine va_sld hx hb hX hbl hbA hW.2.2 hi5 dL_law_812 ?_
    refine lv_aload_n hx hb dL_law_813 rfl (lv_at hl 3 rfl) ?_
    refine l_wrap (n := 7) C0 hW (wL_equate_2 l hfl D T A ad hok (oc_X11 T am M ++ []) ao g K (xs (x4 + 1).toNatClampNeg) (xs (x4 + 2).toNatClampNeg) (xs (x4 + 3).toNatClampNeg) (xs (x4 + 4).toNatClampNeg) (xs (x4 + 5).toNatClampNeg) r K9 q1) wm18_22 wm18_23 wm9_22 wm19_0 ⟨by decide +kernel, by decide +kernel, by decide +kernel⟩ ⟨by decide, by decide⟩ hc1 hs1 rfl hl.1 rfl (Nat.le_of_ble_eq_true rfl) dL_law_814 (fun H locs hW => ?_)
    refine lv_istore (lv' := [(5, .int 2), (0, .ref b), (1, .ref (ad 0 0)), (2, .ref (am 0)), (3, .ref ao), (4, .int x4)]) hx hb dL_law_817 hl (by decide) rfl (fun ls hl => ?_)
    refine lv_aload_n hx hb dL_law_819 rfl (lv_at hl 3 rfl) ?_
    refine lv_aload_n hx hb dL_law_820 rfl (lv_at hl 1 rfl) ?_
    refine lv_iload hx hb dL_law_821 (lv_at hl 5 rfl) ?_
    refine lv_iconst (v := 1) hx hb dL_law_823 (by decide) ?_
    refine lv_iadd hx hb dL_law_824 ?_
    refine va_sld hx hb hX hbl hbA hW.2.2 hi1 dL_law_825 ?_
    refine lv_aload_n hx hb dL_law_826 rfl (lv_at hl 1 rfl) ?_
    refine lv_iload hx hb dL_law_827 (lv_at hl 5 rfl) ?_
    refine lv_iconst (v := 2) hx hb dL_law_829 (by decide) ?_
    refine lv_iadd hx hb dL_law_830 ?_
    refine va_sld hx hb hX hbl hbA hW.2.2 hi2 dL_law_831 ?_
    refine lv_aload_n hx hb dL_law_832 rfl (lv_at hl 1 rfl) ?_
    refine lv_iload hx hb dL_law_833 (lv_at hl 5 rfl) ?_
    refine lv_iconst (v := 3) hx hb dL_law_835 (by decide) ?_
    refine lv_iadd hx hb dL_law_836 ?_
    refine va_sld hx hb hX hbl hbA hW.2.2 hi3 dL_law_837 ?_
    refine lv_aload_n hx hb dL_law_838 rfl (lv_at hl 1 rfl) ?_
    refine lv_iload hx hb dL_law_839 (lv_at hl 5 rfl) ?_
    refine lv_iconst (v := 4) hx hb dL_law_841 (by decide) ?_
    refine lv_iadd hx hb dL_law_842 ?_
    refine va_sld hx hb hX hbl hbA hW.2.2 hi4 dL_law_843 ?_
    refine lv_aload_n hx hb dL_law_844 rfl (lv_at hl 1 rfl) ?_
    refine lv_iload hx hb dL_law_845 (lv_at hl 5 rfl) ?_
    refine lv_iconst (v := 5) hx hb dL_law_847 (by decide) ?_
    refine lv_iadd hx hb dL_law_848 ?_
    refine va_sld hx hb hX hbl hbA hW.2.2 hi5 dL_law_849 ?_
    have hW := hW.perm pf3
    refine l_mod (As := [.int (xs (x4 + 1).toNatClampNeg), .int (xs (x4 + 2).toNatClampNeg), .int (xs (x4 + 3).toNatClampNeg), .int (xs (x4 + 4).toNatClampNeg), .int (xs (x4 + 5).toNatClampNeg)]) C0 hW (g_cw (n := 5) hts wm19_23 wm20_0 wm20_1 wm1_5 wm20_2 ⟨rfl, by decide +kernel, by decide +kernel, by decide +kernel⟩ ⟨rfl, rfl⟩ ⟨by decide, by decide⟩) rfl (c_X11_equate l D T A am (outc T ao g ++ (oc_X10 T (ad 0) (bb ad) (K9 0) ++ (wkL T ad K9 L18 ++ []))) M (xs (x4 + 1).toNatClampNeg) (xs (x4 + 2).toNatClampNeg) (xs (x4 + 3).toNatClampNeg) (xs (x4 + 4).toNatClampNeg) (xs (x4 + 5).toNatClampNeg) b9 M9 q2) rfl hl.1 rfl (Nat.le_of_ble_eq_true rfl) dL_law_850 (by omega) (by omega) (fun H locs hW => ?_)
    have hW := hW.perm pf3.symm
    refine lv_istore (lv' := [(6, .int b9), (5, .int 2), (0, .ref b), (1, .ref (ad 0 0)), (2, .ref (am 0)), (3, .ref ao), (4, .int x4)]) hx hb dL_law_853 hl (by decide) rfl (fun ls hl => ?_)
    refine lv_aload_n hx hb dL_law_855 rfl (lv_at hl 4 rfl) ?_
    have hW := hW.perm pf3
    refine l_mod (As := []) C0 hW (g_cw (n := 0) hts wm11_13 wm11_14 wm11_15 wm1_5 wm11_16 ⟨rfl, by decide +kernel, by decide +kernel, by decide +kernel⟩ ⟨rfl, rfl⟩ ⟨by decide, by decide⟩) rfl (c_X11_thrown l D T A am (outc T ao g ++ (oc_X10 T (ad 0) (bb ad) (K9 0) ++ (wkL T ad K9 L18 ++ []))) M9 2 q3) rfl hl.1 rfl (Nat.le_of_ble_eq_true rfl) dL_law_856 (by omega) (by omega) (fun H locs hW => ?_)
    have hW := hW.perm pf3.symm
    refine lv_iload hx hb dL_law_859 (lv_at hl 1 rfl) ?_
    refine lv_icmp_eq (tgt := 866) hx hb dL_law_861 (by decide) (fun _ => ?_) (fun c9 => absurd rfl c9)
    refine lv_iload hx hb dL_law_866 (lv_at hl 1 rfl) ?_
    refine lv_if_ne (tgt := 883) hx hb dL_law_868 (by decide) (fun _ => ?_) (fun c9 => absurd c9 (by decide))
    refine lv_goto (tgt := 2470) hx hb dL_law_883 (by decide) ?_
    exact kk K9 M9 g H locs ls hRI hW (lv_sub hl [2, 3, 4, 5, 6] rfl)
  · refine lv_aload_n hx hb dL_law_782 rfl (lv_at hl 1 rfl) ?_
    refine lv_aload_n hx hb dL_law_783 rfl (lv_at hl 0 rfl) ?_
    refine lv_iload hx hb dL_law_784 (lv_at hl 4 rfl) ?_
    refine lv_iconst (v := 1) hx hb dL_law_786 (by decide) ?_
    refine lv_iadd hx hb dL_law_787 ?_
    refine va_sld hx hb hX hbl hbA hW.2.2 hi1 dL_law_788 ?_
    refine lv_aload_n hx hb dL_law_789 rfl (lv_at hl 0 rfl) ?_
    refine lv_iload hx hb dL_law_790 (lv_at hl 4 rfl) ?_
    refine lv_iconst (v := 2) hx hb dL_law_792 (by decide) ?_
    refine lv_iadd hx hb dL_law_793 ?_
    refine va_sld hx hb hX hbl hbA hW.2.2 hi2 dL_law_794 ?_
    refine lv_aload_n hx hb dL_law_795 rfl (lv_at hl 0 rfl) ?_
    refine lv_iload hx hb dL_law_796 (lv_at hl 4 rfl) ?_
    refine lv_iconst (v := 3) hx hb dL_law_798 (by decide) ?_
    refine lv_iadd hx hb dL_law_799 ?_
    refine va_sld hx hb hX hbl hbA hW.2.2 hi3 dL_law_800 ?_
    refine lv_aload_n hx hb dL_law_801 rfl (lv_at hl 0 rfl) ?_
    refine lv_iload hx hb dL_law_802 (lv_at hl 4 rfl) ?_
    refine lv_iconst (v := 4) hx hb dL_law_804 (by decide) ?_
    refine lv_iadd hx hb dL_law_805 ?_
    refine va_sld hx hb hX hbl hbA hW.2.2 hi4 dL_law_806 ?_
    refine lv_aload_n hx hb dL_law_807 rfl (lv_at hl 0 rfl) ?_
    refine lv_iload hx hb dL_law_808 (lv_at hl 4 rfl) ?_
    refine lv_iconst (v := 5) hx hb dL_law_810 (by decide) ?_
    refine lv_iadd hx hb dL_law_811 ?_
    refine va_sld hx hb hX hbl hbA hW.2.2 hi5 dL_law_812 ?_
    refine lv_aload_n hx hb dL_law_813 rfl (lv_at hl 3 rfl) ?_
    refine l_wrap (n := 7) C0 hW (wL_equate_3 l hfl D T A ad hok (oc_X11 T am M ++ []) ao g K (xs (x4 + 1).toNatClampNeg) (xs (x4 + 2).toNatClampNeg) (xs (x4 + 3).toNatClampNeg) (xs (x4 + 4).toNatClampNeg) (xs (x4 + 5).toNatClampNeg) r K9 q1) wm18_22 wm18_23 wm9_22 wm19_0 ⟨by decide +kernel, by decide +kernel, by decide +kernel⟩ ⟨by decide, by decide⟩ hc1 hs1 rfl hl.1 rfl (Nat.le_of_ble_eq_true rfl) dL_law_814 (fun H locs hW => ?_)
    refine lv_istore (lv' := [(5, .int 3), (0, .ref b), (1, .ref (ad 0 0)), (2, .ref (am 0)), (3, .ref ao), (4, .int x4)]) hx hb dL_law_817 hl (by decide) rfl (fun ls hl => ?_)
    refine lv_aload_n hx hb dL_law_819 rfl (lv_at hl 3 rfl) ?_
    refine lv_aload_n hx hb dL_law_820 rfl (lv_at hl 1 rfl) ?_
    refine lv_iload hx hb dL_law_821 (lv_at hl 5 rfl) ?_
    refine lv_iconst (v := 1) hx hb dL_law_823 (by decide) ?_
    refine lv_iadd hx hb dL_law_824 ?_
    refine va_sld hx hb hX hbl hbA hW.2.2 hi1 dL_law_825 ?_
    refine lv_aload_n hx hb dL_law_826 rfl (lv_at hl 1 rfl) ?_
    refine lv_iload hx hb dL_law_827 (lv_at hl 5 rfl) ?_
    refine lv_iconst (v := 2) hx hb dL_law_829 (by decide) ?_
    refine lv_iadd hx hb dL_law_830 ?_
    refine va_sld hx hb hX hbl hbA hW.2.2 hi2 dL_law_831 ?_
    refine lv_aload_n hx hb dL_law_832 rfl (lv_at hl 1 rfl) ?_
    refine lv_iload hx hb dL_law_833 (lv_at hl 5 rfl) ?_
    refine lv_iconst (v := 3) hx hb dL_law_835 (by decide) ?_
    refine lv_iadd hx hb dL_law_836 ?_
    refine va_sld hx hb hX hbl hbA hW.2.2 hi3 dL_law_837 ?_
    refine lv_aload_n hx hb dL_law_838 rfl (lv_at hl 1 rfl) ?_
    refine lv_iload hx hb dL_law_839 (lv_at hl 5 rfl) ?_
    refine lv_iconst (v := 4) hx hb dL_law_841 (by decide) ?_
    refine lv_iadd hx hb dL_law_842 ?_
    refine va_sld hx hb hX hbl hbA hW.2.2 hi4 dL_law_843 ?_
    refine lv_aload_n hx hb dL_law_844 rfl (lv_at hl 1 rfl) ?_
    refine lv_iload hx hb dL_law_845 (lv_at hl 5 rfl) ?_
    refine lv_iconst (v := 5) hx hb dL_law_847 (by decide) ?_
    refine lv_iadd hx hb dL_law_848 ?_
    refine va_sld hx hb hX hbl hbA hW.2.2 hi5 dL_law_849 ?_
    have hW := hW.perm pf3
    refine l_mod (As := [.int (xs (x4 + 1).toNatClampNeg), .int (xs (x4 + 2).toNatClampNeg), .int (xs (x4 + 3).toNatClampNeg), .int (xs (x4 + 4).toNatClampNeg), .int (xs (x4 + 5).toNatClampNeg)]) C0 hW (g_cw (n := 5) hts wm19_23 wm20_0 wm20_1 wm1_5 wm20_2 ⟨rfl, by decide +kernel, by decide +kernel, by decide +kernel⟩ ⟨rfl, rfl⟩ ⟨by decide, by decide⟩) rfl (c_X11_equate l D T A am (outc T ao g ++ (oc_X10 T (ad 0) (bb ad) (K9 0) ++ (wkL T ad K9 L18 ++ []))) M (xs (x4 + 1).toNatClampNeg) (xs (x4 + 2).toNatClampNeg) (xs (x4 + 3).toNatClampNeg) (xs (x4 + 4).toNatClampNeg) (xs (x4 + 5).toNatClampNeg) b9 M9 q2) rfl hl.1 rfl (Nat.le_of_ble_eq_true rfl) dL_law_850 (by omega) (by omega) (fun H locs hW => ?_)
    have hW := hW.perm pf3.symm
    refine lv_istore (lv' := [(6, .int b9), (5, .int 3), (0, .ref b), (1, .ref (ad 0 0)), (2, .ref (am 0)), (3, .ref ao), (4, .int x4)]) hx hb dL_law_853 hl (by decide) rfl (fun ls hl => ?_)
    refine lv_aload_n hx hb dL_law_855 rfl (lv_at hl 4 rfl) ?_
    have hW := hW.perm pf3
    refine l_mod (As := []) C0 hW (g_cw (n := 0) hts wm11_13 wm11_14 wm11_15 wm1_5 wm11_16 ⟨rfl, by decide +kernel, by decide +kernel, by decide +kernel⟩ ⟨rfl, rfl⟩ ⟨by decide, by decide⟩) rfl (c_X11_thrown l D T A am (outc T ao g ++ (oc_X10 T (ad 0) (bb ad) (K9 0) ++ (wkL T ad K9 L18 ++ []))) M9 3 q3) rfl hl.1 rfl (Nat.le_of_ble_eq_true rfl) dL_law_856 (by omega) (by omega) (fun H locs hW => ?_)
    have hW := hW.perm pf3.symm
    refine lv_iload hx hb dL_law_859 (lv_at hl 1 rfl) ?_
    refine lv_icmp_eq (tgt := 866) hx hb dL_law_861 (by decide) (fun _ => ?_) (fun c9 => absurd rfl c9)
    refine lv_iload hx hb dL_law_866 (lv_at hl 1 rfl) ?_
    refine lv_if_ne (tgt := 883) hx hb dL_law_868 (by decide) (fun _ => ?_) (fun c9 => absurd c9 (by decide))
    refine lv_goto (tgt := 2470) hx hb dL_law_883 (by decide) ?_
    exact kk K9 M9 g H locs ls hRI hW (lv_sub hl [2, 3, 4, 5, 6] rfl)
set_option maxHeartbeats 4000000 in
set_option maxRecDepth 100000 in
theorem law_append {RI : Nat → (Nat → Ob) → Ob → Prop} {j i : Nat} {x4 : Int32} {K : Nat → Ob} {M : Ob} {g : Nat → Int64} {H : Heap} {locs : List Loc} {cells slots : Nat} {ls : Array Slot} (C0 : LC p l s m c D T A b L xs ad) (hop : Op_append RI j K M (xs (x4 + 1).toNatClampNeg) (xs (x4 + 2).toNatClampNeg)) (hi : i + 6 < L) (ex4 : x4 = nI i) (hc1 : cells ≤ 2000) (hs1 : slots ≤ 400000) (hW : Wd D A s.heap (lw T ad am ao K M g) H locs) (hl : lv_has ls 7 [(0, .ref b), (1, .ref (ad 0 0)), (2, .ref (am 0)), (3, .ref ao), (4, .int x4)])
    (kk : ∀ (K9 : Nat → Ob) (M9 : Ob) (g9 : Nat → Int64) (H : Heap) (locs : List Loc) (ls : Array Slot), RI (j + 1) K9 M9 → Wd D A s.heap (lw T ad am ao K9 M9 g9) H locs → lv_has ls 7 [(0, .ref b), (1, .ref (ad 0 0)), (2, .ref (am 0)), (3, .ref ao), (4, .int x4)] → LW p l e s m b below meth c H locs (cells + 1) (slots + 6) Q (F0 m 2470 ls [])) : LW p l e s m b below meth c H locs cells slots Q (F0 m 886 ls []) := by
  obtain ⟨hx, hb, hml, hown, hts, hX, hbl, hbA, hL, hK, hN, hE, hC, hok, hfl⟩ := id C0
  have hi1 : vp_in (x4 + 1) L := by rw [ex4, show (1 : Int32) = nI 1 from rfl, nI_add]; exact vp_in_nI (by omega) (by omega)
  have hi2 : vp_in (x4 + 2) L := by rw [ex4, show (2 : Int32) = nI 2 from rfl, nI_add]; exact vp_in_nI (by omega) (by omega)
  unfold lw at hW
  obtain ⟨k, r, K9, b9, M9, t, q1, q2, q3, hd, hRI⟩ := hop
  rcases hd with ⟨rfl, rfl, rfl⟩ | ⟨rfl, rfl⟩ | ⟨rfl, rfl⟩
  · refine lv_aload_n hx hb dL_law_886 rfl (lv_at hl 1 rfl) ?_
    refine lv_aload_n hx hb dL_law_887 rfl (lv_at hl 0 rfl) ?_
    refine lv_iload hx hb dL_law_888 (lv_at hl 4 rfl) ?_
    refine lv_iconst (v := 1) hx hb dL_law_890 (by decide) ?_
    refine lv_iadd hx hb dL_law_891 ?_
    refine va_sld hx hb hX hbl hbA hW.2.2 hi1 dL_law_892 ?_
    refine lv_aload_n hx hb dL_law_893 rfl (lv_at hl 0 rfl) ?_
    refine lv_iload hx hb dL_law_894 (lv_at hl 4 rfl) ?_
    refine lv_iconst (v := 2) hx hb dL_law_896 (by decide) ?_
    refine lv_iadd hx hb dL_law_897 ?_
    refine va_sld hx hb hX hbl hbA hW.2.2 hi2 dL_law_898 ?_
    refine lv_aload_n hx hb dL_law_899 rfl (lv_at hl 3 rfl) ?_
    refine l_wrap (n := 4) C0 hW (wL_append_0 l hfl D T A ad hok (oc_X11 T am M ++ []) ao g K (xs (x4 + 1).toNatClampNeg) (xs (x4 + 2).toNatClampNeg) r K9 q1) wm20_3 wm20_4 wm9_22 wm20_5 ⟨by decide +kernel, by decide +kernel, by decide +kernel⟩ ⟨by decide, by decide⟩ hc1 hs1 rfl hl.1 rfl (Nat.le_of_ble_eq_true rfl) dL_law_900 (fun H locs hW => ?_)
    refine lv_istore (lv' := [(5, .int 0), (0, .ref b), (1, .ref (ad 0 0)), (2, .ref (am 0)), (3, .ref ao), (4, .int x4)]) hx hb dL_law_903 hl (by decide) rfl (fun ls hl => ?_)
    refine lv_aload_n hx hb dL_law_905 rfl (lv_at hl 3 rfl) ?_
    refine lv_aload_n hx hb dL_law_906 rfl (lv_at hl 1 rfl) ?_
    refine lv_iload hx hb dL_law_907 (lv_at hl 5 rfl) ?_
    refine lv_iconst (v := 1) hx hb dL_law_909 (by decide) ?_
    refine lv_iadd hx hb dL_law_910 ?_
    refine va_sld hx hb hX hbl hbA hW.2.2 hi1 dL_law_911 ?_
    refine lv_aload_n hx hb dL_law_912 rfl (lv_at hl 1 rfl) ?_
    refine lv_iload hx hb dL_law_913 (lv_at hl 5 rfl) ?_
    refine lv_iconst (v := 2) hx hb dL_law_915 (by decide) ?_
    refine lv_iadd hx hb dL_law_916 ?_
    refine va_sld hx hb hX hbl hbA hW.2.2 hi2 dL_law_917 ?_
    have hW := hW.perm pf3
    refine l_mod (As := [.int (xs (x4 + 1).toNatClampNeg), .int (xs (x4 + 2).toNatClampNeg)]) C0 hW (g_cw (n := 2) hts wm20_22 wm20_23 wm21_0 wm1_5 wm21_1 ⟨rfl, by decide +kernel, by decide +kernel, by decide +kernel⟩ ⟨rfl, rfl⟩ ⟨by decide, by decide⟩) rfl (c_X11_append l D T A am (outc T ao (vp_updL g 0 r.toInt64) ++ (oc_X10 T (ad 0) (bb ad) (K9 0) ++ (wkL T ad K9 L18 ++ []))) M (xs (x4 + 1).toNatClampNeg) (xs (x4 + 2).toNatClampNeg) r M9 q2) rfl hl.1 rfl (Nat.le_of_ble_eq_true rfl) dL_law_918 (by omega) (by omega) (fun H locs hW => ?_)
    have hW := hW.perm pf3.symm
    refine lv_istore (lv' := [(6, .int r), (5, .int 0), (0, .ref b), (1, .ref (ad 0 0)), (2, .ref (am 0)), (3, .ref ao), (4, .int x4)]) hx hb dL_law_921 hl (by decide) rfl (fun ls hl => ?_)
    refine lv_aload_n hx hb dL_law_923 rfl (lv_at hl 4 rfl) ?_
    have hW := hW.perm pf3
    refine l_mod (As := []) C0 hW (g_cw (n := 0) hts wm11_13 wm11_14 wm11_15 wm1_5 wm11_16 ⟨rfl, by decide +kernel, by decide +kernel, by decide +kernel⟩ ⟨rfl, rfl⟩ ⟨by decide, by decide⟩) rfl (c_X11_thrown l D T A am (outc T ao (vp_updL g 0 r.toInt64) ++ (oc_X10 T (ad 0) (bb ad) (K9 0) ++ (wkL T ad K9 L18 ++ []))) M9 0 q3) rfl hl.1 rfl (Nat.le_of_ble_eq_true rfl) dL_law_924 (by omega) (by omega) (fun H locs hW => ?_)
    have hW := hW.perm pf3.symm
    refine lv_iload hx hb dL_law_927 (lv_at hl 1 rfl) ?_
    refine lv_icmp_eq (tgt := 934) hx hb dL_law_929 (by decide) (fun _ => ?_) (fun c9 => absurd rfl c9)
    refine lv_iload hx hb dL_law_934 (lv_at hl 1 rfl) ?_
    refine lv_if_ne (tgt := 951) hx hb dL_law_936 (by decide) (fun c9 => absurd rfl c9) (fun _ => ?_)
    refine lv_aload_n hx hb dL_law_939 rfl (lv_at hl 5 rfl) ?_
    refine lv_iconst (v := 0) hx hb dL_law_940 (by decide) ?_
    refine va_lald hx hb hK hW.1 0 3 rfl rfl (gd_in (by decide)) dL_law_941 ?_
    rw [show (vp_updL g 0 r.toInt64) (0 : Int32).toNatClampNeg = r.toInt64 from rfl]
    refine lv_iload hx hb dL_law_942 (lv_at hl 0 rfl) ?_
    refine lv_i2l (v := r.toInt64) hx hb dL_law_944 rfl ?_
    refine W.lcmp hx hb dL_law_945 ?_
    rw [lg_cmp_self]
    refine lv_if_eq (tgt := 951) hx hb dL_law_946 (by decide) (fun _ => ?_) (fun c9 => absurd rfl c9)
    refine lv_goto (tgt := 2470) hx hb dL_law_951 (by decide) ?_
    exact kk K9 M9 (vp_updL g 0 r.toInt64) H locs ls hRI hW (lv_sub hl [2, 3, 4, 5, 6] rfl)
  · refine lv_aload_n hx hb dL_law_886 rfl (lv_at hl 1 rfl) ?_
    refine lv_aload_n hx hb dL_law_887 rfl (lv_at hl 0 rfl) ?_
    refine lv_iload hx hb dL_law_888 (lv_at hl 4 rfl) ?_
    refine lv_iconst (v := 1) hx hb dL_law_890 (by decide) ?_
    refine lv_iadd hx hb dL_law_891 ?_
    refine va_sld hx hb hX hbl hbA hW.2.2 hi1 dL_law_892 ?_
    refine lv_aload_n hx hb dL_law_893 rfl (lv_at hl 0 rfl) ?_
    refine lv_iload hx hb dL_law_894 (lv_at hl 4 rfl) ?_
    refine lv_iconst (v := 2) hx hb dL_law_896 (by decide) ?_
    refine lv_iadd hx hb dL_law_897 ?_
    refine va_sld hx hb hX hbl hbA hW.2.2 hi2 dL_law_898 ?_
    refine lv_aload_n hx hb dL_law_899 rfl (lv_at hl 3 rfl) ?_
    refine l_wrap (n := 4) C0 hW (wL_append_1 l hfl D T A ad hok (oc_X11 T am M ++ []) ao g K (xs (x4 + 1).toNatClampNeg) (xs (x4 + 2).toNatClampNeg) r K9 q1) wm20_3 wm20_4 wm9_22 wm20_5 ⟨by decide +kernel, by decide +kernel, by decide +kernel⟩ ⟨by decide, by decide⟩ hc1 hs1 rfl hl.1 rfl (Nat.le_of_ble_eq_true rfl) dL_law_900 (fun H locs hW => ?_)
    refine lv_istore (lv' := [(5, .int 1), (0, .ref b), (1, .ref (ad 0 0)), (2, .ref (am 0)), (3, .ref ao), (4, .int x4)]) hx hb dL_law_903 hl (by decide) rfl (fun ls hl => ?_)
    refine lv_aload_n hx hb dL_law_905 rfl (lv_at hl 3 rfl) ?_
    refine lv_aload_n hx hb dL_law_906 rfl (lv_at hl 1 rfl) ?_
    refine lv_iload hx hb dL_law_907 (lv_at hl 5 rfl) ?_
    refine lv_iconst (v := 1) hx hb dL_law_909 (by decide) ?_
    refine lv_iadd hx hb dL_law_910 ?_
    refine va_sld hx hb hX hbl hbA hW.2.2 hi1 dL_law_911 ?_
    refine lv_aload_n hx hb dL_law_912 rfl (lv_at hl 1 rfl) ?_
    refine lv_iload hx hb dL_law_913 (lv_at hl 5 rfl) ?_
    refine lv_iconst (v := 2) hx hb dL_law_915 (by decide) ?_
    refine lv_iadd hx hb dL_law_916 ?_
    refine va_sld hx hb hX hbl hbA hW.2.2 hi2 dL_law_917 ?_
    have hW := hW.perm pf3
    refine l_mod (As := [.int (xs (x4 + 1).toNatClampNeg), .int (xs (x4 + 2).toNatClampNeg)]) C0 hW (g_cw (n := 2) hts wm20_22 wm20_23 wm21_0 wm1_5 wm21_1 ⟨rfl, by decide +kernel, by decide +kernel, by decide +kernel⟩ ⟨rfl, rfl⟩ ⟨by decide, by decide⟩) rfl (c_X11_append l D T A am (outc T ao g ++ (oc_X10 T (ad 0) (bb ad) (K9 0) ++ (wkL T ad K9 L18 ++ []))) M (xs (x4 + 1).toNatClampNeg) (xs (x4 + 2).toNatClampNeg) b9 M9 q2) rfl hl.1 rfl (Nat.le_of_ble_eq_true rfl) dL_law_918 (by omega) (by omega) (fun H locs hW => ?_)
    have hW := hW.perm pf3.symm
    refine lv_istore (lv' := [(6, .int b9), (5, .int 1), (0, .ref b), (1, .ref (ad 0 0)), (2, .ref (am 0)), (3, .ref ao), (4, .int x4)]) hx hb dL_law_921 hl (by decide) rfl (fun ls hl => ?_)
    refine lv_aload_n hx hb dL_law_923 rfl (lv_at hl 4 rfl) ?_
    have hW := hW.perm pf3
    refine l_mod (As := []) C0 hW (g_cw (n := 0) hts wm11_13 wm11_14 wm11_15 wm1_5 wm11_16 ⟨rfl, by decide +kernel, by decide +kernel, by decide +kernel⟩ ⟨rfl, rfl⟩ ⟨by decide, by decide⟩) rfl (c_X11_thrown l D T A am (outc T ao g ++ (oc_X10 T (ad 0) (bb ad) (K9 0) ++ (wkL T ad K9 L18 ++ []))) M9 1 q3) rfl hl.1 rfl (Nat.le_of_ble_eq_true rfl) dL_law_924 (by omega) (by omega) (fun H locs hW => ?_)
    have hW := hW.perm pf3.symm
    refine lv_iload hx hb dL_law_927 (lv_at hl 1 rfl) ?_
    refine lv_icmp_eq (tgt := 934) hx hb dL_law_929 (by decide) (fun _ => ?_) (fun c9 => absurd rfl c9)
    refine lv_iload hx hb dL_law_934 (lv_at hl 1 rfl) ?_
    refine lv_if_ne (tgt := 951) hx hb dL_law_936 (by decide) (fun _ => ?_) (fun c9 => absurd c9 (by decide))
    refine lv_goto (tgt := 2470) hx hb dL_law_951 (by decide) ?_
    exact kk K9 M9 g H locs ls hRI hW (lv_sub hl [2, 3, 4, 5, 6] rfl)
  · refine lv_aload_n hx hb dL_law_886 rfl (lv_at hl 1 rfl) ?_
    refine lv_aload_n hx hb dL_law_887 rfl (lv_at hl 0 rfl) ?_
    refine lv_iload hx hb dL_law_888 (lv_at hl 4 rfl) ?_
    refine lv_iconst (v := 1) hx hb dL_law_890 (by decide) ?_
    refine lv_iadd hx hb dL_law_891 ?_
    refine va_sld hx hb hX hbl hbA hW.2.2 hi1 dL_law_892 ?_
    refine lv_aload_n hx hb dL_law_893 rfl (lv_at hl 0 rfl) ?_
    refine lv_iload hx hb dL_law_894 (lv_at hl 4 rfl) ?_
    refine lv_iconst (v := 2) hx hb dL_law_896 (by decide) ?_
    refine lv_iadd hx hb dL_law_897 ?_
    refine va_sld hx hb hX hbl hbA hW.2.2 hi2 dL_law_898 ?_
    refine lv_aload_n hx hb dL_law_899 rfl (lv_at hl 3 rfl) ?_
    refine l_wrap (n := 4) C0 hW (wL_append_3 l hfl D T A ad hok (oc_X11 T am M ++ []) ao g K (xs (x4 + 1).toNatClampNeg) (xs (x4 + 2).toNatClampNeg) r K9 q1) wm20_3 wm20_4 wm9_22 wm20_5 ⟨by decide +kernel, by decide +kernel, by decide +kernel⟩ ⟨by decide, by decide⟩ hc1 hs1 rfl hl.1 rfl (Nat.le_of_ble_eq_true rfl) dL_law_900 (fun H locs hW => ?_)
    refine lv_istore (lv' := [(5, .int 2), (0, .ref b), (1, .ref (ad 0 0)), (2, .ref (am 0)), (3, .ref ao), (4, .int x4)]) hx hb dL_law_903 hl (by decide) rfl (fun ls hl => ?_)
    refine lv_aload_n hx hb dL_law_905 rfl (lv_at hl 3 rfl) ?_
    refine lv_aload_n hx hb dL_law_906 rfl (lv_at hl 1 rfl) ?_
    refine lv_iload hx hb dL_law_907 (lv_at hl 5 rfl) ?_
    refine lv_iconst (v := 1) hx hb dL_law_909 (by decide) ?_
    refine lv_iadd hx hb dL_law_910 ?_
    refine va_sld hx hb hX hbl hbA hW.2.2 hi1 dL_law_911 ?_
    refine lv_aload_n hx hb dL_law_912 rfl (lv_at hl 1 rfl) ?_
    refine lv_iload hx hb dL_law_913 (lv_at hl 5 rfl) ?_
    refine lv_iconst (v := 2) hx hb dL_law_915 (by decide) ?_
    refine lv_iadd hx hb dL_law_916 ?_
    refine va_sld hx hb hX hbl hbA hW.2.2 hi2 dL_law_917 ?_
    have hW := hW.perm pf3
    refine l_mod (As := [.int (xs (x4 + 1).toNatClampNeg), .int (xs (x4 + 2).toNatClampNeg)]) C0 hW (g_cw (n := 2) hts wm20_22 wm20_23 wm21_0 wm1_5 wm21_1 ⟨rfl, by decide +kernel, by decide +kernel, by decide +kernel⟩ ⟨rfl, rfl⟩ ⟨by decide, by decide⟩) rfl (c_X11_append l D T A am (outc T ao g ++ (oc_X10 T (ad 0) (bb ad) (K9 0) ++ (wkL T ad K9 L18 ++ []))) M (xs (x4 + 1).toNatClampNeg) (xs (x4 + 2).toNatClampNeg) b9 M9 q2) rfl hl.1 rfl (Nat.le_of_ble_eq_true rfl) dL_law_918 (by omega) (by omega) (fun H locs hW => ?_)
    have hW := hW.perm pf3.symm
    refine lv_istore (lv' := [(6, .int b9), (5, .int 2), (0, .ref b), (1, .ref (ad 0 0)), (2, .ref (am 0)), (3, .ref ao), (4, .int x4)]) hx hb dL_law_921 hl (by decide) rfl (fun ls hl => ?_)
    refine lv_aload_n hx hb dL_law_923 rfl (lv_at hl 4 rfl) ?_
    have hW := hW.perm pf3
    refine l_mod (As := []) C0 hW (g_cw (n := 0) hts wm11_13 wm11_14 wm11_15 wm1_5 wm11_16 ⟨rfl, by decide +kernel, by decide +kernel, by decide +kernel⟩ ⟨rfl, rfl⟩ ⟨by decide, by decide⟩) rfl (c_X11_thrown l D T A am (outc T ao g ++ (oc_X10 T (ad 0) (bb ad) (K9 0) ++ (wkL T ad K9 L18 ++ []))) M9 2 q3) rfl hl.1 rfl (Nat.le_of_ble_eq_true rfl) dL_law_924 (by omega) (by omega) (fun H locs hW => ?_)
    have hW := hW.perm pf3.symm
    refine lv_iload hx hb dL_law_927 (lv_at hl 1 rfl) ?_
    refine lv_icmp_eq (tgt := 934) hx hb dL_law_929 (by decide) (fun _ => ?_) (fun c9 => absurd rfl c9)
    refine lv_iload hx hb dL_law_934 (lv_at hl 1 rfl) ?_
    refine lv_if_ne (tgt := 951) hx hb dL_law_936 (by decide) (fun _ => ?_) (fun c9 => absurd c9 (by decide))
    refine lv_goto (tgt := 2470) hx hb dL_law_951 (by decide) ?_
    exact kk K9 M9 g H locs ls hRI hW (lv_sub hl [2, 3, 4, 5, 6] rfl)
set_option maxHeartbeats 4000000 in
set_option maxRecDepth 100000 in
theorem law_change {RI : Nat → (Nat → Ob) → Ob → Prop} {j i : Nat} {x4 : Int32} {K : Nat → Ob} {M : Ob} {g : Nat → Int64} {H : Heap} {locs : List Loc} {cells slots : Nat} {ls : Array Slot} (C0 : LC p l s m c D T A b L xs ad) (hop : Op_change RI j K M (xs (x4 + 1).toNatClampNeg) (xs (x4 + 2).toNatClampNeg) (xs (x4 + 3).toNatClampNeg)) (hi : i + 6 < L) (ex4 : x4 = nI i) (hc1 : cells ≤ 2000) (hs1 : slots ≤ 400000) (hW : Wd D A s.heap (lw T ad am ao K M g) H locs) (hl : lv_has ls 7 [(0, .ref b), (1, .ref (ad 0 0)), (2, .ref (am 0)), (3, .ref ao), (4, .int x4)])
    (kk : ∀ (K9 : Nat → Ob) (M9 : Ob) (g9 : Nat → Int64) (H : Heap) (locs : List Loc) (ls : Array Slot), RI (j + 1) K9 M9 → Wd D A s.heap (lw T ad am ao K9 M9 g9) H locs → lv_has ls 7 [(0, .ref b), (1, .ref (ad 0 0)), (2, .ref (am 0)), (3, .ref ao), (4, .int x4)] → LW p l e s m b below meth c H locs (cells + 1) (slots + 6) Q (F0 m 2470 ls [])) : LW p l e s m b below meth c H locs cells slots Q (F0 m 954 ls []) := by
  obtain ⟨hx, hb, hml, hown, hts, hX, hbl, hbA, hL, hK, hN, hE, hC, hok, hfl⟩ := id C0
  have hi1 : vp_in (x4 + 1) L := by rw [ex4, show (1 : Int32) = nI 1 from rfl, nI_add]; exact vp_in_nI (by omega) (by omega)
  have hi2 : vp_in (x4 + 2) L := by rw [ex4, show (2 : Int32) = nI 2 from rfl, nI_add]; exact vp_in_nI (by omega) (by omega)
  have hi3 : vp_in (x4 + 3) L := by rw [ex4, show (3 : Int32) = nI 3 from rfl, nI_add]; exact vp_in_nI (by omega) (by omega)
  unfold lw at hW
  obtain ⟨k, r, K9, b9, M9, t, q1, q2, q3, hd, hRI⟩ := hop
  rcases hd with ⟨rfl, rfl, rfl⟩ | ⟨rfl, rfl⟩
  · refine lv_aload_n hx hb dL_law_954 rfl (lv_at hl 1 rfl) ?_
    refine lv_aload_n hx hb dL_law_955 rfl (lv_at hl 0 rfl) ?_
    refine lv_iload hx hb dL_law_956 (lv_at hl 4 rfl) ?_
    refine lv_iconst (v := 1) hx hb dL_law_958 (by decide) ?_
    refine lv_iadd hx hb dL_law_959 ?_
    refine va_sld hx hb hX hbl hbA hW.2.2 hi1 dL_law_960 ?_
    refine lv_aload_n hx hb dL_law_961 rfl (lv_at hl 0 rfl) ?_
    refine lv_iload hx hb dL_law_962 (lv_at hl 4 rfl) ?_
    refine lv_iconst (v := 2) hx hb dL_law_964 (by decide) ?_
    refine lv_iadd hx hb dL_law_965 ?_
    refine va_sld hx hb hX hbl hbA hW.2.2 hi2 dL_law_966 ?_
    refine lv_aload_n hx hb dL_law_967 rfl (lv_at hl 0 rfl) ?_
    refine lv_iload hx hb dL_law_968 (lv_at hl 4 rfl) ?_
    refine lv_iconst (v := 3) hx hb dL_law_970 (by decide) ?_
    refine lv_iadd hx hb dL_law_971 ?_
    refine va_sld hx hb hX hbl hbA hW.2.2 hi3 dL_law_972 ?_
    refine lv_aload_n hx hb dL_law_973 rfl (lv_at hl 3 rfl) ?_
    refine l_wrap (n := 5) C0 hW (wL_change_0 l hfl D T A ad hok (oc_X11 T am M ++ []) ao g K (xs (x4 + 1).toNatClampNeg) (xs (x4 + 2).toNatClampNeg) (xs (x4 + 3).toNatClampNeg) r K9 q1) wm21_5 wm21_6 wm9_22 wm21_7 ⟨by decide +kernel, by decide +kernel, by decide +kernel⟩ ⟨by decide, by decide⟩ hc1 hs1 rfl hl.1 rfl (Nat.le_of_ble_eq_true rfl) dL_law_974 (fun H locs hW => ?_)
    refine lv_istore (lv' := [(5, .int 0), (0, .ref b), (1, .ref (ad 0 0)), (2, .ref (am 0)), (3, .ref ao), (4, .int x4)]) hx hb dL_law_977 hl (by decide) rfl (fun ls hl => ?_)
    refine lv_aload_n hx hb dL_law_979 rfl (lv_at hl 3 rfl) ?_
    refine lv_aload_n hx hb dL_law_980 rfl (lv_at hl 1 rfl) ?_
    refine lv_iload hx hb dL_law_981 (lv_at hl 5 rfl) ?_
    refine lv_iconst (v := 1) hx hb dL_law_983 (by decide) ?_
    refine lv_iadd hx hb dL_law_984 ?_
    refine va_sld hx hb hX hbl hbA hW.2.2 hi1 dL_law_985 ?_
    refine lv_aload_n hx hb dL_law_986 rfl (lv_at hl 1 rfl) ?_
    refine lv_iload hx hb dL_law_987 (lv_at hl 5 rfl) ?_
    refine lv_iconst (v := 2) hx hb dL_law_989 (by decide) ?_
    refine lv_iadd hx hb dL_law_990 ?_
    refine va_sld hx hb hX hbl hbA hW.2.2 hi2 dL_law_991 ?_
    refine lv_aload_n hx hb dL_law_992 rfl (lv_at hl 1 rfl) ?_
    refine lv_iload hx hb dL_law_993 (lv_at hl 5 rfl) ?_
    refine lv_iconst (v := 3) hx hb dL_law_995 (by decide) ?_
    refine lv_iadd hx hb dL_law_996 ?_
    refine va_sld hx hb hX hbl hbA hW.2.2 hi3 dL_law_997 ?_
    have hW := hW.perm pf3
    refine l_mod (As := [.int (xs (x4 + 1).toNatClampNeg), .int (xs (x4 + 2).toNatClampNeg), .int (xs (x4 + 3).toNatClampNeg)]) C0 hW (g_cw (n := 3) hts wm21_23 wm22_0 wm22_1 wm1_5 wm22_2 ⟨rfl, by decide +kernel, by decide +kernel, by decide +kernel⟩ ⟨rfl, rfl⟩ ⟨by decide, by decide⟩) rfl (c_X11_change l D T A am (outc T ao (vp_updL g 0 r.toInt64) ++ (oc_X10 T (ad 0) (bb ad) (K9 0) ++ (wkL T ad K9 L18 ++ []))) M (xs (x4 + 1).toNatClampNeg) (xs (x4 + 2).toNatClampNeg) (xs (x4 + 3).toNatClampNeg) r M9 q2) rfl hl.1 rfl (Nat.le_of_ble_eq_true rfl) dL_law_998 (by omega) (by omega) (fun H locs hW => ?_)
    have hW := hW.perm pf3.symm
    refine lv_istore (lv' := [(6, .int r), (5, .int 0), (0, .ref b), (1, .ref (ad 0 0)), (2, .ref (am 0)), (3, .ref ao), (4, .int x4)]) hx hb dL_law_1001 hl (by decide) rfl (fun ls hl => ?_)
    refine lv_aload_n hx hb dL_law_1003 rfl (lv_at hl 4 rfl) ?_
    have hW := hW.perm pf3
    refine l_mod (As := []) C0 hW (g_cw (n := 0) hts wm11_13 wm11_14 wm11_15 wm1_5 wm11_16 ⟨rfl, by decide +kernel, by decide +kernel, by decide +kernel⟩ ⟨rfl, rfl⟩ ⟨by decide, by decide⟩) rfl (c_X11_thrown l D T A am (outc T ao (vp_updL g 0 r.toInt64) ++ (oc_X10 T (ad 0) (bb ad) (K9 0) ++ (wkL T ad K9 L18 ++ []))) M9 0 q3) rfl hl.1 rfl (Nat.le_of_ble_eq_true rfl) dL_law_1004 (by omega) (by omega) (fun H locs hW => ?_)
    have hW := hW.perm pf3.symm
    refine lv_iload hx hb dL_law_1007 (lv_at hl 1 rfl) ?_
    refine lv_icmp_eq (tgt := 1014) hx hb dL_law_1009 (by decide) (fun _ => ?_) (fun c9 => absurd rfl c9)
    refine lv_iload hx hb dL_law_1014 (lv_at hl 1 rfl) ?_
    refine lv_if_ne (tgt := 1031) hx hb dL_law_1016 (by decide) (fun c9 => absurd rfl c9) (fun _ => ?_)
    refine lv_aload_n hx hb dL_law_1019 rfl (lv_at hl 5 rfl) ?_
    refine lv_iconst (v := 0) hx hb dL_law_1020 (by decide) ?_
    refine va_lald hx hb hK hW.1 0 3 rfl rfl (gd_in (by decide)) dL_law_1021 ?_
    rw [show (vp_updL g 0 r.toInt64) (0 : Int32).toNatClampNeg = r.toInt64 from rfl]
    refine lv_iload hx hb dL_law_1022 (lv_at hl 0 rfl) ?_
    refine lv_i2l (v := r.toInt64) hx hb dL_law_1024 rfl ?_
    refine W.lcmp hx hb dL_law_1025 ?_
    rw [lg_cmp_self]
    refine lv_if_eq (tgt := 1031) hx hb dL_law_1026 (by decide) (fun _ => ?_) (fun c9 => absurd rfl c9)
    refine lv_goto (tgt := 2470) hx hb dL_law_1031 (by decide) ?_
    exact kk K9 M9 (vp_updL g 0 r.toInt64) H locs ls hRI hW (lv_sub hl [2, 3, 4, 5, 6] rfl)
  · refine lv_aload_n hx hb dL_law_954 rfl (lv_at hl 1 rfl) ?_
    refine lv_aload_n hx hb dL_law_955 rfl (lv_at hl 0 rfl) ?_
    refine lv_iload hx hb dL_law_956 (lv_at hl 4 rfl) ?_
    refine lv_iconst (v := 1) hx hb dL_law_958 (by decide) ?_
    refine lv_iadd hx hb dL_law_959 ?_
    refine va_sld hx hb hX hbl hbA hW.2.2 hi1 dL_law_960 ?_
    refine lv_aload_n hx hb dL_law_961 rfl (lv_at hl 0 rfl) ?_
    refine lv_iload hx hb dL_law_962 (lv_at hl 4 rfl) ?_
    refine lv_iconst (v := 2) hx hb dL_law_964 (by decide) ?_
    refine lv_iadd hx hb dL_law_965 ?_
    refine va_sld hx hb hX hbl hbA hW.2.2 hi2 dL_law_966 ?_
    refine lv_aload_n hx hb dL_law_967 rfl (lv_at hl 0 rfl) ?_
    refine lv_iload hx hb dL_law_968 (lv_at hl 4 rfl) ?_
    refine lv_iconst (v := 3) hx hb dL_law_970 (by decide) ?_
    refine lv_iadd hx hb dL_law_971 ?_
    refine va_sld hx hb hX hbl hbA hW.2.2 hi3 dL_law_972 ?_
    refine lv_aload_n hx hb dL_law_973 rfl (lv_at hl 3 rfl) ?_
    refine l_wrap (n := 5) C0 hW (wL_change_1 l hfl D T A ad hok (oc_X11 T am M ++ []) ao g K (xs (x4 + 1).toNatClampNeg) (xs (x4 + 2).toNatClampNeg) (xs (x4 + 3).toNatClampNeg) r K9 q1) wm21_5 wm21_6 wm9_22 wm21_7 ⟨by decide +kernel, by decide +kernel, by decide +kernel⟩ ⟨by decide, by decide⟩ hc1 hs1 rfl hl.1 rfl (Nat.le_of_ble_eq_true rfl) dL_law_974 (fun H locs hW => ?_)
    refine lv_istore (lv' := [(5, .int 1), (0, .ref b), (1, .ref (ad 0 0)), (2, .ref (am 0)), (3, .ref ao), (4, .int x4)]) hx hb dL_law_977 hl (by decide) rfl (fun ls hl => ?_)
    refine lv_aload_n hx hb dL_law_979 rfl (lv_at hl 3 rfl) ?_
    refine lv_aload_n hx hb dL_law_980 rfl (lv_at hl 1 rfl) ?_
    refine lv_iload hx hb dL_law_981 (lv_at hl 5 rfl) ?_
    refine lv_iconst (v := 1) hx hb dL_law_983 (by decide) ?_
    refine lv_iadd hx hb dL_law_984 ?_
    refine va_sld hx hb hX hbl hbA hW.2.2 hi1 dL_law_985 ?_
    refine lv_aload_n hx hb dL_law_986 rfl (lv_at hl 1 rfl) ?_
    refine lv_iload hx hb dL_law_987 (lv_at hl 5 rfl) ?_
    refine lv_iconst (v := 2) hx hb dL_law_989 (by decide) ?_
    refine lv_iadd hx hb dL_law_990 ?_
    refine va_sld hx hb hX hbl hbA hW.2.2 hi2 dL_law_991 ?_
    refine lv_aload_n hx hb dL_law_992 rfl (lv_at hl 1 rfl) ?_
    refine lv_iload hx hb dL_law_993 (lv_at hl 5 rfl) ?_
    refine lv_iconst (v := 3) hx hb dL_law_995 (by decide) ?_
    refine lv_iadd hx hb dL_law_996 ?_
    refine va_sld hx hb hX hbl hbA hW.2.2 hi3 dL_law_997 ?_
    have hW := hW.perm pf3
    refine l_mod (As := [.int (xs (x4 + 1).toNatClampNeg), .int (xs (x4 + 2).toNatClampNeg), .int (xs (x4 + 3).toNatClampNeg)]) C0 hW (g_cw (n := 3) hts wm21_23 wm22_0 wm22_1 wm1_5 wm22_2 ⟨rfl, by decide +kernel, by decide +kernel, by decide +kernel⟩ ⟨rfl, rfl⟩ ⟨by decide, by decide⟩) rfl (c_X11_change l D T A am (outc T ao g ++ (oc_X10 T (ad 0) (bb ad) (K9 0) ++ (wkL T ad K9 L18 ++ []))) M (xs (x4 + 1).toNatClampNeg) (xs (x4 + 2).toNatClampNeg) (xs (x4 + 3).toNatClampNeg) b9 M9 q2) rfl hl.1 rfl (Nat.le_of_ble_eq_true rfl) dL_law_998 (by omega) (by omega) (fun H locs hW => ?_)
    have hW := hW.perm pf3.symm
    refine lv_istore (lv' := [(6, .int b9), (5, .int 1), (0, .ref b), (1, .ref (ad 0 0)), (2, .ref (am 0)), (3, .ref ao), (4, .int x4)]) hx hb dL_law_1001 hl (by decide) rfl (fun ls hl => ?_)
    refine lv_aload_n hx hb dL_law_1003 rfl (lv_at hl 4 rfl) ?_
    have hW := hW.perm pf3
    refine l_mod (As := []) C0 hW (g_cw (n := 0) hts wm11_13 wm11_14 wm11_15 wm1_5 wm11_16 ⟨rfl, by decide +kernel, by decide +kernel, by decide +kernel⟩ ⟨rfl, rfl⟩ ⟨by decide, by decide⟩) rfl (c_X11_thrown l D T A am (outc T ao g ++ (oc_X10 T (ad 0) (bb ad) (K9 0) ++ (wkL T ad K9 L18 ++ []))) M9 1 q3) rfl hl.1 rfl (Nat.le_of_ble_eq_true rfl) dL_law_1004 (by omega) (by omega) (fun H locs hW => ?_)
    have hW := hW.perm pf3.symm
    refine lv_iload hx hb dL_law_1007 (lv_at hl 1 rfl) ?_
    refine lv_icmp_eq (tgt := 1014) hx hb dL_law_1009 (by decide) (fun _ => ?_) (fun c9 => absurd rfl c9)
    refine lv_iload hx hb dL_law_1014 (lv_at hl 1 rfl) ?_
    refine lv_if_ne (tgt := 1031) hx hb dL_law_1016 (by decide) (fun _ => ?_) (fun c9 => absurd c9 (by decide))
    refine lv_goto (tgt := 2470) hx hb dL_law_1031 (by decide) ?_
    exact kk K9 M9 g H locs ls hRI hW (lv_sub hl [2, 3, 4, 5, 6] rfl)
set_option maxHeartbeats 4000000 in
set_option maxRecDepth 100000 in
theorem law_remove {RI : Nat → (Nat → Ob) → Ob → Prop} {j i : Nat} {x4 : Int32} {K : Nat → Ob} {M : Ob} {g : Nat → Int64} {H : Heap} {locs : List Loc} {cells slots : Nat} {ls : Array Slot} (C0 : LC p l s m c D T A b L xs ad) (hop : Op_remove RI j K M (xs (x4 + 1).toNatClampNeg) (xs (x4 + 2).toNatClampNeg)) (hi : i + 6 < L) (ex4 : x4 = nI i) (hc1 : cells ≤ 2000) (hs1 : slots ≤ 400000) (hW : Wd D A s.heap (lw T ad am ao K M g) H locs) (hl : lv_has ls 7 [(0, .ref b), (1, .ref (ad 0 0)), (2, .ref (am 0)), (3, .ref ao), (4, .int x4)])
    (kk : ∀ (K9 : Nat → Ob) (M9 : Ob) (g9 : Nat → Int64) (H : Heap) (locs : List Loc) (ls : Array Slot), RI (j + 1) K9 M9 → Wd D A s.heap (lw T ad am ao K9 M9 g9) H locs → lv_has ls 7 [(0, .ref b), (1, .ref (ad 0 0)), (2, .ref (am 0)), (3, .ref ao), (4, .int x4)] → LW p l e s m b below meth c H locs (cells + 1) (slots + 6) Q (F0 m 2470 ls [])) : LW p l e s m b below meth c H locs cells slots Q (F0 m 1034 ls []) := by
  obtain ⟨hx, hb, hml, hown, hts, hX, hbl, hbA, hL, hK, hN, hE, hC, hok, hfl⟩ := id C0
  have hi1 : vp_in (x4 + 1) L := by rw [ex4, show (1 : Int32) = nI 1 from rfl, nI_add]; exact vp_in_nI (by omega) (by omega)
  have hi2 : vp_in (x4 + 2) L := by rw [ex4, show (2 : Int32) = nI 2 from rfl, nI_add]; exact vp_in_nI (by omega) (by omega)
  unfold lw at hW
  obtain ⟨k, r, K9, b9, M9, t, q1, q2, q3, hd, hRI⟩ := hop
  rcases hd with ⟨rfl, rfl, rfl⟩ | ⟨rfl, rfl⟩
  · refine lv_aload_n hx hb dL_law_1034 rfl (lv_at hl 1 rfl) ?_
    refine lv_aload_n hx hb dL_law_1035 rfl (lv_at hl 0 rfl) ?_
    refine lv_iload hx hb dL_law_1036 (lv_at hl 4 rfl) ?_
    refine lv_iconst (v := 1) hx hb dL_law_1038 (by decide) ?_
    refine lv_iadd hx hb dL_law_1039 ?_
    refine va_sld hx hb hX hbl hbA hW.2.2 hi1 dL_law_1040 ?_
    refine lv_aload_n hx hb dL_law_1041 rfl (lv_at hl 0 rfl) ?_
    refine lv_iload hx hb dL_law_1042 (lv_at hl 4 rfl) ?_
    refine lv_iconst (v := 2) hx hb dL_law_1044 (by decide) ?_
    refine lv_iadd hx hb dL_law_1045 ?_
    refine va_sld hx hb hX hbl hbA hW.2.2 hi2 dL_law_1046 ?_
    refine lv_aload_n hx hb dL_law_1047 rfl (lv_at hl 3 rfl) ?_
    refine l_wrap (n := 4) C0 hW (wL_remove_0 l hfl D T A ad hok (oc_X11 T am M ++ []) ao g K (xs (x4 + 1).toNatClampNeg) (xs (x4 + 2).toNatClampNeg) r K9 q1) wm22_7 wm22_8 wm9_22 wm22_9 ⟨by decide +kernel, by decide +kernel, by decide +kernel⟩ ⟨by decide, by decide⟩ hc1 hs1 rfl hl.1 rfl (Nat.le_of_ble_eq_true rfl) dL_law_1048 (fun H locs hW => ?_)
    refine lv_istore (lv' := [(5, .int 0), (0, .ref b), (1, .ref (ad 0 0)), (2, .ref (am 0)), (3, .ref ao), (4, .int x4)]) hx hb dL_law_1051 hl (by decide) rfl (fun ls hl => ?_)
    refine lv_aload_n hx hb dL_law_1053 rfl (lv_at hl 3 rfl) ?_
    refine lv_aload_n hx hb dL_law_1054 rfl (lv_at hl 1 rfl) ?_
    refine lv_iload hx hb dL_law_1055 (lv_at hl 5 rfl) ?_
    refine lv_iconst (v := 1) hx hb dL_law_1057 (by decide) ?_
    refine lv_iadd hx hb dL_law_1058 ?_
    refine va_sld hx hb hX hbl hbA hW.2.2 hi1 dL_law_1059 ?_
    refine lv_aload_n hx hb dL_law_1060 rfl (lv_at hl 1 rfl) ?_
    refine lv_iload hx hb dL_law_1061 (lv_at hl 5 rfl) ?_
    refine lv_iconst (v := 2) hx hb dL_law_1063 (by decide) ?_
    refine lv_iadd hx hb dL_law_1064 ?_
    refine va_sld hx hb hX hbl hbA hW.2.2 hi2 dL_law_1065 ?_
    have hW := hW.perm pf3
    refine l_mod (As := [.int (xs (x4 + 1).toNatClampNeg), .int (xs (x4 + 2).toNatClampNeg)]) C0 hW (g_cw (n := 2) hts wm22_18 wm22_19 wm22_20 wm1_5 wm22_21 ⟨rfl, by decide +kernel, by decide +kernel, by decide +kernel⟩ ⟨rfl, rfl⟩ ⟨by decide, by decide⟩) rfl (c_X11_remove l D T A am (outc T ao (vp_updL g 0 r.toInt64) ++ (oc_X10 T (ad 0) (bb ad) (K9 0) ++ (wkL T ad K9 L18 ++ []))) M (xs (x4 + 1).toNatClampNeg) (xs (x4 + 2).toNatClampNeg) r M9 q2) rfl hl.1 rfl (Nat.le_of_ble_eq_true rfl) dL_law_1066 (by omega) (by omega) (fun H locs hW => ?_)
    have hW := hW.perm pf3.symm
    refine lv_istore (lv' := [(6, .int r), (5, .int 0), (0, .ref b), (1, .ref (ad 0 0)), (2, .ref (am 0)), (3, .ref ao), (4, .int x4)]) hx hb dL_law_1069 hl (by decide) rfl (fun ls hl => ?_)
    refine lv_aload_n hx hb dL_law_1071 rfl (lv_at hl 4 rfl) ?_
    have hW := hW.perm pf3
    refine l_mod (As := []) C0 hW (g_cw (n := 0) hts wm11_13 wm11_14 wm11_15 wm1_5 wm11_16 ⟨rfl, by decide +kernel, by decide +kernel, by decide +kernel⟩ ⟨rfl, rfl⟩ ⟨by decide, by decide⟩) rfl (c_X11_thrown l D T A am (outc T ao (vp_updL g 0 r.toInt64) ++ (oc_X10 T (ad 0) (bb ad) (K9 0) ++ (wkL T ad K9 L18 ++ []))) M9 0 q3) rfl hl.1 rfl (Nat.le_of_ble_eq_true rfl) dL_law_1072 (by omega) (by omega) (fun H locs hW => ?_)
    have hW := hW.perm pf3.symm
    refine lv_iload hx hb dL_law_1075 (lv_at hl 1 rfl) ?_
    refine lv_icmp_eq (tgt := 1082) hx hb dL_law_1077 (by decide) (fun _ => ?_) (fun c9 => absurd rfl c9)
    refine lv_iload hx hb dL_law_1082 (lv_at hl 1 rfl) ?_
    refine lv_if_ne (tgt := 1099) hx hb dL_law_1084 (by decide) (fun c9 => absurd rfl c9) (fun _ => ?_)
    refine lv_aload_n hx hb dL_law_1087 rfl (lv_at hl 5 rfl) ?_
    refine lv_iconst (v := 0) hx hb dL_law_1088 (by decide) ?_
    refine va_lald hx hb hK hW.1 0 3 rfl rfl (gd_in (by decide)) dL_law_1089 ?_
    rw [show (vp_updL g 0 r.toInt64) (0 : Int32).toNatClampNeg = r.toInt64 from rfl]
    refine lv_iload hx hb dL_law_1090 (lv_at hl 0 rfl) ?_
    refine lv_i2l (v := r.toInt64) hx hb dL_law_1092 rfl ?_
    refine W.lcmp hx hb dL_law_1093 ?_
    rw [lg_cmp_self]
    refine lv_if_eq (tgt := 1099) hx hb dL_law_1094 (by decide) (fun _ => ?_) (fun c9 => absurd rfl c9)
    refine lv_goto (tgt := 2470) hx hb dL_law_1099 (by decide) ?_
    exact kk K9 M9 (vp_updL g 0 r.toInt64) H locs ls hRI hW (lv_sub hl [2, 3, 4, 5, 6] rfl)
  · refine lv_aload_n hx hb dL_law_1034 rfl (lv_at hl 1 rfl) ?_
    refine lv_aload_n hx hb dL_law_1035 rfl (lv_at hl 0 rfl) ?_
    refine lv_iload hx hb dL_law_1036 (lv_at hl 4 rfl) ?_
    refine lv_iconst (v := 1) hx hb dL_law_1038 (by decide) ?_
    refine lv_iadd hx hb dL_law_1039 ?_
    refine va_sld hx hb hX hbl hbA hW.2.2 hi1 dL_law_1040 ?_
    refine lv_aload_n hx hb dL_law_1041 rfl (lv_at hl 0 rfl) ?_
    refine lv_iload hx hb dL_law_1042 (lv_at hl 4 rfl) ?_
    refine lv_iconst (v := 2) hx hb dL_law_1044 (by decide) ?_
    refine lv_iadd hx hb dL_law_1045 ?_
    refine va_sld hx hb hX hbl hbA hW.2.2 hi2 dL_law_1046 ?_
    refine lv_aload_n hx hb dL_law_1047 rfl (lv_at hl 3 rfl) ?_
    refine l_wrap (n := 4) C0 hW (wL_remove_1 l hfl D T A ad hok (oc_X11 T am M ++ []) ao g K (xs (x4 + 1).toNatClampNeg) (xs (x4 + 2).toNatClampNeg) r K9 q1) wm22_7 wm22_8 wm9_22 wm22_9 ⟨by decide +kernel, by decide +kernel, by decide +kernel⟩ ⟨by decide, by decide⟩ hc1 hs1 rfl hl.1 rfl (Nat.le_of_ble_eq_true rfl) dL_law_1048 (fun H locs hW => ?_)
    refine lv_istore (lv' := [(5, .int 1), (0, .ref b), (1, .ref (ad 0 0)), (2, .ref (am 0)), (3, .ref ao), (4, .int x4)]) hx hb dL_law_1051 hl (by decide) rfl (fun ls hl => ?_)
    refine lv_aload_n hx hb dL_law_1053 rfl (lv_at hl 3 rfl) ?_
    refine lv_aload_n hx hb dL_law_1054 rfl (lv_at hl 1 rfl) ?_
    refine lv_iload hx hb dL_law_1055 (lv_at hl 5 rfl) ?_
    refine lv_iconst (v := 1) hx hb dL_law_1057 (by decide) ?_
    refine lv_iadd hx hb dL_law_1058 ?_
    refine va_sld hx hb hX hbl hbA hW.2.2 hi1 dL_law_1059 ?_
    refine lv_aload_n hx hb dL_law_1060 rfl (lv_at hl 1 rfl) ?_
    refine lv_iload hx hb dL_law_1061 (lv_at hl 5 rfl) ?_
    refine lv_iconst (v := 2) hx hb dL_law_1063 (by decide) ?_
    refine lv_iadd hx hb dL_law_1064 ?_
    refine va_sld hx hb hX hbl hbA hW.2.2 hi2 dL_law_1065 ?_
    have hW := hW.perm pf3
    refine l_mod (As := [.int (xs (x4 + 1).toNatClampNeg), .int (xs (x4 + 2).toNatClampNeg)]) C0 hW (g_cw (n := 2) hts wm22_18 wm22_19 wm22_20 wm1_5 wm22_21 ⟨rfl, by decide +kernel, by decide +kernel, by decide +kernel⟩ ⟨rfl, rfl⟩ ⟨by decide, by decide⟩) rfl (c_X11_remove l D T A am (outc T ao g ++ (oc_X10 T (ad 0) (bb ad) (K9 0) ++ (wkL T ad K9 L18 ++ []))) M (xs (x4 + 1).toNatClampNeg) (xs (x4 + 2).toNatClampNeg) b9 M9 q2) rfl hl.1 rfl (Nat.le_of_ble_eq_true rfl) dL_law_1066 (by omega) (by omega) (fun H locs hW => ?_)
    have hW := hW.perm pf3.symm
    refine lv_istore (lv' := [(6, .int b9), (5, .int 1), (0, .ref b), (1, .ref (ad 0 0)), (2, .ref (am 0)), (3, .ref ao), (4, .int x4)]) hx hb dL_law_1069 hl (by decide) rfl (fun ls hl => ?_)
    refine lv_aload_n hx hb dL_law_1071 rfl (lv_at hl 4 rfl) ?_
    have hW := hW.perm pf3
    refine l_mod (As := []) C0 hW (g_cw (n := 0) hts wm11_13 wm11_14 wm11_15 wm1_5 wm11_16 ⟨rfl, by decide +kernel, by decide +kernel, by decide +kernel⟩ ⟨rfl, rfl⟩ ⟨by decide, by decide⟩) rfl (c_X11_thrown l D T A am (outc T ao g ++ (oc_X10 T (ad 0) (bb ad) (K9 0) ++ (wkL T ad K9 L18 ++ []))) M9 1 q3) rfl hl.1 rfl (Nat.le_of_ble_eq_true rfl) dL_law_1072 (by omega) (by omega) (fun H locs hW => ?_)
    have hW := hW.perm pf3.symm
    refine lv_iload hx hb dL_law_1075 (lv_at hl 1 rfl) ?_
    refine lv_icmp_eq (tgt := 1082) hx hb dL_law_1077 (by decide) (fun _ => ?_) (fun c9 => absurd rfl c9)
    refine lv_iload hx hb dL_law_1082 (lv_at hl 1 rfl) ?_
    refine lv_if_ne (tgt := 1099) hx hb dL_law_1084 (by decide) (fun _ => ?_) (fun c9 => absurd c9 (by decide))
    refine lv_goto (tgt := 2470) hx hb dL_law_1099 (by decide) ?_
    exact kk K9 M9 g H locs ls hRI hW (lv_sub hl [2, 3, 4, 5, 6] rfl)
set_option maxHeartbeats 4000000 in
set_option maxRecDepth 100000 in
theorem law_length {RI : Nat → (Nat → Ob) → Ob → Prop} {j i : Nat} {x4 : Int32} {K : Nat → Ob} {M : Ob} {g : Nat → Int64} {H : Heap} {locs : List Loc} {cells slots : Nat} {ls : Array Slot} (C0 : LC p l s m c D T A b L xs ad) (hop : Op_length RI j K M (xs (x4 + 1).toNatClampNeg)) (hi : i + 6 < L) (ex4 : x4 = nI i) (hc1 : cells ≤ 2000) (hs1 : slots ≤ 400000) (hW : Wd D A s.heap (lw T ad am ao K M g) H locs) (hl : lv_has ls 7 [(0, .ref b), (1, .ref (ad 0 0)), (2, .ref (am 0)), (3, .ref ao), (4, .int x4)])
    (kk : ∀ (K9 : Nat → Ob) (M9 : Ob) (g9 : Nat → Int64) (H : Heap) (locs : List Loc) (ls : Array Slot), RI (j + 1) K9 M9 → Wd D A s.heap (lw T ad am ao K9 M9 g9) H locs → lv_has ls 7 [(0, .ref b), (1, .ref (ad 0 0)), (2, .ref (am 0)), (3, .ref ao), (4, .int x4)] → LW p l e s m b below meth c H locs (cells + 1) (slots + 6) Q (F0 m 2470 ls [])) : LW p l e s m b below meth c H locs cells slots Q (F0 m 1102 ls []) := by
  obtain ⟨hx, hb, hml, hown, hts, hX, hbl, hbA, hL, hK, hN, hE, hC, hok, hfl⟩ := id C0
  have hi1 : vp_in (x4 + 1) L := by rw [ex4, show (1 : Int32) = nI 1 from rfl, nI_add]; exact vp_in_nI (by omega) (by omega)
  unfold lw at hW
  obtain ⟨k, r, K9, b9, M9, t, q1, eK, q2, q3, hd, hRI⟩ := hop
  subst eK
  rcases hd with ⟨rfl, rfl, rfl⟩ | ⟨rfl, rfl⟩
  · refine lv_aload_n hx hb dL_law_1102 rfl (lv_at hl 1 rfl) ?_
    refine lv_aload_n hx hb dL_law_1103 rfl (lv_at hl 0 rfl) ?_
    refine lv_iload hx hb dL_law_1104 (lv_at hl 4 rfl) ?_
    refine lv_iconst (v := 1) hx hb dL_law_1106 (by decide) ?_
    refine lv_iadd hx hb dL_law_1107 ?_
    refine va_sld hx hb hX hbl hbA hW.2.2 hi1 dL_law_1108 ?_
    refine lv_aload_n hx hb dL_law_1109 rfl (lv_at hl 3 rfl) ?_
    refine l_wrap (n := 3) C0 hW (wL_length_0 l hfl D T A ad hok (oc_X11 T am M ++ []) ao g K9 (xs (x4 + 1).toNatClampNeg) r  q1) wm22_22 wm22_23 wm9_22 wm23_0 ⟨by decide +kernel, by decide +kernel, by decide +kernel⟩ ⟨by decide, by decide⟩ hc1 hs1 rfl hl.1 rfl (Nat.le_of_ble_eq_true rfl) dL_law_1110 (fun H locs hW => ?_)
    refine lv_istore (lv' := [(5, .int 0), (0, .ref b), (1, .ref (ad 0 0)), (2, .ref (am 0)), (3, .ref ao), (4, .int x4)]) hx hb dL_law_1113 hl (by decide) rfl (fun ls hl => ?_)
    refine lv_aload_n hx hb dL_law_1115 rfl (lv_at hl 3 rfl) ?_
    refine lv_aload_n hx hb dL_law_1116 rfl (lv_at hl 1 rfl) ?_
    refine lv_iload hx hb dL_law_1117 (lv_at hl 5 rfl) ?_
    refine lv_iconst (v := 1) hx hb dL_law_1119 (by decide) ?_
    refine lv_iadd hx hb dL_law_1120 ?_
    refine va_sld hx hb hX hbl hbA hW.2.2 hi1 dL_law_1121 ?_
    have hW := hW.perm pf3
    refine l_mod (As := [.int (xs (x4 + 1).toNatClampNeg)]) C0 hW (g_cw (n := 1) hts wm23_5 wm23_6 wm23_7 wm1_5 wm23_8 ⟨rfl, by decide +kernel, by decide +kernel, by decide +kernel⟩ ⟨rfl, rfl⟩ ⟨by decide, by decide⟩) rfl (c_X11_length l D T A am (outc T ao (vp_updL g 0 r.toInt64) ++ (oc_X10 T (ad 0) (bb ad) (K9 0) ++ (wkL T ad K9 L18 ++ []))) M (xs (x4 + 1).toNatClampNeg) r M9 q2) rfl hl.1 rfl (Nat.le_of_ble_eq_true rfl) dL_law_1122 (by omega) (by omega) (fun H locs hW => ?_)
    have hW := hW.perm pf3.symm
    refine lv_istore (lv' := [(6, .int r), (5, .int 0), (0, .ref b), (1, .ref (ad 0 0)), (2, .ref (am 0)), (3, .ref ao), (4, .int x4)]) hx hb dL_law_1125 hl (by decide) rfl (fun ls hl => ?_)
    refine lv_aload_n hx hb dL_law_1127 rfl (lv_at hl 4 rfl) ?_
    have hW := hW.perm pf3
    refine l_mod (As := []) C0 hW (g_cw (n := 0) hts wm11_13 wm11_14 wm11_15 wm1_5 wm11_16 ⟨rfl, by decide +kernel, by decide +kernel, by decide +kernel⟩ ⟨rfl, rfl⟩ ⟨by decide, by decide⟩) rfl (c_X11_thrown l D T A am (outc T ao (vp_updL g 0 r.toInt64) ++ (oc_X10 T (ad 0) (bb ad) (K9 0) ++ (wkL T ad K9 L18 ++ []))) M9 0 q3) rfl hl.1 rfl (Nat.le_of_ble_eq_true rfl) dL_law_1128 (by omega) (by omega) (fun H locs hW => ?_)
    have hW := hW.perm pf3.symm
    refine lv_iload hx hb dL_law_1131 (lv_at hl 1 rfl) ?_
    refine lv_icmp_eq (tgt := 1138) hx hb dL_law_1133 (by decide) (fun _ => ?_) (fun c9 => absurd rfl c9)
    refine lv_iload hx hb dL_law_1138 (lv_at hl 1 rfl) ?_
    refine lv_if_ne (tgt := 1155) hx hb dL_law_1140 (by decide) (fun c9 => absurd rfl c9) (fun _ => ?_)
    refine lv_aload_n hx hb dL_law_1143 rfl (lv_at hl 5 rfl) ?_
    refine lv_iconst (v := 0) hx hb dL_law_1144 (by decide) ?_
    refine va_lald hx hb hK hW.1 0 3 rfl rfl (gd_in (by decide)) dL_law_1145 ?_
    rw [show (vp_updL g 0 r.toInt64) (0 : Int32).toNatClampNeg = r.toInt64 from rfl]
    refine lv_iload hx hb dL_law_1146 (lv_at hl 0 rfl) ?_
    refine lv_i2l (v := r.toInt64) hx hb dL_law_1148 rfl ?_
    refine W.lcmp hx hb dL_law_1149 ?_
    rw [lg_cmp_self]
    refine lv_if_eq (tgt := 1155) hx hb dL_law_1150 (by decide) (fun _ => ?_) (fun c9 => absurd rfl c9)
    refine lv_goto (tgt := 2470) hx hb dL_law_1155 (by decide) ?_
    exact kk K9 M9 (vp_updL g 0 r.toInt64) H locs ls hRI hW (lv_sub hl [2, 3, 4, 5, 6] rfl)
  · refine lv_aload_n hx hb dL_law_1102 rfl (lv_at hl 1 rfl) ?_
    refine lv_aload_n hx hb dL_law_1103 rfl (lv_at hl 0 rfl) ?_
    refine lv_iload hx hb dL_law_1104 (lv_at hl 4 rfl) ?_
    refine lv_iconst (v := 1) hx hb dL_law_1106 (by decide) ?_
    refine lv_iadd hx hb dL_law_1107 ?_
    refine va_sld hx hb hX hbl hbA hW.2.2 hi1 dL_law_1108 ?_
    refine lv_aload_n hx hb dL_law_1109 rfl (lv_at hl 3 rfl) ?_
    refine l_wrap (n := 3) C0 hW (wL_length_1 l hfl D T A ad hok (oc_X11 T am M ++ []) ao g K9 (xs (x4 + 1).toNatClampNeg) r  q1) wm22_22 wm22_23 wm9_22 wm23_0 ⟨by decide +kernel, by decide +kernel, by decide +kernel⟩ ⟨by decide, by decide⟩ hc1 hs1 rfl hl.1 rfl (Nat.le_of_ble_eq_true rfl) dL_law_1110 (fun H locs hW => ?_)
    refine lv_istore (lv' := [(5, .int 1), (0, .ref b), (1, .ref (ad 0 0)), (2, .ref (am 0)), (3, .ref ao), (4, .int x4)]) hx hb dL_law_1113 hl (by decide) rfl (fun ls hl => ?_)
    refine lv_aload_n hx hb dL_law_1115 rfl (lv_at hl 3 rfl) ?_
    refine lv_aload_n hx hb dL_law_1116 rfl (lv_at hl 1 rfl) ?_
    refine lv_iload hx hb dL_law_1117 (lv_at hl 5 rfl) ?_
    refine lv_iconst (v := 1) hx hb dL_law_1119 (by decide) ?_
    refine lv_iadd hx hb dL_law_1120 ?_
    refine va_sld hx hb hX hbl hbA hW.2.2 hi1 dL_law_1121 ?_
    have hW := hW.perm pf3
    refine l_mod (As := [.int (xs (x4 + 1).toNatClampNeg)]) C0 hW (g_cw (n := 1) hts wm23_5 wm23_6 wm23_7 wm1_5 wm23_8 ⟨rfl, by decide +kernel, by decide +kernel, by decide +kernel⟩ ⟨rfl, rfl⟩ ⟨by decide, by decide⟩) rfl (c_X11_length l D T A am (outc T ao g ++ (oc_X10 T (ad 0) (bb ad) (K9 0) ++ (wkL T ad K9 L18 ++ []))) M (xs (x4 + 1).toNatClampNeg) b9 M9 q2) rfl hl.1 rfl (Nat.le_of_ble_eq_true rfl) dL_law_1122 (by omega) (by omega) (fun H locs hW => ?_)
    have hW := hW.perm pf3.symm
    refine lv_istore (lv' := [(6, .int b9), (5, .int 1), (0, .ref b), (1, .ref (ad 0 0)), (2, .ref (am 0)), (3, .ref ao), (4, .int x4)]) hx hb dL_law_1125 hl (by decide) rfl (fun ls hl => ?_)
    refine lv_aload_n hx hb dL_law_1127 rfl (lv_at hl 4 rfl) ?_
    have hW := hW.perm pf3
    refine l_mod (As := []) C0 hW (g_cw (n := 0) hts wm11_13 wm11_14 wm11_15 wm1_5 wm11_16 ⟨rfl, by decide +kernel, by decide +kernel, by decide +kernel⟩ ⟨rfl, rfl⟩ ⟨by decide, by decide⟩) rfl (c_X11_thrown l D T A am (outc T ao g ++ (oc_X10 T (ad 0) (bb ad) (K9 0) ++ (wkL T ad K9 L18 ++ []))) M9 1 q3) rfl hl.1 rfl (Nat.le_of_ble_eq_true rfl) dL_law_1128 (by omega) (by omega) (fun H locs hW => ?_)
    have hW := hW.perm pf3.symm
    refine lv_iload hx hb dL_law_1131 (lv_at hl 1 rfl) ?_
    refine lv_icmp_eq (tgt := 1138) hx hb dL_law_1133 (by decide) (fun _ => ?_) (fun c9 => absurd rfl c9)
    refine lv_iload hx hb dL_law_1138 (lv_at hl 1 rfl) ?_
    refine lv_if_ne (tgt := 1155) hx hb dL_law_1140 (by decide) (fun _ => ?_) (fun c9 => absurd c9 (by decide))
    refine lv_goto (tgt := 2470) hx hb dL_law_1155 (by decide) ?_
    exact kk K9 M9 g H locs ls hRI hW (lv_sub hl [2, 3, 4, 5, 6] rfl)
set_option maxHeartbeats 4000000 in
set_option maxRecDepth 100000 in
theorem law_wordAt {RI : Nat → (Nat → Ob) → Ob → Prop} {j i : Nat} {x4 : Int32} {K : Nat → Ob} {M : Ob} {g : Nat → Int64} {H : Heap} {locs : List Loc} {cells slots : Nat} {ls : Array Slot} (C0 : LC p l s m c D T A b L xs ad) (hop : Op_wordAt RI j K M (xs (x4 + 1).toNatClampNeg) (xs (x4 + 2).toNatClampNeg)) (hi : i + 6 < L) (ex4 : x4 = nI i) (hc1 : cells ≤ 2000) (hs1 : slots ≤ 400000) (hW : Wd D A s.heap (lw T ad am ao K M g) H locs) (hl : lv_has ls 7 [(0, .ref b), (1, .ref (ad 0 0)), (2, .ref (am 0)), (3, .ref ao), (4, .int x4)])
    (kk : ∀ (K9 : Nat → Ob) (M9 : Ob) (g9 : Nat → Int64) (H : Heap) (locs : List Loc) (ls : Array Slot), RI (j + 1) K9 M9 → Wd D A s.heap (lw T ad am ao K9 M9 g9) H locs → lv_has ls 7 [(0, .ref b), (1, .ref (ad 0 0)), (2, .ref (am 0)), (3, .ref ao), (4, .int x4)] → LW p l e s m b below meth c H locs (cells + 1) (slots + 6) Q (F0 m 2470 ls [])) : LW p l e s m b below meth c H locs cells slots Q (F0 m 1158 ls []) := by
  obtain ⟨hx, hb, hml, hown, hts, hX, hbl, hbA, hL, hK, hN, hE, hC, hok, hfl⟩ := id C0
  have hi1 : vp_in (x4 + 1) L := by rw [ex4, show (1 : Int32) = nI 1 from rfl, nI_add]; exact vp_in_nI (by omega) (by omega)
  have hi2 : vp_in (x4 + 2) L := by rw [ex4, show (2 : Int32) = nI 2 from rfl, nI_add]; exact vp_in_nI (by omega) (by omega)
  unfold lw at hW
  obtain ⟨k, r, K9, b9, M9, t, q1, eK, q2, q3, hd, hRI⟩ := hop
  subst eK
  rcases hd with ⟨rfl, rfl, rfl⟩ | ⟨rfl, rfl⟩
  · refine lv_aload_n hx hb dL_law_1158 rfl (lv_at hl 1 rfl) ?_
    refine lv_aload_n hx hb dL_law_1159 rfl (lv_at hl 0 rfl) ?_
    refine lv_iload hx hb dL_law_1160 (lv_at hl 4 rfl) ?_
    refine lv_iconst (v := 1) hx hb dL_law_1162 (by decide) ?_
    refine lv_iadd hx hb dL_law_1163 ?_
    refine va_sld hx hb hX hbl hbA hW.2.2 hi1 dL_law_1164 ?_
    refine lv_aload_n hx hb dL_law_1165 rfl (lv_at hl 0 rfl) ?_
    refine lv_iload hx hb dL_law_1166 (lv_at hl 4 rfl) ?_
    refine lv_iconst (v := 2) hx hb dL_law_1168 (by decide) ?_
    refine lv_iadd hx hb dL_law_1169 ?_
    refine va_sld hx hb hX hbl hbA hW.2.2 hi2 dL_law_1170 ?_
    refine lv_aload_n hx hb dL_law_1171 rfl (lv_at hl 3 rfl) ?_
    refine l_wrap (n := 4) C0 hW (wL_wordAt_0 l hfl D T A ad hok (oc_X11 T am M ++ []) ao g K9 (xs (x4 + 1).toNatClampNeg) (xs (x4 + 2).toNatClampNeg) r  q1) wm23_9 wm23_10 wm9_22 wm23_11 ⟨by decide +kernel, by decide +kernel, by decide +kernel⟩ ⟨by decide, by decide⟩ hc1 hs1 rfl hl.1 rfl (Nat.le_of_ble_eq_true rfl) dL_law_1172 (fun H locs hW => ?_)
    refine lv_istore (lv' := [(5, .int 0), (0, .ref b), (1, .ref (ad 0 0)), (2, .ref (am 0)), (3, .ref ao), (4, .int x4)]) hx hb dL_law_1175 hl (by decide) rfl (fun ls hl => ?_)
    refine lv_aload_n hx hb dL_law_1177 rfl (lv_at hl 3 rfl) ?_
    refine lv_aload_n hx hb dL_law_1178 rfl (lv_at hl 1 rfl) ?_
    refine lv_iload hx hb dL_law_1179 (lv_at hl 5 rfl) ?_
    refine lv_iconst (v := 1) hx hb dL_law_1181 (by decide) ?_
    refine lv_iadd hx hb dL_law_1182 ?_
    refine va_sld hx hb hX hbl hbA hW.2.2 hi1 dL_law_1183 ?_
    refine lv_aload_n hx hb dL_law_1184 rfl (lv_at hl 1 rfl) ?_
    refine lv_iload hx hb dL_law_1185 (lv_at hl 5 rfl) ?_
    refine lv_iconst (v := 2) hx hb dL_law_1187 (by decide) ?_
    refine lv_iadd hx hb dL_law_1188 ?_
    refine va_sld hx hb hX hbl hbA hW.2.2 hi2 dL_law_1189 ?_
    have hW := hW.perm pf3
    refine l_mod (As := [.int (xs (x4 + 1).toNatClampNeg), .int (xs (x4 + 2).toNatClampNeg)]) C0 hW (g_cw (n := 2) hts wm23_16 wm23_17 wm23_18 wm1_5 wm23_19 ⟨rfl, by decide +kernel, by decide +kernel, by decide +kernel⟩ ⟨rfl, rfl⟩ ⟨by decide, by decide⟩) rfl (c_X11_wordAt l D T A am (outc T ao (vp_updL g 0 r.toInt64) ++ (oc_X10 T (ad 0) (bb ad) (K9 0) ++ (wkL T ad K9 L18 ++ []))) M (xs (x4 + 1).toNatClampNeg) (xs (x4 + 2).toNatClampNeg) r M9 q2) rfl hl.1 rfl (Nat.le_of_ble_eq_true rfl) dL_law_1190 (by omega) (by omega) (fun H locs hW => ?_)
    have hW := hW.perm pf3.symm
    refine lv_istore (lv' := [(6, .int r), (5, .int 0), (0, .ref b), (1, .ref (ad 0 0)), (2, .ref (am 0)), (3, .ref ao), (4, .int x4)]) hx hb dL_law_1193 hl (by decide) rfl (fun ls hl => ?_)
    refine lv_aload_n hx hb dL_law_1195 rfl (lv_at hl 4 rfl) ?_
    have hW := hW.perm pf3
    refine l_mod (As := []) C0 hW (g_cw (n := 0) hts wm11_13 wm11_14 wm11_15 wm1_5 wm11_16 ⟨rfl, by decide +kernel, by decide +kernel, by decide +kernel⟩ ⟨rfl, rfl⟩ ⟨by decide, by decide⟩) rfl (c_X11_thrown l D T A am (outc T ao (vp_updL g 0 r.toInt64) ++ (oc_X10 T (ad 0) (bb ad) (K9 0) ++ (wkL T ad K9 L18 ++ []))) M9 0 q3) rfl hl.1 rfl (Nat.le_of_ble_eq_true rfl) dL_law_1196 (by omega) (by omega) (fun H locs hW => ?_)
    have hW := hW.perm pf3.symm
    refine lv_iload hx hb dL_law_1199 (lv_at hl 1 rfl) ?_
    refine lv_icmp_eq (tgt := 1206) hx hb dL_law_1201 (by decide) (fun _ => ?_) (fun c9 => absurd rfl c9)
    refine lv_iload hx hb dL_law_1206 (lv_at hl 1 rfl) ?_
    refine lv_if_ne (tgt := 1223) hx hb dL_law_1208 (by decide) (fun c9 => absurd rfl c9) (fun _ => ?_)
    refine lv_aload_n hx hb dL_law_1211 rfl (lv_at hl 5 rfl) ?_
    refine lv_iconst (v := 0) hx hb dL_law_1212 (by decide) ?_
    refine va_lald hx hb hK hW.1 0 3 rfl rfl (gd_in (by decide)) dL_law_1213 ?_
    rw [show (vp_updL g 0 r.toInt64) (0 : Int32).toNatClampNeg = r.toInt64 from rfl]
    refine lv_iload hx hb dL_law_1214 (lv_at hl 0 rfl) ?_
    refine lv_i2l (v := r.toInt64) hx hb dL_law_1216 rfl ?_
    refine W.lcmp hx hb dL_law_1217 ?_
    rw [lg_cmp_self]
    refine lv_if_eq (tgt := 1223) hx hb dL_law_1218 (by decide) (fun _ => ?_) (fun c9 => absurd rfl c9)
    refine lv_goto (tgt := 2470) hx hb dL_law_1223 (by decide) ?_
    exact kk K9 M9 (vp_updL g 0 r.toInt64) H locs ls hRI hW (lv_sub hl [2, 3, 4, 5, 6] rfl)
  · refine lv_aload_n hx hb dL_law_1158 rfl (lv_at hl 1 rfl) ?_
    refine lv_aload_n hx hb dL_law_1159 rfl (lv_at hl 0 rfl) ?_
    refine lv_iload hx hb dL_law_1160 (lv_at hl 4 rfl) ?_
    refine lv_iconst (v := 1) hx hb dL_law_1162 (by decide) ?_
    refine lv_iadd hx hb dL_law_1163 ?_
    refine va_sld hx hb hX hbl hbA hW.2.2 hi1 dL_law_1164 ?_
    refine lv_aload_n hx hb dL_law_1165 rfl (lv_at hl 0 rfl) ?_
    refine lv_iload hx hb dL_law_1166 (lv_at hl 4 rfl) ?_
    refine lv_iconst (v := 2) hx hb dL_law_1168 (by decide) ?_
    refine lv_iadd hx hb dL_law_1169 ?_
    refine va_sld hx hb hX hbl hbA hW.2.2 hi2 dL_law_1170 ?_
    refine lv_aload_n hx hb dL_law_1171 rfl (lv_at hl 3 rfl) ?_
    refine l_wrap (n := 4) C0 hW (wL_wordAt_1 l hfl D T A ad hok (oc_X11 T am M ++ []) ao g K9 (xs (x4 + 1).toNatClampNeg) (xs (x4 + 2).toNatClampNeg) r  q1) wm23_9 wm23_10 wm9_22 wm23_11 ⟨by decide +kernel, by decide +kernel, by decide +kernel⟩ ⟨by decide, by decide⟩ hc1 hs1 rfl hl.1 rfl (Nat.le_of_ble_eq_true rfl) dL_law_1172 (fun H locs hW => ?_)
    refine lv_istore (lv' := [(5, .int 1), (0, .ref b), (1, .ref (ad 0 0)), (2, .ref (am 0)), (3, .ref ao), (4, .int x4)]) hx hb dL_law_1175 hl (by decide) rfl (fun ls hl => ?_)
    refine lv_aload_n hx hb dL_law_1177 rfl (lv_at hl 3 rfl) ?_
    refine lv_aload_n hx hb dL_law_1178 rfl (lv_at hl 1 rfl) ?_
    refine lv_iload hx hb dL_law_1179 (lv_at hl 5 rfl) ?_
    refine lv_iconst (v := 1) hx hb dL_law_1181 (by decide) ?_
    refine lv_iadd hx hb dL_law_1182 ?_
    refine va_sld hx hb hX hbl hbA hW.2.2 hi1 dL_law_1183 ?_
    refine lv_aload_n hx hb dL_law_1184 rfl (lv_at hl 1 rfl) ?_
    refine lv_iload hx hb dL_law_1185 (lv_at hl 5 rfl) ?_
    refine lv_iconst (v := 2) hx hb dL_law_1187 (by decide) ?_
    refine lv_iadd hx hb dL_law_1188 ?_
    refine va_sld hx hb hX hbl hbA hW.2.2 hi2 dL_law_1189 ?_
    have hW := hW.perm pf3
    refine l_mod (As := [.int (xs (x4 + 1).toNatClampNeg), .int (xs (x4 + 2).toNatClampNeg)]) C0 hW (g_cw (n := 2) hts wm23_16 wm23_17 wm23_18 wm1_5 wm23_19 ⟨rfl, by decide +kernel, by decide +kernel, by decide +kernel⟩ ⟨rfl, rfl⟩ ⟨by decide, by decide⟩) rfl (c_X11_wordAt l D T A am (outc T ao g ++ (oc_X10 T (ad 0) (bb ad) (K9 0) ++ (wkL T ad K9 L18 ++ []))) M (xs (x4 + 1).toNatClampNeg) (xs (x4 + 2).toNatClampNeg) b9 M9 q2) rfl hl.1 rfl (Nat.le_of_ble_eq_true rfl) dL_law_1190 (by omega) (by omega) (fun H locs hW => ?_)
    have hW := hW.perm pf3.symm
    refine lv_istore (lv' := [(6, .int b9), (5, .int 1), (0, .ref b), (1, .ref (ad 0 0)), (2, .ref (am 0)), (3, .ref ao), (4, .int x4)]) hx hb dL_law_1193 hl (by decide) rfl (fun ls hl => ?_)
    refine lv_aload_n hx hb dL_law_1195 rfl (lv_at hl 4 rfl) ?_
    have hW := hW.perm pf3
    refine l_mod (As := []) C0 hW (g_cw (n := 0) hts wm11_13 wm11_14 wm11_15 wm1_5 wm11_16 ⟨rfl, by decide +kernel, by decide +kernel, by decide +kernel⟩ ⟨rfl, rfl⟩ ⟨by decide, by decide⟩) rfl (c_X11_thrown l D T A am (outc T ao g ++ (oc_X10 T (ad 0) (bb ad) (K9 0) ++ (wkL T ad K9 L18 ++ []))) M9 1 q3) rfl hl.1 rfl (Nat.le_of_ble_eq_true rfl) dL_law_1196 (by omega) (by omega) (fun H locs hW => ?_)
    have hW := hW.perm pf3.symm
    refine lv_iload hx hb dL_law_1199 (lv_at hl 1 rfl) ?_
    refine lv_icmp_eq (tgt := 1206) hx hb dL_law_1201 (by decide) (fun _ => ?_) (fun c9 => absurd rfl c9)
    refine lv_iload hx hb dL_law_1206 (lv_at hl 1 rfl) ?_
    refine lv_if_ne (tgt := 1223) hx hb dL_law_1208 (by decide) (fun _ => ?_) (fun c9 => absurd c9 (by decide))
    refine lv_goto (tgt := 2470) hx hb dL_law_1223 (by decide) ?_
    exact kk K9 M9 g H locs ls hRI hW (lv_sub hl [2, 3, 4, 5, 6] rfl)
set_option maxHeartbeats 4000000 in
set_option maxRecDepth 100000 in
theorem law_left {RI : Nat → (Nat → Ob) → Ob → Prop} {j i : Nat} {x4 : Int32} {K : Nat → Ob} {M : Ob} {g : Nat → Int64} {H : Heap} {locs : List Loc} {cells slots : Nat} {ls : Array Slot} (C0 : LC p l s m c D T A b L xs ad) (hop : Op_left RI j K M (xs (x4 + 1).toNatClampNeg) (xs (x4 + 2).toNatClampNeg)) (hi : i + 6 < L) (ex4 : x4 = nI i) (hc1 : cells ≤ 2000) (hs1 : slots ≤ 400000) (hW : Wd D A s.heap (lw T ad am ao K M g) H locs) (hl : lv_has ls 7 [(0, .ref b), (1, .ref (ad 0 0)), (2, .ref (am 0)), (3, .ref ao), (4, .int x4)])
    (kk : ∀ (K9 : Nat → Ob) (M9 : Ob) (g9 : Nat → Int64) (H : Heap) (locs : List Loc) (ls : Array Slot), RI (j + 1) K9 M9 → Wd D A s.heap (lw T ad am ao K9 M9 g9) H locs → lv_has ls 7 [(0, .ref b), (1, .ref (ad 0 0)), (2, .ref (am 0)), (3, .ref ao), (4, .int x4)] → LW p l e s m b below meth c H locs (cells + 1) (slots + 6) Q (F0 m 2470 ls [])) : LW p l e s m b below meth c H locs cells slots Q (F0 m 1226 ls []) := by
  obtain ⟨hx, hb, hml, hown, hts, hX, hbl, hbA, hL, hK, hN, hE, hC, hok, hfl⟩ := id C0
  have hi1 : vp_in (x4 + 1) L := by rw [ex4, show (1 : Int32) = nI 1 from rfl, nI_add]; exact vp_in_nI (by omega) (by omega)
  have hi2 : vp_in (x4 + 2) L := by rw [ex4, show (2 : Int32) = nI 2 from rfl, nI_add]; exact vp_in_nI (by omega) (by omega)
  unfold lw at hW
  obtain ⟨k, r, K9, b9, M9, t, q1, q2, q3, hd, hRI⟩ := hop
  rcases hd with ⟨rfl, rfl, rfl⟩ | ⟨rfl, rfl⟩
  · refine lv_aload_n hx hb dL_law_1226 rfl (lv_at hl 1 rfl) ?_
    refine lv_aload_n hx hb dL_law_1227 rfl (lv_at hl 0 rfl) ?_
    refine lv_iload hx hb dL_law_1228 (lv_at hl 4 rfl) ?_
    refine lv_iconst (v := 1) hx hb dL_law_1230 (by decide) ?_
    refine lv_iadd hx hb dL_law_1231 ?_
    refine va_sld hx hb hX hbl hbA hW.2.2 hi1 dL_law_1232 ?_
    refine lv_aload_n hx hb dL_law_1233 rfl (lv_at hl 0 rfl) ?_
    refine lv_iload hx hb dL_law_1234 (lv_at hl 4 rfl) ?_
    refine lv_iconst (v := 2) hx hb dL_law_1236 (by decide) ?_
    refine lv_iadd hx hb dL_law_1237 ?_
    refine va_sld hx hb hX hbl hbA hW.2.2 hi2 dL_law_1238 ?_
    refine lv_aload_n hx hb dL_law_1239 rfl (lv_at hl 3 rfl) ?_
    refine l_wrap (n := 4) C0 hW (wL_left_0 l hfl D T A ad hok (oc_X11 T am M ++ []) ao g K (xs (x4 + 1).toNatClampNeg) (xs (x4 + 2).toNatClampNeg) r K9 q1) wm23_20 wm23_21 wm9_22 wm23_22 ⟨by decide +kernel, by decide +kernel, by decide +kernel⟩ ⟨by decide, by decide⟩ hc1 hs1 rfl hl.1 rfl (Nat.le_of_ble_eq_true rfl) dL_law_1240 (fun H locs hW => ?_)
    refine lv_istore (lv' := [(5, .int 0), (0, .ref b), (1, .ref (ad 0 0)), (2, .ref (am 0)), (3, .ref ao), (4, .int x4)]) hx hb dL_law_1243 hl (by decide) rfl (fun ls hl => ?_)
    refine lv_aload_n hx hb dL_law_1245 rfl (lv_at hl 3 rfl) ?_
    refine lv_aload_n hx hb dL_law_1246 rfl (lv_at hl 1 rfl) ?_
    refine lv_iload hx hb dL_law_1247 (lv_at hl 5 rfl) ?_
    refine lv_iconst (v := 1) hx hb dL_law_1249 (by decide) ?_
    refine lv_iadd hx hb dL_law_1250 ?_
    refine va_sld hx hb hX hbl hbA hW.2.2 hi1 dL_law_1251 ?_
    refine lv_aload_n hx hb dL_law_1252 rfl (lv_at hl 1 rfl) ?_
    refine lv_iload hx hb dL_law_1253 (lv_at hl 5 rfl) ?_
    refine lv_iconst (v := 2) hx hb dL_law_1255 (by decide) ?_
    refine lv_iadd hx hb dL_law_1256 ?_
    refine va_sld hx hb hX hbl hbA hW.2.2 hi2 dL_law_1257 ?_
    have hW := hW.perm pf3
    refine l_mod (As := [.int (xs (x4 + 1).toNatClampNeg), .int (xs (x4 + 2).toNatClampNeg)]) C0 hW (g_cw (n := 2) hts wm25_23 wm26_0 wm26_1 wm1_5 wm26_2 ⟨rfl, by decide +kernel, by decide +kernel, by decide +kernel⟩ ⟨rfl, rfl⟩ ⟨by decide, by decide⟩) rfl (c_X11_left l D T A am (outc T ao (vp_updL g 0 r.toInt64) ++ (oc_X10 T (ad 0) (bb ad) (K9 0) ++ (wkL T ad K9 L18 ++ []))) M (xs (x4 + 1).toNatClampNeg) (xs (x4 + 2).toNatClampNeg) r M9 q2) rfl hl.1 rfl (Nat.le_of_ble_eq_true rfl) dL_law_1258 (by omega) (by omega) (fun H locs hW => ?_)
    have hW := hW.perm pf3.symm
    refine lv_istore (lv' := [(6, .int r), (5, .int 0), (0, .ref b), (1, .ref (ad 0 0)), (2, .ref (am 0)), (3, .ref ao), (4, .int x4)]) hx hb dL_law_1261 hl (by decide) rfl (fun ls hl => ?_)
    refine lv_aload_n hx hb dL_law_1263 rfl (lv_at hl 4 rfl) ?_
    have hW := hW.perm pf3
    refine l_mod (As := []) C0 hW (g_cw (n := 0) hts wm11_13 wm11_14 wm11_15 wm1_5 wm11_16 ⟨rfl, by decide +kernel, by decide +kernel, by decide +kernel⟩ ⟨rfl, rfl⟩ ⟨by decide, by decide⟩) rfl (c_X11_thrown l D T A am (outc T ao (vp_updL g 0 r.toInt64) ++ (oc_X10 T (ad 0) (bb ad) (K9 0) ++ (wkL T ad K9 L18 ++ []))) M9 0 q3) rfl hl.1 rfl (Nat.le_of_ble_eq_true rfl) dL_law_1264 (by omega) (by omega) (fun H locs hW => ?_)
    have hW := hW.perm pf3.symm
    refine lv_iload hx hb dL_law_1267 (lv_at hl 1 rfl) ?_
    refine lv_icmp_eq (tgt := 1274) hx hb dL_law_1269 (by decide) (fun _ => ?_) (fun c9 => absurd rfl c9)
    refine lv_iload hx hb dL_law_1274 (lv_at hl 1 rfl) ?_
    refine lv_if_ne (tgt := 1291) hx hb dL_law_1276 (by decide) (fun c9 => absurd rfl c9) (fun _ => ?_)
    refine lv_aload_n hx hb dL_law_1279 rfl (lv_at hl 5 rfl) ?_
    refine lv_iconst (v := 0) hx hb dL_law_1280 (by decide) ?_
    refine va_lald hx hb hK hW.1 0 3 rfl rfl (gd_in (by decide)) dL_law_1281 ?_
    rw [show (vp_updL g 0 r.toInt64) (0 : Int32).toNatClampNeg = r.toInt64 from rfl]
    refine lv_iload hx hb dL_law_1282 (lv_at hl 0 rfl) ?_
    refine lv_i2l (v := r.toInt64) hx hb dL_law_1284 rfl ?_
    refine W.lcmp hx hb dL_law_1285 ?_
    rw [lg_cmp_self]
    refine lv_if_eq (tgt := 1291) hx hb dL_law_1286 (by decide) (fun _ => ?_) (fun c9 => absurd rfl c9)
    refine lv_goto (tgt := 2470) hx hb dL_law_1291 (by decide) ?_
    exact kk K9 M9 (vp_updL g 0 r.toInt64) H locs ls hRI hW (lv_sub hl [2, 3, 4, 5, 6] rfl)
  · refine lv_aload_n hx hb dL_law_1226 rfl (lv_at hl 1 rfl) ?_
    refine lv_aload_n hx hb dL_law_1227 rfl (lv_at hl 0 rfl) ?_
    refine lv_iload hx hb dL_law_1228 (lv_at hl 4 rfl) ?_
    refine lv_iconst (v := 1) hx hb dL_law_1230 (by decide) ?_
    refine lv_iadd hx hb dL_law_1231 ?_
    refine va_sld hx hb hX hbl hbA hW.2.2 hi1 dL_law_1232 ?_
    refine lv_aload_n hx hb dL_law_1233 rfl (lv_at hl 0 rfl) ?_
    refine lv_iload hx hb dL_law_1234 (lv_at hl 4 rfl) ?_
    refine lv_iconst (v := 2) hx hb dL_law_1236 (by decide) ?_
    refine lv_iadd hx hb dL_law_1237 ?_
    refine va_sld hx hb hX hbl hbA hW.2.2 hi2 dL_law_1238 ?_
    refine lv_aload_n hx hb dL_law_1239 rfl (lv_at hl 3 rfl) ?_
    refine l_wrap (n := 4) C0 hW (wL_left_1 l hfl D T A ad hok (oc_X11 T am M ++ []) ao g K (xs (x4 + 1).toNatClampNeg) (xs (x4 + 2).toNatClampNeg) r K9 q1) wm23_20 wm23_21 wm9_22 wm23_22 ⟨by decide +kernel, by decide +kernel, by decide +kernel⟩ ⟨by decide, by decide⟩ hc1 hs1 rfl hl.1 rfl (Nat.le_of_ble_eq_true rfl) dL_law_1240 (fun H locs hW => ?_)
    refine lv_istore (lv' := [(5, .int 1), (0, .ref b), (1, .ref (ad 0 0)), (2, .ref (am 0)), (3, .ref ao), (4, .int x4)]) hx hb dL_law_1243 hl (by decide) rfl (fun ls hl => ?_)
    refine lv_aload_n hx hb dL_law_1245 rfl (lv_at hl 3 rfl) ?_
    refine lv_aload_n hx hb dL_law_1246 rfl (lv_at hl 1 rfl) ?_
    refine lv_iload hx hb dL_law_1247 (lv_at hl 5 rfl) ?_
    refine lv_iconst (v := 1) hx hb dL_law_1249 (by decide) ?_
    refine lv_iadd hx hb dL_law_1250 ?_
    refine va_sld hx hb hX hbl hbA hW.2.2 hi1 dL_law_1251 ?_
    refine lv_aload_n hx hb dL_law_1252 rfl (lv_at hl 1 rfl) ?_
    refine lv_iload hx hb dL_law_1253 (lv_at hl 5 rfl) ?_
    refine lv_iconst (v := 2) hx hb dL_law_1255 (by decide) ?_
    refine lv_iadd hx hb dL_law_1256 ?_
    refine va_sld hx hb hX hbl hbA hW.2.2 hi2 dL_law_1257 ?_
    have hW := hW.perm pf3
    refine l_mod (As := [.int (xs (x4 + 1).toNatClampNeg), .int (xs (x4 + 2).toNatClampNeg)]) C0 hW (g_cw (n := 2) hts wm25_23 wm26_0 wm26_1 wm1_5 wm26_2 ⟨rfl, by decide +kernel, by decide +kernel, by decide +kernel⟩ ⟨rfl, rfl⟩ ⟨by decide, by decide⟩) rfl (c_X11_left l D T A am (outc T ao g ++ (oc_X10 T (ad 0) (bb ad) (K9 0) ++ (wkL T ad K9 L18 ++ []))) M (xs (x4 + 1).toNatClampNeg) (xs (x4 + 2).toNatClampNeg) b9 M9 q2) rfl hl.1 rfl (Nat.le_of_ble_eq_true rfl) dL_law_1258 (by omega) (by omega) (fun H locs hW => ?_)
    have hW := hW.perm pf3.symm
    refine lv_istore (lv' := [(6, .int b9), (5, .int 1), (0, .ref b), (1, .ref (ad 0 0)), (2, .ref (am 0)), (3, .ref ao), (4, .int x4)]) hx hb dL_law_1261 hl (by decide) rfl (fun ls hl => ?_)
    refine lv_aload_n hx hb dL_law_1263 rfl (lv_at hl 4 rfl) ?_
    have hW := hW.perm pf3
    refine l_mod (As := []) C0 hW (g_cw (n := 0) hts wm11_13 wm11_14 wm11_15 wm1_5 wm11_16 ⟨rfl, by decide +kernel, by decide +kernel, by decide +kernel⟩ ⟨rfl, rfl⟩ ⟨by decide, by decide⟩) rfl (c_X11_thrown l D T A am (outc T ao g ++ (oc_X10 T (ad 0) (bb ad) (K9 0) ++ (wkL T ad K9 L18 ++ []))) M9 1 q3) rfl hl.1 rfl (Nat.le_of_ble_eq_true rfl) dL_law_1264 (by omega) (by omega) (fun H locs hW => ?_)
    have hW := hW.perm pf3.symm
    refine lv_iload hx hb dL_law_1267 (lv_at hl 1 rfl) ?_
    refine lv_icmp_eq (tgt := 1274) hx hb dL_law_1269 (by decide) (fun _ => ?_) (fun c9 => absurd rfl c9)
    refine lv_iload hx hb dL_law_1274 (lv_at hl 1 rfl) ?_
    refine lv_if_ne (tgt := 1291) hx hb dL_law_1276 (by decide) (fun _ => ?_) (fun c9 => absurd c9 (by decide))
    refine lv_goto (tgt := 2470) hx hb dL_law_1291 (by decide) ?_
    exact kk K9 M9 g H locs ls hRI hW (lv_sub hl [2, 3, 4, 5, 6] rfl)
set_option maxHeartbeats 4000000 in
set_option maxRecDepth 100000 in
theorem law_referent {RI : Nat → (Nat → Ob) → Ob → Prop} {j i : Nat} {x4 : Int32} {K : Nat → Ob} {M : Ob} {g : Nat → Int64} {H : Heap} {locs : List Loc} {cells slots : Nat} {ls : Array Slot} (C0 : LC p l s m c D T A b L xs ad) (hop : Op_referent RI j K M (xs (x4 + 1).toNatClampNeg) (xs (x4 + 2).toNatClampNeg)) (hi : i + 6 < L) (ex4 : x4 = nI i) (hc1 : cells ≤ 2000) (hs1 : slots ≤ 400000) (hW : Wd D A s.heap (lw T ad am ao K M g) H locs) (hl : lv_has ls 7 [(0, .ref b), (1, .ref (ad 0 0)), (2, .ref (am 0)), (3, .ref ao), (4, .int x4)])
    (kk : ∀ (K9 : Nat → Ob) (M9 : Ob) (g9 : Nat → Int64) (H : Heap) (locs : List Loc) (ls : Array Slot), RI (j + 1) K9 M9 → Wd D A s.heap (lw T ad am ao K9 M9 g9) H locs → lv_has ls 7 [(0, .ref b), (1, .ref (ad 0 0)), (2, .ref (am 0)), (3, .ref ao), (4, .int x4)] → LW p l e s m b below meth c H locs (cells + 1) (slots + 6) Q (F0 m 2470 ls [])) : LW p l e s m b below meth c H locs cells slots Q (F0 m 1294 ls []) := by
  obtain ⟨hx, hb, hml, hown, hts, hX, hbl, hbA, hL, hK, hN, hE, hC, hok, hfl⟩ := id C0
  have hi1 : vp_in (x4 + 1) L := by rw [ex4, show (1 : Int32) = nI 1 from rfl, nI_add]; exact vp_in_nI (by omega) (by omega)
  have hi2 : vp_in (x4 + 2) L := by rw [ex4, show (2 : Int32) = nI 2 from rfl, nI_add]; exact vp_in_nI (by omega) (by omega)
  unfold lw at hW
  obtain ⟨k, r, K9, b9, M9, t, q1, q2, q3, hd, hRI⟩ := hop
  rcases hd with ⟨rfl, rfl, rfl⟩ | ⟨rfl, rfl⟩
  · refine lv_aload_n hx hb dL_law_1294 rfl (lv_at hl 1 rfl) ?_
    refine lv_aload_n hx hb dL_law_1295 rfl (lv_at hl 0 rfl) ?_
    refine lv_iload hx hb dL_law_1296 (lv_at hl 4 rfl) ?_
    refine lv_iconst (v := 1) hx hb dL_law_1298 (by decide) ?_
    refine lv_iadd hx hb dL_law_1299 ?_
    refine va_sld hx hb hX hbl hbA hW.2.2 hi1 dL_law_1300 ?_
    refine lv_aload_n hx hb dL_law_1301 rfl (lv_at hl 0 rfl) ?_
    refine lv_iload hx hb dL_law_1302 (lv_at hl 4 rfl) ?_
    refine lv_iconst (v := 2) hx hb dL_law_1304 (by decide) ?_
    refine lv_iadd hx hb dL_law_1305 ?_
    refine va_sld hx hb hX hbl hbA hW.2.2 hi2 dL_law_1306 ?_
    refine lv_aload_n hx hb dL_law_1307 rfl (lv_at hl 3 rfl) ?_
    refine l_wrap (n := 4) C0 hW (wL_referent_0 l hfl D T A ad hok (oc_X11 T am M ++ []) ao g K (xs (x4 + 1).toNatClampNeg) (xs (x4 + 2).toNatClampNeg) r K9 q1) wm27_11 wm27_12 wm9_22 wm27_13 ⟨by decide +kernel, by decide +kernel, by decide +kernel⟩ ⟨by decide, by decide⟩ hc1 hs1 rfl hl.1 rfl (Nat.le_of_ble_eq_true rfl) dL_law_1308 (fun H locs hW => ?_)
    refine lv_istore (lv' := [(5, .int 0), (0, .ref b), (1, .ref (ad 0 0)), (2, .ref (am 0)), (3, .ref ao), (4, .int x4)]) hx hb dL_law_1311 hl (by decide) rfl (fun ls hl => ?_)
    refine lv_aload_n hx hb dL_law_1313 rfl (lv_at hl 3 rfl) ?_
    refine lv_aload_n hx hb dL_law_1314 rfl (lv_at hl 1 rfl) ?_
    refine lv_iload hx hb dL_law_1315 (lv_at hl 5 rfl) ?_
    refine lv_iconst (v := 1) hx hb dL_law_1317 (by decide) ?_
    refine lv_iadd hx hb dL_law_1318 ?_
    refine va_sld hx hb hX hbl hbA hW.2.2 hi1 dL_law_1319 ?_
    refine lv_aload_n hx hb dL_law_1320 rfl (lv_at hl 1 rfl) ?_
    refine lv_iload hx hb dL_law_1321 (lv_at hl 5 rfl) ?_
    refine lv_iconst (v := 2) hx hb dL_law_1323 (by decide) ?_
    refine lv_iadd hx hb dL_law_1324 ?_
    refine va_sld hx hb hX hbl hbA hW.2.2 hi2 dL_law_1325 ?_
    have hW := hW.perm pf3
    refine l_mod (As := [.int (xs (x4 + 1).toNatClampNeg), .int (xs (x4 + 2).toNatClampNeg)]) C0 hW (g_cw (n := 2) hts wm29_0 wm29_1 wm29_2 wm1_5 wm29_3 ⟨rfl, by decide +kernel, by decide +kernel, by decide +kernel⟩ ⟨rfl, rfl⟩ ⟨by decide, by decide⟩) rfl (c_X11_referent l D T A am (outc T ao (vp_updL g 0 r.toInt64) ++ (oc_X10 T (ad 0) (bb ad) (K9 0) ++ (wkL T ad K9 L18 ++ []))) M (xs (x4 + 1).toNatClampNeg) (xs (x4 + 2).toNatClampNeg) r M9 q2) rfl hl.1 rfl (Nat.le_of_ble_eq_true rfl) dL_law_1326 (by omega) (by omega) (fun H locs hW => ?_)
    have hW := hW.perm pf3.symm
    refine lv_istore (lv' := [(6, .int r), (5, .int 0), (0, .ref b), (1, .ref (ad 0 0)), (2, .ref (am 0)), (3, .ref ao), (4, .int x4)]) hx hb dL_law_1329 hl (by decide) rfl (fun ls hl => ?_)
    refine lv_aload_n hx hb dL_law_1331 rfl (lv_at hl 4 rfl) ?_
    have hW := hW.perm pf3
    refine l_mod (As := []) C0 hW (g_cw (n := 0) hts wm11_13 wm11_14 wm11_15 wm1_5 wm11_16 ⟨rfl, by decide +kernel, by decide +kernel, by decide +kernel⟩ ⟨rfl, rfl⟩ ⟨by decide, by decide⟩) rfl (c_X11_thrown l D T A am (outc T ao (vp_updL g 0 r.toInt64) ++ (oc_X10 T (ad 0) (bb ad) (K9 0) ++ (wkL T ad K9 L18 ++ []))) M9 0 q3) rfl hl.1 rfl (Nat.le_of_ble_eq_true rfl) dL_law_1332 (by omega) (by omega) (fun H locs hW => ?_)
    have hW := hW.perm pf3.symm
    refine lv_iload hx hb dL_law_1335 (lv_at hl 1 rfl) ?_
    refine lv_icmp_eq (tgt := 1342) hx hb dL_law_1337 (by decide) (fun _ => ?_) (fun c9 => absurd rfl c9)
    refine lv_iload hx hb dL_law_1342 (lv_at hl 1 rfl) ?_
    refine lv_if_ne (tgt := 1359) hx hb dL_law_1344 (by decide) (fun c9 => absurd rfl c9) (fun _ => ?_)
    refine lv_aload_n hx hb dL_law_1347 rfl (lv_at hl 5 rfl) ?_
    refine lv_iconst (v := 0) hx hb dL_law_1348 (by decide) ?_
    refine va_lald hx hb hK hW.1 0 3 rfl rfl (gd_in (by decide)) dL_law_1349 ?_
    rw [show (vp_updL g 0 r.toInt64) (0 : Int32).toNatClampNeg = r.toInt64 from rfl]
    refine lv_iload hx hb dL_law_1350 (lv_at hl 0 rfl) ?_
    refine lv_i2l (v := r.toInt64) hx hb dL_law_1352 rfl ?_
    refine W.lcmp hx hb dL_law_1353 ?_
    rw [lg_cmp_self]
    refine lv_if_eq (tgt := 1359) hx hb dL_law_1354 (by decide) (fun _ => ?_) (fun c9 => absurd rfl c9)
    refine lv_goto (tgt := 2470) hx hb dL_law_1359 (by decide) ?_
    exact kk K9 M9 (vp_updL g 0 r.toInt64) H locs ls hRI hW (lv_sub hl [2, 3, 4, 5, 6] rfl)
  · refine lv_aload_n hx hb dL_law_1294 rfl (lv_at hl 1 rfl) ?_
    refine lv_aload_n hx hb dL_law_1295 rfl (lv_at hl 0 rfl) ?_
    refine lv_iload hx hb dL_law_1296 (lv_at hl 4 rfl) ?_
    refine lv_iconst (v := 1) hx hb dL_law_1298 (by decide) ?_
    refine lv_iadd hx hb dL_law_1299 ?_
    refine va_sld hx hb hX hbl hbA hW.2.2 hi1 dL_law_1300 ?_
    refine lv_aload_n hx hb dL_law_1301 rfl (lv_at hl 0 rfl) ?_
    refine lv_iload hx hb dL_law_1302 (lv_at hl 4 rfl) ?_
    refine lv_iconst (v := 2) hx hb dL_law_1304 (by decide) ?_
    refine lv_iadd hx hb dL_law_1305 ?_
    refine va_sld hx hb hX hbl hbA hW.2.2 hi2 dL_law_1306 ?_
    refine lv_aload_n hx hb dL_law_1307 rfl (lv_at hl 3 rfl) ?_
    refine l_wrap (n := 4) C0 hW (wL_referent_1 l hfl D T A ad hok (oc_X11 T am M ++ []) ao g K (xs (x4 + 1).toNatClampNeg) (xs (x4 + 2).toNatClampNeg) r K9 q1) wm27_11 wm27_12 wm9_22 wm27_13 ⟨by decide +kernel, by decide +kernel, by decide +kernel⟩ ⟨by decide, by decide⟩ hc1 hs1 rfl hl.1 rfl (Nat.le_of_ble_eq_true rfl) dL_law_1308 (fun H locs hW => ?_)
    refine lv_istore (lv' := [(5, .int 1), (0, .ref b), (1, .ref (ad 0 0)), (2, .ref (am 0)), (3, .ref ao), (4, .int x4)]) hx hb dL_law_1311 hl (by decide) rfl (fun ls hl => ?_)
    refine lv_aload_n hx hb dL_law_1313 rfl (lv_at hl 3 rfl) ?_
    refine lv_aload_n hx hb dL_law_1314 rfl (lv_at hl 1 rfl) ?_
    refine lv_iload hx hb dL_law_1315 (lv_at hl 5 rfl) ?_
    refine lv_iconst (v := 1) hx hb dL_law_1317 (by decide) ?_
    refine lv_iadd hx hb dL_law_1318 ?_
    refine va_sld hx hb hX hbl hbA hW.2.2 hi1 dL_law_1319 ?_
    refine lv_aload_n hx hb dL_law_1320 rfl (lv_at hl 1 rfl) ?_
    refine lv_iload hx hb dL_law_1321 (lv_at hl 5 rfl) ?_
    refine lv_iconst (v := 2) hx hb dL_law_1323 (by decide) ?_
    refine lv_iadd hx hb dL_law_1324 ?_
    refine va_sld hx hb hX hbl hbA hW.2.2 hi2 dL_law_1325 ?_
    have hW := hW.perm pf3
    refine l_mod (As := [.int (xs (x4 + 1).toNatClampNeg), .int (xs (x4 + 2).toNatClampNeg)]) C0 hW (g_cw (n := 2) hts wm29_0 wm29_1 wm29_2 wm1_5 wm29_3 ⟨rfl, by decide +kernel, by decide +kernel, by decide +kernel⟩ ⟨rfl, rfl⟩ ⟨by decide, by decide⟩) rfl (c_X11_referent l D T A am (outc T ao g ++ (oc_X10 T (ad 0) (bb ad) (K9 0) ++ (wkL T ad K9 L18 ++ []))) M (xs (x4 + 1).toNatClampNeg) (xs (x4 + 2).toNatClampNeg) b9 M9 q2) rfl hl.1 rfl (Nat.le_of_ble_eq_true rfl) dL_law_1326 (by omega) (by omega) (fun H locs hW => ?_)
    have hW := hW.perm pf3.symm
    refine lv_istore (lv' := [(6, .int b9), (5, .int 1), (0, .ref b), (1, .ref (ad 0 0)), (2, .ref (am 0)), (3, .ref ao), (4, .int x4)]) hx hb dL_law_1329 hl (by decide) rfl (fun ls hl => ?_)
    refine lv_aload_n hx hb dL_law_1331 rfl (lv_at hl 4 rfl) ?_
    have hW := hW.perm pf3
    refine l_mod (As := []) C0 hW (g_cw (n := 0) hts wm11_13 wm11_14 wm11_15 wm1_5 wm11_16 ⟨rfl, by decide +kernel, by decide +kernel, by decide +kernel⟩ ⟨rfl, rfl⟩ ⟨by decide, by decide⟩) rfl (c_X11_thrown l D T A am (outc T ao g ++ (oc_X10 T (ad 0) (bb ad) (K9 0) ++ (wkL T ad K9 L18 ++ []))) M9 1 q3) rfl hl.1 rfl (Nat.le_of_ble_eq_true rfl) dL_law_1332 (by omega) (by omega) (fun H locs hW => ?_)
    have hW := hW.perm pf3.symm
    refine lv_iload hx hb dL_law_1335 (lv_at hl 1 rfl) ?_
    refine lv_icmp_eq (tgt := 1342) hx hb dL_law_1337 (by decide) (fun _ => ?_) (fun c9 => absurd rfl c9)
    refine lv_iload hx hb dL_law_1342 (lv_at hl 1 rfl) ?_
    refine lv_if_ne (tgt := 1359) hx hb dL_law_1344 (by decide) (fun _ => ?_) (fun c9 => absurd c9 (by decide))
    refine lv_goto (tgt := 2470) hx hb dL_law_1359 (by decide) ?_
    exact kk K9 M9 g H locs ls hRI hW (lv_sub hl [2, 3, 4, 5, 6] rfl)
set_option maxHeartbeats 4000000 in
set_option maxRecDepth 100000 in
theorem law_edges {RI : Nat → (Nat → Ob) → Ob → Prop} {j i : Nat} {x4 : Int32} {K : Nat → Ob} {M : Ob} {g : Nat → Int64} {H : Heap} {locs : List Loc} {cells slots : Nat} {ls : Array Slot} (C0 : LC p l s m c D T A b L xs ad) (hop : Op_edges RI j K M (xs (x4 + 1).toNatClampNeg) (xs (x4 + 2).toNatClampNeg) (xs (x4 + 3).toNatClampNeg)) (hi : i + 6 < L) (ex4 : x4 = nI i) (hc1 : cells ≤ 2000) (hs1 : slots ≤ 400000) (hW : Wd D A s.heap (lw T ad am ao K M g) H locs) (hl : lv_has ls 7 [(0, .ref b), (1, .ref (ad 0 0)), (2, .ref (am 0)), (3, .ref ao), (4, .int x4)])
    (kk : ∀ (K9 : Nat → Ob) (M9 : Ob) (g9 : Nat → Int64) (H : Heap) (locs : List Loc) (ls : Array Slot), RI (j + 1) K9 M9 → Wd D A s.heap (lw T ad am ao K9 M9 g9) H locs → lv_has ls 7 [(0, .ref b), (1, .ref (ad 0 0)), (2, .ref (am 0)), (3, .ref ao), (4, .int x4)] → LW p l e s m b below meth c H locs (cells + 1) (slots + 6) Q (F0 m 2470 ls [])) : LW p l e s m b below meth c H locs cells slots Q (F0 m 1362 ls []) := by
  obtain ⟨hx, hb, hml, hown, hts, hX, hbl, hbA, hL, hK, hN, hE, hC, hok, hfl⟩ := id C0
  have hi1 : vp_in (x4 + 1) L := by rw [ex4, show (1 : Int32) = nI 1 from rfl, nI_add]; exact vp_in_nI (by omega) (by omega)
  have hi2 : vp_in (x4 + 2) L := by rw [ex4, show (2 : Int32) = nI 2 from rfl, nI_add]; exact vp_in_nI (by omega) (by omega)
  have hi3 : vp_in (x4 + 3) L := by rw [ex4, show (3 : Int32) = nI 3 from rfl, nI_add]; exact vp_in_nI (by omega) (by omega)
  unfold lw at hW
  obtain ⟨k, r, K9, b9, M9, t, q1, q2, q3, hd, hRI⟩ := hop
  rcases hd with ⟨rfl, rfl, rfl⟩ | ⟨rfl, rfl⟩
  · refine lv_aload_n hx hb dL_law_1362 rfl (lv_at hl 1 rfl) ?_
    refine lv_aload_n hx hb dL_law_1363 rfl (lv_at hl 0 rfl) ?_
    refine lv_iload hx hb dL_law_1364 (lv_at hl 4 rfl) ?_
    refine lv_iconst (v := 1) hx hb dL_law_1366 (by decide) ?_
    refine lv_iadd hx hb dL_law_1367 ?_
    refine va_sld hx hb hX hbl hbA hW.2.2 hi1 dL_law_1368 ?_
    refine lv_aload_n hx hb dL_law_1369 rfl (lv_at hl 0 rfl) ?_
    refine lv_iload hx hb dL_law_1370 (lv_at hl 4 rfl) ?_
    refine lv_iconst (v := 2) hx hb dL_law_1372 (by decide) ?_
    refine lv_iadd hx hb dL_law_1373 ?_
    refine va_sld hx hb hX hbl hbA hW.2.2 hi2 dL_law_1374 ?_
    refine lv_aload_n hx hb dL_law_1375 rfl (lv_at hl 0 rfl) ?_
    refine lv_iload hx hb dL_law_1376 (lv_at hl 4 rfl) ?_
    refine lv_iconst (v := 3) hx hb dL_law_1378 (by decide) ?_
    refine lv_iadd hx hb dL_law_1379 ?_
    refine va_sld hx hb hX hbl hbA hW.2.2 hi3 dL_law_1380 ?_
    refine lv_aload_n hx hb dL_law_1381 rfl (lv_at hl 3 rfl) ?_
    refine l_wrap (n := 5) C0 hW (wL_edges_0 l hfl D T A ad hok (oc_X11 T am M ++ []) ao g K (xs (x4 + 1).toNatClampNeg) (xs (x4 + 2).toNatClampNeg) (xs (x4 + 3).toNatClampNeg) r K9 q1) wm29_4 wm29_5 wm9_22 wm29_6 ⟨by decide +kernel, by decide +kernel, by decide +kernel⟩ ⟨by decide, by decide⟩ hc1 hs1 rfl hl.1 rfl (Nat.le_of_ble_eq_true rfl) dL_law_1382 (fun H locs hW => ?_)
    refine lv_istore (lv' := [(5, .int 0), (0, .ref b), (1, .ref (ad 0 0)), (2, .ref (am 0)), (3, .ref ao), (4, .int x4)]) hx hb dL_law_1385 hl (by decide) rfl (fun ls hl => ?_)
    refine lv_aload_n hx hb dL_law_1387 rfl (lv_at hl 3 rfl) ?_
    refine lv_aload_n hx hb dL_law_1388 rfl (lv_at hl 1 rfl) ?_
    refine lv_iload hx hb dL_law_1389 (lv_at hl 5 rfl) ?_
    refine lv_iconst (v := 1) hx hb dL_law_1391 (by decide) ?_
    refine lv_iadd hx hb dL_law_1392 ?_
    refine va_sld hx hb hX hbl hbA hW.2.2 hi1 dL_law_1393 ?_
    refine lv_aload_n hx hb dL_law_1394 rfl (lv_at hl 1 rfl) ?_
    refine lv_iload hx hb dL_law_1395 (lv_at hl 5 rfl) ?_
    refine lv_iconst (v := 2) hx hb dL_law_1397 (by decide) ?_
    refine lv_iadd hx hb dL_law_1398 ?_
    refine va_sld hx hb hX hbl hbA hW.2.2 hi2 dL_law_1399 ?_
    refine lv_aload_n hx hb dL_law_1400 rfl (lv_at hl 1 rfl) ?_
    refine lv_iload hx hb dL_law_1401 (lv_at hl 5 rfl) ?_
    refine lv_iconst (v := 3) hx hb dL_law_1403 (by decide) ?_
    refine lv_iadd hx hb dL_law_1404 ?_
    refine va_sld hx hb hX hbl hbA hW.2.2 hi3 dL_law_1405 ?_
    have hW := hW.perm pf3
    refine l_mod (As := [.int (xs (x4 + 1).toNatClampNeg), .int (xs (x4 + 2).toNatClampNeg), .int (xs (x4 + 3).toNatClampNeg)]) C0 hW (g_cw (n := 3) hts wm33_10 wm33_11 wm33_12 wm1_5 wm33_13 ⟨rfl, by decide +kernel, by decide +kernel, by decide +kernel⟩ ⟨rfl, rfl⟩ ⟨by decide, by decide⟩) rfl (c_X11_edges l D T A am (outc T ao (vp_updL g 0 r.toInt64) ++ (oc_X10 T (ad 0) (bb ad) (K9 0) ++ (wkL T ad K9 L18 ++ []))) M (xs (x4 + 1).toNatClampNeg) (xs (x4 + 2).toNatClampNeg) (xs (x4 + 3).toNatClampNeg) r M9 q2) rfl hl.1 rfl (Nat.le_of_ble_eq_true rfl) dL_law_1406 (by omega) (by omega) (fun H locs hW => ?_)
    have hW := hW.perm pf3.symm
    refine lv_istore (lv' := [(6, .int r), (5, .int 0), (0, .ref b), (1, .ref (ad 0 0)), (2, .ref (am 0)), (3, .ref ao), (4, .int x4)]) hx hb dL_law_1409 hl (by decide) rfl (fun ls hl => ?_)
    refine lv_aload_n hx hb dL_law_1411 rfl (lv_at hl 4 rfl) ?_
    have hW := hW.perm pf3
    refine l_mod (As := []) C0 hW (g_cw (n := 0) hts wm11_13 wm11_14 wm11_15 wm1_5 wm11_16 ⟨rfl, by decide +kernel, by decide +kernel, by decide +kernel⟩ ⟨rfl, rfl⟩ ⟨by decide, by decide⟩) rfl (c_X11_thrown l D T A am (outc T ao (vp_updL g 0 r.toInt64) ++ (oc_X10 T (ad 0) (bb ad) (K9 0) ++ (wkL T ad K9 L18 ++ []))) M9 0 q3) rfl hl.1 rfl (Nat.le_of_ble_eq_true rfl) dL_law_1412 (by omega) (by omega) (fun H locs hW => ?_)
    have hW := hW.perm pf3.symm
    refine lv_iload hx hb dL_law_1415 (lv_at hl 1 rfl) ?_
    refine lv_icmp_eq (tgt := 1422) hx hb dL_law_1417 (by decide) (fun _ => ?_) (fun c9 => absurd rfl c9)
    refine lv_iload hx hb dL_law_1422 (lv_at hl 1 rfl) ?_
    refine lv_if_ne (tgt := 1439) hx hb dL_law_1424 (by decide) (fun c9 => absurd rfl c9) (fun _ => ?_)
    refine lv_aload_n hx hb dL_law_1427 rfl (lv_at hl 5 rfl) ?_
    refine lv_iconst (v := 0) hx hb dL_law_1428 (by decide) ?_
    refine va_lald hx hb hK hW.1 0 3 rfl rfl (gd_in (by decide)) dL_law_1429 ?_
    rw [show (vp_updL g 0 r.toInt64) (0 : Int32).toNatClampNeg = r.toInt64 from rfl]
    refine lv_iload hx hb dL_law_1430 (lv_at hl 0 rfl) ?_
    refine lv_i2l (v := r.toInt64) hx hb dL_law_1432 rfl ?_
    refine W.lcmp hx hb dL_law_1433 ?_
    rw [lg_cmp_self]
    refine lv_if_eq (tgt := 1439) hx hb dL_law_1434 (by decide) (fun _ => ?_) (fun c9 => absurd rfl c9)
    refine lv_goto (tgt := 2470) hx hb dL_law_1439 (by decide) ?_
    exact kk K9 M9 (vp_updL g 0 r.toInt64) H locs ls hRI hW (lv_sub hl [2, 3, 4, 5, 6] rfl)
  · refine lv_aload_n hx hb dL_law_1362 rfl (lv_at hl 1 rfl) ?_
    refine lv_aload_n hx hb dL_law_1363 rfl (lv_at hl 0 rfl) ?_
    refine lv_iload hx hb dL_law_1364 (lv_at hl 4 rfl) ?_
    refine lv_iconst (v := 1) hx hb dL_law_1366 (by decide) ?_
    refine lv_iadd hx hb dL_law_1367 ?_
    refine va_sld hx hb hX hbl hbA hW.2.2 hi1 dL_law_1368 ?_
    refine lv_aload_n hx hb dL_law_1369 rfl (lv_at hl 0 rfl) ?_
    refine lv_iload hx hb dL_law_1370 (lv_at hl 4 rfl) ?_
    refine lv_iconst (v := 2) hx hb dL_law_1372 (by decide) ?_
    refine lv_iadd hx hb dL_law_1373 ?_
    refine va_sld hx hb hX hbl hbA hW.2.2 hi2 dL_law_1374 ?_
    refine lv_aload_n hx hb dL_law_1375 rfl (lv_at hl 0 rfl) ?_
    refine lv_iload hx hb dL_law_1376 (lv_at hl 4 rfl) ?_
    refine lv_iconst (v := 3) hx hb dL_law_1378 (by decide) ?_
    refine lv_iadd hx hb dL_law_1379 ?_
    refine va_sld hx hb hX hbl hbA hW.2.2 hi3 dL_law_1380 ?_
    refine lv_aload_n hx hb dL_law_1381 rfl (lv_at hl 3 rfl) ?_
    refine l_wrap (n := 5) C0 hW (wL_edges_1 l hfl D T A ad hok (oc_X11 T am M ++ []) ao g K (xs (x4 + 1).toNatClampNeg) (xs (x4 + 2).toNatClampNeg) (xs (x4 + 3).toNatClampNeg) r K9 q1) wm29_4 wm29_5 wm9_22 wm29_6 ⟨by decide +kernel, by decide +kernel, by decide +kernel⟩ ⟨by decide, by decide⟩ hc1 hs1 rfl hl.1 rfl (Nat.le_of_ble_eq_true rfl) dL_law_1382 (fun H locs hW => ?_)
    refine lv_istore (lv' := [(5, .int 1), (0, .ref b), (1, .ref (ad 0 0)), (2, .ref (am 0)), (3, .ref ao), (4, .int x4)]) hx hb dL_law_1385 hl (by decide) rfl (fun ls hl => ?_)
    refine lv_aload_n hx hb dL_law_1387 rfl (lv_at hl 3 rfl) ?_
    refine lv_aload_n hx hb dL_law_1388 rfl (lv_at hl 1 rfl) ?_
    refine lv_iload hx hb dL_law_1389 (lv_at hl 5 rfl) ?_
    refine lv_iconst (v := 1) hx hb dL_law_1391 (by decide) ?_
    refine lv_iadd hx hb dL_law_1392 ?_
    refine va_sld hx hb hX hbl hbA hW.2.2 hi1 dL_law_1393 ?_
    refine lv_aload_n hx hb dL_law_1394 rfl (lv_at hl 1 rfl) ?_
    refine lv_iload hx hb dL_law_1395 (lv_at hl 5 rfl) ?_
    refine lv_iconst (v := 2) hx hb dL_law_1397 (by decide) ?_
    refine lv_iadd hx hb dL_law_1398 ?_
    refine va_sld hx hb hX hbl hbA hW.2.2 hi2 dL_law_1399 ?_
    refine lv_aload_n hx hb dL_law_1400 rfl (lv_at hl 1 rfl) ?_
    refine lv_iload hx hb dL_law_1401 (lv_at hl 5 rfl) ?_
    refine lv_iconst (v := 3) hx hb dL_law_1403 (by decide) ?_
    refine lv_iadd hx hb dL_law_1404 ?_
    refine va_sld hx hb hX hbl hbA hW.2.2 hi3 dL_law_1405 ?_
    have hW := hW.perm pf3
    refine l_mod (As := [.int (xs (x4 + 1).toNatClampNeg), .int (xs (x4 + 2).toNatClampNeg), .int (xs (x4 + 3).toNatClampNeg)]) C0 hW (g_cw (n := 3) hts wm33_10 wm33_11 wm33_12 wm1_5 wm33_13 ⟨rfl, by decide +kernel, by decide +kernel, by decide +kernel⟩ ⟨rfl, rfl⟩ ⟨by decide, by decide⟩) rfl (c_X11_edges l D T A am (outc T ao g ++ (oc_X10 T (ad 0) (bb ad) (K9 0) ++ (wkL T ad K9 L18 ++ []))) M (xs (x4 + 1).toNatClampNeg) (xs (x4 + 2).toNatClampNeg) (xs (x4 + 3).toNatClampNeg) b9 M9 q2) rfl hl.1 rfl (Nat.le_of_ble_eq_true rfl) dL_law_1406 (by omega) (by omega) (fun H locs hW => ?_)
    have hW := hW.perm pf3.symm
    refine lv_istore (lv' := [(6, .int b9), (5, .int 1), (0, .ref b), (1, .ref (ad 0 0)), (2, .ref (am 0)), (3, .ref ao), (4, .int x4)]) hx hb dL_law_1409 hl (by decide) rfl (fun ls hl => ?_)
    refine lv_aload_n hx hb dL_law_1411 rfl (lv_at hl 4 rfl) ?_
    have hW := hW.perm pf3
    refine l_mod (As := []) C0 hW (g_cw (n := 0) hts wm11_13 wm11_14 wm11_15 wm1_5 wm11_16 ⟨rfl, by decide +kernel, by decide +kernel, by decide +kernel⟩ ⟨rfl, rfl⟩ ⟨by decide, by decide⟩) rfl (c_X11_thrown l D T A am (outc T ao g ++ (oc_X10 T (ad 0) (bb ad) (K9 0) ++ (wkL T ad K9 L18 ++ []))) M9 1 q3) rfl hl.1 rfl (Nat.le_of_ble_eq_true rfl) dL_law_1412 (by omega) (by omega) (fun H locs hW => ?_)
    have hW := hW.perm pf3.symm
    refine lv_iload hx hb dL_law_1415 (lv_at hl 1 rfl) ?_
    refine lv_icmp_eq (tgt := 1422) hx hb dL_law_1417 (by decide) (fun _ => ?_) (fun c9 => absurd rfl c9)
    refine lv_iload hx hb dL_law_1422 (lv_at hl 1 rfl) ?_
    refine lv_if_ne (tgt := 1439) hx hb dL_law_1424 (by decide) (fun _ => ?_) (fun c9 => absurd c9 (by decide))
    refine lv_goto (tgt := 2470) hx hb dL_law_1439 (by decide) ?_
    exact kk K9 M9 g H locs ls hRI hW (lv_sub hl [2, 3, 4, 5, 6] rfl)
set_option maxHeartbeats 4000000 in
set_option maxRecDepth 100000 in
theorem law_edge {RI : Nat → (Nat → Ob) → Ob → Prop} {j i : Nat} {x4 : Int32} {K : Nat → Ob} {M : Ob} {g : Nat → Int64} {H : Heap} {locs : List Loc} {cells slots : Nat} {ls : Array Slot} (C0 : LC p l s m c D T A b L xs ad) (hop : Op_edge RI j K M (xs (x4 + 1).toNatClampNeg) (xs (x4 + 2).toNatClampNeg) (xs (x4 + 3).toNatClampNeg) (xs (x4 + 4).toNatClampNeg)) (hi : i + 6 < L) (ex4 : x4 = nI i) (hc1 : cells ≤ 2000) (hs1 : slots ≤ 400000) (hW : Wd D A s.heap (lw T ad am ao K M g) H locs) (hl : lv_has ls 7 [(0, .ref b), (1, .ref (ad 0 0)), (2, .ref (am 0)), (3, .ref ao), (4, .int x4)])
    (kk : ∀ (K9 : Nat → Ob) (M9 : Ob) (g9 : Nat → Int64) (H : Heap) (locs : List Loc) (ls : Array Slot), RI (j + 1) K9 M9 → Wd D A s.heap (lw T ad am ao K9 M9 g9) H locs → lv_has ls 7 [(0, .ref b), (1, .ref (ad 0 0)), (2, .ref (am 0)), (3, .ref ao), (4, .int x4)] → LW p l e s m b below meth c H locs (cells + 1) (slots + 6) Q (F0 m 2470 ls [])) : LW p l e s m b below meth c H locs cells slots Q (F0 m 1442 ls []) := by
  obtain ⟨hx, hb, hml, hown, hts, hX, hbl, hbA, hL, hK, hN, hE, hC, hok, hfl⟩ := id C0
  have hi1 : vp_in (x4 + 1) L := by rw [ex4, show (1 : Int32) = nI 1 from rfl, nI_add]; exact vp_in_nI (by omega) (by omega)
  have hi2 : vp_in (x4 + 2) L := by rw [ex4, show (2 : Int32) = nI 2 from rfl, nI_add]; exact vp_in_nI (by omega) (by omega)
  have hi3 : vp_in (x4 + 3) L := by rw [ex4, show (3 : Int32) = nI 3 from rfl, nI_add]; exact vp_in_nI (by omega) (by omega)
  have hi4 : vp_in (x4 + 4) L := by rw [ex4, show (4 : Int32) = nI 4 from rfl, nI_add]; exact vp_in_nI (by omega) (by omega)
  unfold lw at hW
  obtain ⟨k, r, K9, b9, M9, t, q1, q2, q3, hd, hRI⟩ := hop
  rcases hd with ⟨rfl, rfl, rfl⟩ | ⟨rfl, rfl⟩
  · refine lv_aload_n hx hb dL_law_1442 rfl (lv_at hl 1 rfl) ?_
    refine lv_aload_n hx hb dL_law_1443 rfl (lv_at hl 0 rfl) ?_
    refine lv_iload hx hb dL_law_1444 (lv_at hl 4 rfl) ?_
    refine lv_iconst (v := 1) hx hb dL_law_1446 (by decide) ?_
    refine lv_iadd hx hb dL_law_1447 ?_
    refine va_sld hx hb hX hbl hbA hW.2.2 hi1 dL_law_1448 ?_
    refine lv_aload_n hx hb dL_law_1449 rfl (lv_at hl 0 rfl) ?_
    refine lv_iload hx hb dL_law_1450 (lv_at hl 4 rfl) ?_
    refine lv_iconst (v := 2) hx hb dL_law_1452 (by decide) ?_
    refine lv_iadd hx hb dL_law_1453 ?_
    refine va_sld hx hb hX hbl hbA hW.2.2 hi2 dL_law_1454 ?_
    refine lv_aload_n hx hb dL_law_1455 rfl (lv_at hl 0 rfl) ?_
    refine lv_iload hx hb dL_law_1456 (lv_at hl 4 rfl) ?_
    refine lv_iconst (v := 3) hx hb dL_law_1458 (by decide) ?_
    refine lv_iadd hx hb dL_law_1459 ?_
    refine va_sld hx hb hX hbl hbA hW.2.2 hi3 dL_law_1460 ?_
    refine lv_aload_n hx hb dL_law_1461 rfl (lv_at hl 0 rfl) ?_
    refine lv_iload hx hb dL_law_1462 (lv_at hl 4 rfl) ?_
    refine lv_iconst (v := 4) hx hb dL_law_1464 (by decide) ?_
    refine lv_iadd hx hb dL_law_1465 ?_
    refine va_sld hx hb hX hbl hbA hW.2.2 hi4 dL_law_1466 ?_
    refine lv_aload_n hx hb dL_law_1467 rfl (lv_at hl 3 rfl) ?_
    refine l_wrap (n := 6) C0 hW (wL_edge_0 l hfl D T A ad hok (oc_X11 T am M ++ []) ao g K (xs (x4 + 1).toNatClampNeg) (xs (x4 + 2).toNatClampNeg) (xs (x4 + 3).toNatClampNeg) (xs (x4 + 4).toNatClampNeg) r K9 q1) wm35_9 wm35_10 wm9_22 wm35_11 ⟨by decide +kernel, by decide +kernel, by decide +kernel⟩ ⟨by decide, by decide⟩ hc1 hs1 rfl hl.1 rfl (Nat.le_of_ble_eq_true rfl) dL_law_1468 (fun H locs hW => ?_)
    refine lv_istore (lv' := [(5, .int 0), (0, .ref b), (1, .ref (ad 0 0)), (2, .ref (am 0)), (3, .ref ao), (4, .int x4)]) hx hb dL_law_1471 hl (by decide) rfl (fun ls hl => ?_)
    refine lv_aload_n hx hb dL_law_1473 rfl (lv_at hl 3 rfl) ?_
    refine lv_aload_n hx hb dL_law_1474 rfl (lv_at hl 1 rfl) ?_
    refine lv_iload hx hb dL_law_1475 (lv_at hl 5 rfl) ?_
    refine lv_iconst (v := 1) hx hb dL_law_1477 (by decide) ?_
    refine lv_iadd hx hb dL_law_1478 ?_
    refine va_sld hx hb hX hbl hbA hW.2.2 hi1 dL_law_1479 ?_
    refine lv_aload_n hx hb dL_law_1480 rfl (lv_at hl 1 rfl) ?_
    refine lv_iload hx hb dL_law_1481 (lv_at hl 5 rfl) ?_
    refine lv_iconst (v := 2) hx hb dL_law_1483 (by decide) ?_
    refine lv_iadd hx hb dL_law_1484 ?_
    refine va_sld hx hb hX hbl hbA hW.2.2 hi2 dL_law_1485 ?_
    refine lv_aload_n hx hb dL_law_1486 rfl (lv_at hl 1 rfl) ?_
    refine lv_iload hx hb dL_law_1487 (lv_at hl 5 rfl) ?_
    refine lv_iconst (v := 3) hx hb dL_law_1489 (by decide) ?_
    refine lv_iadd hx hb dL_law_1490 ?_
    refine va_sld hx hb hX hbl hbA hW.2.2 hi3 dL_law_1491 ?_
    refine lv_aload_n hx hb dL_law_1492 rfl (lv_at hl 1 rfl) ?_
    refine lv_iload hx hb dL_law_1493 (lv_at hl 5 rfl) ?_
    refine lv_iconst (v := 4) hx hb dL_law_1495 (by decide) ?_
    refine lv_iadd hx hb dL_law_1496 ?_
    refine va_sld hx hb hX hbl hbA hW.2.2 hi4 dL_law_1497 ?_
    have hW := hW.perm pf3
    refine l_mod (As := [.int (xs (x4 + 1).toNatClampNeg), .int (xs (x4 + 2).toNatClampNeg), .int (xs (x4 + 3).toNatClampNeg), .int (xs (x4 + 4).toNatClampNeg)]) C0 hW (g_cw (n := 4) hts wm36_0 wm36_1 wm36_2 wm1_5 wm36_3 ⟨rfl, by decide +kernel, by decide +kernel, by decide +kernel⟩ ⟨rfl, rfl⟩ ⟨by decide, by decide⟩) rfl (c_X11_edge l D T A am (outc T ao (vp_updL g 0 r.toInt64) ++ (oc_X10 T (ad 0) (bb ad) (K9 0) ++ (wkL T ad K9 L18 ++ []))) M (xs (x4 + 1).toNatClampNeg) (xs (x4 + 2).toNatClampNeg) (xs (x4 + 3).toNatClampNeg) (xs (x4 + 4).toNatClampNeg) r M9 q2) rfl hl.1 rfl (Nat.le_of_ble_eq_true rfl) dL_law_1498 (by omega) (by omega) (fun H locs hW => ?_)
    have hW := hW.perm pf3.symm
    refine lv_istore (lv' := [(6, .int r), (5, .int 0), (0, .ref b), (1, .ref (ad 0 0)), (2, .ref (am 0)), (3, .ref ao), (4, .int x4)]) hx hb dL_law_1501 hl (by decide) rfl (fun ls hl => ?_)
    refine lv_aload_n hx hb dL_law_1503 rfl (lv_at hl 4 rfl) ?_
    have hW := hW.perm pf3
    refine l_mod (As := []) C0 hW (g_cw (n := 0) hts wm11_13 wm11_14 wm11_15 wm1_5 wm11_16 ⟨rfl, by decide +kernel, by decide +kernel, by decide +kernel⟩ ⟨rfl, rfl⟩ ⟨by decide, by decide⟩) rfl (c_X11_thrown l D T A am (outc T ao (vp_updL g 0 r.toInt64) ++ (oc_X10 T (ad 0) (bb ad) (K9 0) ++ (wkL T ad K9 L18 ++ []))) M9 0 q3) rfl hl.1 rfl (Nat.le_of_ble_eq_true rfl) dL_law_1504 (by omega) (by omega) (fun H locs hW => ?_)
    have hW := hW.perm pf3.symm
    refine lv_iload hx hb dL_law_1507 (lv_at hl 1 rfl) ?_
    refine lv_icmp_eq (tgt := 1514) hx hb dL_law_1509 (by decide) (fun _ => ?_) (fun c9 => absurd rfl c9)
    refine lv_iload hx hb dL_law_1514 (lv_at hl 1 rfl) ?_
    refine lv_if_ne (tgt := 1531) hx hb dL_law_1516 (by decide) (fun c9 => absurd rfl c9) (fun _ => ?_)
    refine lv_aload_n hx hb dL_law_1519 rfl (lv_at hl 5 rfl) ?_
    refine lv_iconst (v := 0) hx hb dL_law_1520 (by decide) ?_
    refine va_lald hx hb hK hW.1 0 3 rfl rfl (gd_in (by decide)) dL_law_1521 ?_
    rw [show (vp_updL g 0 r.toInt64) (0 : Int32).toNatClampNeg = r.toInt64 from rfl]
    refine lv_iload hx hb dL_law_1522 (lv_at hl 0 rfl) ?_
    refine lv_i2l (v := r.toInt64) hx hb dL_law_1524 rfl ?_
    refine W.lcmp hx hb dL_law_1525 ?_
    rw [lg_cmp_self]
    refine lv_if_eq (tgt := 1531) hx hb dL_law_1526 (by decide) (fun _ => ?_) (fun c9 => absurd rfl c9)
    refine lv_goto (tgt := 2470) hx hb dL_law_1531 (by decide) ?_
    exact kk K9 M9 (vp_updL g 0 r.toInt64) H locs ls hRI hW (lv_sub hl [2, 3, 4, 5, 6] rfl)
  · refine lv_aload_n hx hb dL_law_1442 rfl (lv_at hl 1 rfl) ?_
    refine lv_aload_n hx hb dL_law_1443 rfl (lv_at hl 0 rfl) ?_
    refine lv_iload hx hb dL_law_1444 (lv_at hl 4 rfl) ?_
    refine lv_iconst (v := 1) hx hb dL_law_1446 (by decide) ?_
    refine lv_iadd hx hb dL_law_1447 ?_
    refine va_sld hx hb hX hbl hbA hW.2.2 hi1 dL_law_1448 ?_
    refine lv_aload_n hx hb dL_law_1449 rfl (lv_at hl 0 rfl) ?_
    refine lv_iload hx hb dL_law_1450 (lv_at hl 4 rfl) ?_
    refine lv_iconst (v := 2) hx hb dL_law_1452 (by decide) ?_
    refine lv_iadd hx hb dL_law_1453 ?_
    refine va_sld hx hb hX hbl hbA hW.2.2 hi2 dL_law_1454 ?_
    refine lv_aload_n hx hb dL_law_1455 rfl (lv_at hl 0 rfl) ?_
    refine lv_iload hx hb dL_law_1456 (lv_at hl 4 rfl) ?_
    refine lv_iconst (v := 3) hx hb dL_law_1458 (by decide) ?_
    refine lv_iadd hx hb dL_law_1459 ?_
    refine va_sld hx hb hX hbl hbA hW.2.2 hi3 dL_law_1460 ?_
    refine lv_aload_n hx hb dL_law_1461 rfl (lv_at hl 0 rfl) ?_
    refine lv_iload hx hb dL_law_1462 (lv_at hl 4 rfl) ?_
    refine lv_iconst (v := 4) hx hb dL_law_1464 (by decide) ?_
    refine lv_iadd hx hb dL_law_1465 ?_
    refine va_sld hx hb hX hbl hbA hW.2.2 hi4 dL_law_1466 ?_
    refine lv_aload_n hx hb dL_law_1467 rfl (lv_at hl 3 rfl) ?_
    refine l_wrap (n := 6) C0 hW (wL_edge_1 l hfl D T A ad hok (oc_X11 T am M ++ []) ao g K (xs (x4 + 1).toNatClampNeg) (xs (x4 + 2).toNatClampNeg) (xs (x4 + 3).toNatClampNeg) (xs (x4 + 4).toNatClampNeg) r K9 q1) wm35_9 wm35_10 wm9_22 wm35_11 ⟨by decide +kernel, by decide +kernel, by decide +kernel⟩ ⟨by decide, by decide⟩ hc1 hs1 rfl hl.1 rfl (Nat.le_of_ble_eq_true rfl) dL_law_1468 (fun H locs hW => ?_)
    refine lv_istore (lv' := [(5, .int 1), (0, .ref b), (1, .ref (ad 0 0)), (2, .ref (am 0)), (3, .ref ao), (4, .int x4)]) hx hb dL_law_1471 hl (by decide) rfl (fun ls hl => ?_)
    refine lv_aload_n hx hb dL_law_1473 rfl (lv_at hl 3 rfl) ?_
    refine lv_aload_n hx hb dL_law_1474 rfl (lv_at hl 1 rfl) ?_
    refine lv_iload hx hb dL_law_1475 (lv_at hl 5 rfl) ?_
    refine lv_iconst (v := 1) hx hb dL_law_1477 (by decide) ?_
    refine lv_iadd hx hb dL_law_1478 ?_
    refine va_sld hx hb hX hbl hbA hW.2.2 hi1 dL_law_1479 ?_
    refine lv_aload_n hx hb dL_law_1480 rfl (lv_at hl 1 rfl) ?_
    refine lv_iload hx hb dL_law_1481 (lv_at hl 5 rfl) ?_
    refine lv_iconst (v := 2) hx hb dL_law_1483 (by decide) ?_
    refine lv_iadd hx hb dL_law_1484 ?_
    refine va_sld hx hb hX hbl hbA hW.2.2 hi2 dL_law_1485 ?_
    refine lv_aload_n hx hb dL_law_1486 rfl (lv_at hl 1 rfl) ?_
    refine lv_iload hx hb dL_law_1487 (lv_at hl 5 rfl) ?_
    refine lv_iconst (v := 3) hx hb dL_law_1489 (by decide) ?_
    refine lv_iadd hx hb dL_law_1490 ?_
    refine va_sld hx hb hX hbl hbA hW.2.2 hi3 dL_law_1491 ?_
    refine lv_aload_n hx hb dL_law_1492 rfl (lv_at hl 1 rfl) ?_
    refine lv_iload hx hb dL_law_1493 (lv_at hl 5 rfl) ?_
    refine lv_iconst (v := 4) hx hb dL_law_1495 (by decide) ?_
    refine lv_iadd hx hb dL_law_1496 ?_
    refine va_sld hx hb hX hbl hbA hW.2.2 hi4 dL_law_1497 ?_
    have hW := hW.perm pf3
    refine l_mod (As := [.int (xs (x4 + 1).toNatClampNeg), .int (xs (x4 + 2).toNatClampNeg), .int (xs (x4 + 3).toNatClampNeg), .int (xs (x4 + 4).toNatClampNeg)]) C0 hW (g_cw (n := 4) hts wm36_0 wm36_1 wm36_2 wm1_5 wm36_3 ⟨rfl, by decide +kernel, by decide +kernel, by decide +kernel⟩ ⟨rfl, rfl⟩ ⟨by decide, by decide⟩) rfl (c_X11_edge l D T A am (outc T ao g ++ (oc_X10 T (ad 0) (bb ad) (K9 0) ++ (wkL T ad K9 L18 ++ []))) M (xs (x4 + 1).toNatClampNeg) (xs (x4 + 2).toNatClampNeg) (xs (x4 + 3).toNatClampNeg) (xs (x4 + 4).toNatClampNeg) b9 M9 q2) rfl hl.1 rfl (Nat.le_of_ble_eq_true rfl) dL_law_1498 (by omega) (by omega) (fun H locs hW => ?_)
    have hW := hW.perm pf3.symm
    refine lv_istore (lv' := [(6, .int b9), (5, .int 1), (0, .ref b), (1, .ref (ad 0 0)), (2, .ref (am 0)), (3, .ref ao), (4, .int x4)]) hx hb dL_law_1501 hl (by decide) rfl (fun ls hl => ?_)
    refine lv_aload_n hx hb dL_law_1503 rfl (lv_at hl 4 rfl) ?_
    have hW := hW.perm pf3
    refine l_mod (As := []) C0 hW (g_cw (n := 0) hts wm11_13 wm11_14 wm11_15 wm1_5 wm11_16 ⟨rfl, by decide +kernel, by decide +kernel, by decide +kernel⟩ ⟨rfl, rfl⟩ ⟨by decide, by decide⟩) rfl (c_X11_thrown l D T A am (outc T ao g ++ (oc_X10 T (ad 0) (bb ad) (K9 0) ++ (wkL T ad K9 L18 ++ []))) M9 1 q3) rfl hl.1 rfl (Nat.le_of_ble_eq_true rfl) dL_law_1504 (by omega) (by omega) (fun H locs hW => ?_)
    have hW := hW.perm pf3.symm
    refine lv_iload hx hb dL_law_1507 (lv_at hl 1 rfl) ?_
    refine lv_icmp_eq (tgt := 1514) hx hb dL_law_1509 (by decide) (fun _ => ?_) (fun c9 => absurd rfl c9)
    refine lv_iload hx hb dL_law_1514 (lv_at hl 1 rfl) ?_
    refine lv_if_ne (tgt := 1531) hx hb dL_law_1516 (by decide) (fun _ => ?_) (fun c9 => absurd c9 (by decide))
    refine lv_goto (tgt := 2470) hx hb dL_law_1531 (by decide) ?_
    exact kk K9 M9 g H locs ls hRI hW (lv_sub hl [2, 3, 4, 5, 6] rfl)
set_option maxHeartbeats 4000000 in
set_option maxRecDepth 100000 in
theorem law_edgeCost {RI : Nat → (Nat → Ob) → Ob → Prop} {j i : Nat} {x4 : Int32} {K : Nat → Ob} {M : Ob} {g : Nat → Int64} {H : Heap} {locs : List Loc} {cells slots : Nat} {ls : Array Slot} (C0 : LC p l s m c D T A b L xs ad) (hop : Op_edgeCost RI j K M (xs (x4 + 1).toNatClampNeg) (xs (x4 + 2).toNatClampNeg) (xs (x4 + 3).toNatClampNeg) (xs (x4 + 4).toNatClampNeg)) (hi : i + 6 < L) (ex4 : x4 = nI i) (hc1 : cells ≤ 2000) (hs1 : slots ≤ 400000) (hW : Wd D A s.heap (lw T ad am ao K M g) H locs) (hl : lv_has ls 7 [(0, .ref b), (1, .ref (ad 0 0)), (2, .ref (am 0)), (3, .ref ao), (4, .int x4)])
    (kk : ∀ (K9 : Nat → Ob) (M9 : Ob) (g9 : Nat → Int64) (H : Heap) (locs : List Loc) (ls : Array Slot), RI (j + 1) K9 M9 → Wd D A s.heap (lw T ad am ao K9 M9 g9) H locs → lv_has ls 7 [(0, .ref b), (1, .ref (ad 0 0)), (2, .ref (am 0)), (3, .ref ao), (4, .int x4)] → LW p l e s m b below meth c H locs (cells + 1) (slots + 6) Q (F0 m 2470 ls [])) : LW p l e s m b below meth c H locs cells slots Q (F0 m 1534 ls []) := by
  obtain ⟨hx, hb, hml, hown, hts, hX, hbl, hbA, hL, hK, hN, hE, hC, hok, hfl⟩ := id C0
  have hi1 : vp_in (x4 + 1) L := by rw [ex4, show (1 : Int32) = nI 1 from rfl, nI_add]; exact vp_in_nI (by omega) (by omega)
  have hi2 : vp_in (x4 + 2) L := by rw [ex4, show (2 : Int32) = nI 2 from rfl, nI_add]; exact vp_in_nI (by omega) (by omega)
  have hi3 : vp_in (x4 + 3) L := by rw [ex4, show (3 : Int32) = nI 3 from rfl, nI_add]; exact vp_in_nI (by omega) (by omega)
  have hi4 : vp_in (x4 + 4) L := by rw [ex4, show (4 : Int32) = nI 4 from rfl, nI_add]; exact vp_in_nI (by omega) (by omega)
  unfold lw at hW
  obtain ⟨k, r, K9, b9, M9, t, q1, q2, q3, hd, hRI⟩ := hop
  rcases hd with ⟨rfl, rfl, rfl⟩ | ⟨rfl, rfl⟩
  · refine lv_aload_n hx hb dL_law_1534 rfl (lv_at hl 1 rfl) ?_
    refine lv_aload_n hx hb dL_law_1535 rfl (lv_at hl 0 rfl) ?_
    refine lv_iload hx hb dL_law_1536 (lv_at hl 4 rfl) ?_
    refine lv_iconst (v := 1) hx hb dL_law_1538 (by decide) ?_
    refine lv_iadd hx hb dL_law_1539 ?_
    refine va_sld hx hb hX hbl hbA hW.2.2 hi1 dL_law_1540 ?_
    refine lv_aload_n hx hb dL_law_1541 rfl (lv_at hl 0 rfl) ?_
    refine lv_iload hx hb dL_law_1542 (lv_at hl 4 rfl) ?_
    refine lv_iconst (v := 2) hx hb dL_law_1544 (by decide) ?_
    refine lv_iadd hx hb dL_law_1545 ?_
    refine va_sld hx hb hX hbl hbA hW.2.2 hi2 dL_law_1546 ?_
    refine lv_aload_n hx hb dL_law_1547 rfl (lv_at hl 0 rfl) ?_
    refine lv_iload hx hb dL_law_1548 (lv_at hl 4 rfl) ?_
    refine lv_iconst (v := 3) hx hb dL_law_1550 (by decide) ?_
    refine lv_iadd hx hb dL_law_1551 ?_
    refine va_sld hx hb hX hbl hbA hW.2.2 hi3 dL_law_1552 ?_
    refine lv_aload_n hx hb dL_law_1553 rfl (lv_at hl 0 rfl) ?_
    refine lv_iload hx hb dL_law_1554 (lv_at hl 4 rfl) ?_
    refine lv_iconst (v := 4) hx hb dL_law_1556 (by decide) ?_
    refine lv_iadd hx hb dL_law_1557 ?_
    refine va_sld hx hb hX hbl hbA hW.2.2 hi4 dL_law_1558 ?_
    refine lv_aload_n hx hb dL_law_1559 rfl (lv_at hl 3 rfl) ?_
    refine l_wrap (n := 6) C0 hW (wL_edgeCost_0 l hfl D T A ad hok (oc_X11 T am M ++ []) ao g K (xs (x4 + 1).toNatClampNeg) (xs (x4 + 2).toNatClampNeg) (xs (x4 + 3).toNatClampNeg) (xs (x4 + 4).toNatClampNeg) r K9 q1) wm36_8 wm36_9 wm9_22 wm36_10 ⟨by decide +kernel, by decide +kernel, by decide +kernel⟩ ⟨by decide, by decide⟩ hc1 hs1 rfl hl.1 rfl (Nat.le_of_ble_eq_true rfl) dL_law_1560 (fun H locs hW => ?_)
    refine lv_istore (lv' := [(5, .int 0), (0, .ref b), (1, .ref (ad 0 0)), (2, .ref (am 0)), (3, .ref ao), (4, .int x4)]) hx hb dL_law_1563 hl (by decide) rfl (fun ls hl => ?_)
    refine lv_aload_n hx hb dL_law_1565 rfl (lv_at hl 3 rfl) ?_
    refine lv_aload_n hx hb dL_law_1566 rfl (lv_at hl 1 rfl) ?_
    refine lv_iload hx hb dL_law_1567 (lv_at hl 5 rfl) ?_
    refine lv_iconst (v := 1) hx hb dL_law_1569 (by decide) ?_
    refine lv_iadd hx hb dL_law_1570 ?_
    refine va_sld hx hb hX hbl hbA hW.2.2 hi1 dL_law_1571 ?_
    refine lv_aload_n hx hb dL_law_1572 rfl (lv_at hl 1 rfl) ?_
    refine lv_iload hx hb dL_law_1573 (lv_at hl 5 rfl) ?_
    refine lv_iconst (v := 2) hx hb dL_law_1575 (by decide) ?_
    refine lv_iadd hx hb dL_law_1576 ?_
    refine va_sld hx hb hX hbl hbA hW.2.2 hi2 dL_law_1577 ?_
    refine lv_aload_n hx hb dL_law_1578 rfl (lv_at hl 1 rfl) ?_
    refine lv_iload hx hb dL_law_1579 (lv_at hl 5 rfl) ?_
    refine lv_iconst (v := 3) hx hb dL_law_1581 (by decide) ?_
    refine lv_iadd hx hb dL_law_1582 ?_
    refine va_sld hx hb hX hbl hbA hW.2.2 hi3 dL_law_1583 ?_
    refine lv_aload_n hx hb dL_law_1584 rfl (lv_at hl 1 rfl) ?_
    refine lv_iload hx hb dL_law_1585 (lv_at hl 5 rfl) ?_
    refine lv_iconst (v := 4) hx hb dL_law_1587 (by decide) ?_
    refine lv_iadd hx hb dL_law_1588 ?_
    refine va_sld hx hb hX hbl hbA hW.2.2 hi4 dL_law_1589 ?_
    have hW := hW.perm pf3
    refine l_mod (As := [.int (xs (x4 + 1).toNatClampNeg), .int (xs (x4 + 2).toNatClampNeg), .int (xs (x4 + 3).toNatClampNeg), .int (xs (x4 + 4).toNatClampNeg)]) C0 hW (g_cw (n := 4) hts wm36_16 wm36_17 wm36_18 wm1_5 wm36_19 ⟨rfl, by decide +kernel, by decide +kernel, by decide +kernel⟩ ⟨rfl, rfl⟩ ⟨by decide, by decide⟩) rfl (c_X11_edgeCost l D T A am (outc T ao (vp_updL g 0 r.toInt64) ++ (oc_X10 T (ad 0) (bb ad) (K9 0) ++ (wkL T ad K9 L18 ++ []))) M (xs (x4 + 1).toNatClampNeg) (xs (x4 + 2).toNatClampNeg) (xs (x4 + 3).toNatClampNeg) (xs (x4 + 4).toNatClampNeg) r M9 q2) rfl hl.1 rfl (Nat.le_of_ble_eq_true rfl) dL_law_1590 (by omega) (by omega) (fun H locs hW => ?_)
    have hW := hW.perm pf3.symm
    refine lv_istore (lv' := [(6, .int r), (5, .int 0), (0, .ref b), (1, .ref (ad 0 0)), (2, .ref (am 0)), (3, .ref ao), (4, .int x4)]) hx hb dL_law_1593 hl (by decide) rfl (fun ls hl => ?_)
    refine lv_aload_n hx hb dL_law_1595 rfl (lv_at hl 4 rfl) ?_
    have hW := hW.perm pf3
    refine l_mod (As := []) C0 hW (g_cw (n := 0) hts wm11_13 wm11_14 wm11_15 wm1_5 wm11_16 ⟨rfl, by decide +kernel, by decide +kernel, by decide +kernel⟩ ⟨rfl, rfl⟩ ⟨by decide, by decide⟩) rfl (c_X11_thrown l D T A am (outc T ao (vp_updL g 0 r.toInt64) ++ (oc_X10 T (ad 0) (bb ad) (K9 0) ++ (wkL T ad K9 L18 ++ []))) M9 0 q3) rfl hl.1 rfl (Nat.le_of_ble_eq_true rfl) dL_law_1596 (by omega) (by omega) (fun H locs hW => ?_)
    have hW := hW.perm pf3.symm
    refine lv_iload hx hb dL_law_1599 (lv_at hl 1 rfl) ?_
    refine lv_icmp_eq (tgt := 1606) hx hb dL_law_1601 (by decide) (fun _ => ?_) (fun c9 => absurd rfl c9)
    refine lv_iload hx hb dL_law_1606 (lv_at hl 1 rfl) ?_
    refine lv_if_ne (tgt := 1623) hx hb dL_law_1608 (by decide) (fun c9 => absurd rfl c9) (fun _ => ?_)
    refine lv_aload_n hx hb dL_law_1611 rfl (lv_at hl 5 rfl) ?_
    refine lv_iconst (v := 0) hx hb dL_law_1612 (by decide) ?_
    refine va_lald hx hb hK hW.1 0 3 rfl rfl (gd_in (by decide)) dL_law_1613 ?_
    rw [show (vp_updL g 0 r.toInt64) (0 : Int32).toNatClampNeg = r.toInt64 from rfl]
    refine lv_iload hx hb dL_law_1614 (lv_at hl 0 rfl) ?_
    refine lv_i2l (v := r.toInt64) hx hb dL_law_1616 rfl ?_
    refine W.lcmp hx hb dL_law_1617 ?_
    rw [lg_cmp_self]
    refine lv_if_eq (tgt := 1623) hx hb dL_law_1618 (by decide) (fun _ => ?_) (fun c9 => absurd rfl c9)
    refine lv_goto (tgt := 2470) hx hb dL_law_1623 (by decide) ?_
    exact kk K9 M9 (vp_updL g 0 r.toInt64) H locs ls hRI hW (lv_sub hl [2, 3, 4, 5, 6] rfl)
  · refine lv_aload_n hx hb dL_law_1534 rfl (lv_at hl 1 rfl) ?_
    refine lv_aload_n hx hb dL_law_1535 rfl (lv_at hl 0 rfl) ?_
    refine lv_iload hx hb dL_law_1536 (lv_at hl 4 rfl) ?_
    refine lv_iconst (v := 1) hx hb dL_law_1538 (by decide) ?_
    refine lv_iadd hx hb dL_law_1539 ?_
    refine va_sld hx hb hX hbl hbA hW.2.2 hi1 dL_law_1540 ?_
    refine lv_aload_n hx hb dL_law_1541 rfl (lv_at hl 0 rfl) ?_
    refine lv_iload hx hb dL_law_1542 (lv_at hl 4 rfl) ?_
    refine lv_iconst (v := 2) hx hb dL_law_1544 (by decide) ?_
    refine lv_iadd hx hb dL_law_1545 ?_
    refine va_sld hx hb hX hbl hbA hW.2.2 hi2 dL_law_1546 ?_
    refine lv_aload_n hx hb dL_law_1547 rfl (lv_at hl 0 rfl) ?_
    refine lv_iload hx hb dL_law_1548 (lv_at hl 4 rfl) ?_
    refine lv_iconst (v := 3) hx hb dL_law_1550 (by decide) ?_
    refine lv_iadd hx hb dL_law_1551 ?_
    refine va_sld hx hb hX hbl hbA hW.2.2 hi3 dL_law_1552 ?_
    refine lv_aload_n hx hb dL_law_1553 rfl (lv_at hl 0 rfl) ?_
    refine lv_iload hx hb dL_law_1554 (lv_at hl 4 rfl) ?_
    refine lv_iconst (v := 4) hx hb dL_law_1556 (by decide) ?_
    refine lv_iadd hx hb dL_law_1557 ?_
    refine va_sld hx hb hX hbl hbA hW.2.2 hi4 dL_law_1558 ?_
    refine lv_aload_n hx hb dL_law_1559 rfl (lv_at hl 3 rfl) ?_
    refine l_wrap (n := 6) C0 hW (wL_edgeCost_1 l hfl D T A ad hok (oc_X11 T am M ++ []) ao g K (xs (x4 + 1).toNatClampNeg) (xs (x4 + 2).toNatClampNeg) (xs (x4 + 3).toNatClampNeg) (xs (x4 + 4).toNatClampNeg) r K9 q1) wm36_8 wm36_9 wm9_22 wm36_10 ⟨by decide +kernel, by decide +kernel, by decide +kernel⟩ ⟨by decide, by decide⟩ hc1 hs1 rfl hl.1 rfl (Nat.le_of_ble_eq_true rfl) dL_law_1560 (fun H locs hW => ?_)
    refine lv_istore (lv' := [(5, .int 1), (0, .ref b), (1, .ref (ad 0 0)), (2, .ref (am 0)), (3, .ref ao), (4, .int x4)]) hx hb dL_law_1563 hl (by decide) rfl (fun ls hl => ?_)
    refine lv_aload_n hx hb dL_law_1565 rfl (lv_at hl 3 rfl) ?_
    refine lv_aload_n hx hb dL_law_1566 rfl (lv_at hl 1 rfl) ?_
    refine lv_iload hx hb dL_law_1567 (lv_at hl 5 rfl) ?_
    refine lv_iconst (v := 1) hx hb dL_law_1569 (by decide) ?_
    refine lv_iadd hx hb dL_law_1570 ?_
    refine va_sld hx hb hX hbl hbA hW.2.2 hi1 dL_law_1571 ?_
    refine lv_aload_n hx hb dL_law_1572 rfl (lv_at hl 1 rfl) ?_
    refine lv_iload hx hb dL_law_1573 (lv_at hl 5 rfl) ?_
    refine lv_iconst (v := 2) hx hb dL_law_1575 (by decide) ?_
    refine lv_iadd hx hb dL_law_1576 ?_
    refine va_sld hx hb hX hbl hbA hW.2.2 hi2 dL_law_1577 ?_
    refine lv_aload_n hx hb dL_law_1578 rfl (lv_at hl 1 rfl) ?_
    refine lv_iload hx hb dL_law_1579 (lv_at hl 5 rfl) ?_
    refine lv_iconst (v := 3) hx hb dL_law_1581 (by decide) ?_
    refine lv_iadd hx hb dL_law_1582 ?_
    refine va_sld hx hb hX hbl hbA hW.2.2 hi3 dL_law_1583 ?_
    refine lv_aload_n hx hb dL_law_1584 rfl (lv_at hl 1 rfl) ?_
    refine lv_iload hx hb dL_law_1585 (lv_at hl 5 rfl) ?_
    refine lv_iconst (v := 4) hx hb dL_law_1587 (by decide) ?_
    refine lv_iadd hx hb dL_law_1588 ?_
    refine va_sld hx hb hX hbl hbA hW.2.2 hi4 dL_law_1589 ?_
    have hW := hW.perm pf3
    refine l_mod (As := [.int (xs (x4 + 1).toNatClampNeg), .int (xs (x4 + 2).toNatClampNeg), .int (xs (x4 + 3).toNatClampNeg), .int (xs (x4 + 4).toNatClampNeg)]) C0 hW (g_cw (n := 4) hts wm36_16 wm36_17 wm36_18 wm1_5 wm36_19 ⟨rfl, by decide +kernel, by decide +kernel, by decide +kernel⟩ ⟨rfl, rfl⟩ ⟨by decide, by decide⟩) rfl (c_X11_edgeCost l D T A am (outc T ao g ++ (oc_X10 T (ad 0) (bb ad) (K9 0) ++ (wkL T ad K9 L18 ++ []))) M (xs (x4 + 1).toNatClampNeg) (xs (x4 + 2).toNatClampNeg) (xs (x4 + 3).toNatClampNeg) (xs (x4 + 4).toNatClampNeg) b9 M9 q2) rfl hl.1 rfl (Nat.le_of_ble_eq_true rfl) dL_law_1590 (by omega) (by omega) (fun H locs hW => ?_)
    have hW := hW.perm pf3.symm
    refine lv_istore (lv' := [(6, .int b9), (5, .int 1), (0, .ref b), (1, .ref (ad 0 0)), (2, .ref (am 0)), (3, .ref ao), (4, .int x4)]) hx hb dL_law_1593 hl (by decide) rfl (fun ls hl => ?_)
    refine lv_aload_n hx hb dL_law_1595 rfl (lv_at hl 4 rfl) ?_
    have hW := hW.perm pf3
    refine l_mod (As := []) C0 hW (g_cw (n := 0) hts wm11_13 wm11_14 wm11_15 wm1_5 wm11_16 ⟨rfl, by decide +kernel, by decide +kernel, by decide +kernel⟩ ⟨rfl, rfl⟩ ⟨by decide, by decide⟩) rfl (c_X11_thrown l D T A am (outc T ao g ++ (oc_X10 T (ad 0) (bb ad) (K9 0) ++ (wkL T ad K9 L18 ++ []))) M9 1 q3) rfl hl.1 rfl (Nat.le_of_ble_eq_true rfl) dL_law_1596 (by omega) (by omega) (fun H locs hW => ?_)
    have hW := hW.perm pf3.symm
    refine lv_iload hx hb dL_law_1599 (lv_at hl 1 rfl) ?_
    refine lv_icmp_eq (tgt := 1606) hx hb dL_law_1601 (by decide) (fun _ => ?_) (fun c9 => absurd rfl c9)
    refine lv_iload hx hb dL_law_1606 (lv_at hl 1 rfl) ?_
    refine lv_if_ne (tgt := 1623) hx hb dL_law_1608 (by decide) (fun _ => ?_) (fun c9 => absurd c9 (by decide))
    refine lv_goto (tgt := 2470) hx hb dL_law_1623 (by decide) ?_
    exact kk K9 M9 g H locs ls hRI hW (lv_sub hl [2, 3, 4, 5, 6] rfl)
set_option maxHeartbeats 4000000 in
set_option maxRecDepth 100000 in
theorem law_cost {RI : Nat → (Nat → Ob) → Ob → Prop} {j i : Nat} {x4 : Int32} {K : Nat → Ob} {M : Ob} {g : Nat → Int64} {H : Heap} {locs : List Loc} {cells slots : Nat} {ls : Array Slot} (C0 : LC p l s m c D T A b L xs ad) (hop : Op_cost RI j K M (xs (x4 + 1).toNatClampNeg)) (hi : i + 6 < L) (ex4 : x4 = nI i) (hc1 : cells ≤ 2000) (hs1 : slots ≤ 400000) (hW : Wd D A s.heap (lw T ad am ao K M g) H locs) (hl : lv_has ls 7 [(0, .ref b), (1, .ref (ad 0 0)), (2, .ref (am 0)), (3, .ref ao), (4, .int x4)])
    (kk : ∀ (K9 : Nat → Ob) (M9 : Ob) (g9 : Nat → Int64) (H : Heap) (locs : List Loc) (ls : Array Slot), RI (j + 1) K9 M9 → Wd D A s.heap (lw T ad am ao K9 M9 g9) H locs → lv_has ls 7 [(0, .ref b), (1, .ref (ad 0 0)), (2, .ref (am 0)), (3, .ref ao), (4, .int x4)] → LW p l e s m b below meth c H locs (cells + 1) (slots + 6) Q (F0 m 2470 ls [])) : LW p l e s m b below meth c H locs cells slots Q (F0 m 1626 ls []) := by
  obtain ⟨hx, hb, hml, hown, hts, hX, hbl, hbA, hL, hK, hN, hE, hC, hok, hfl⟩ := id C0
  have hi1 : vp_in (x4 + 1) L := by rw [ex4, show (1 : Int32) = nI 1 from rfl, nI_add]; exact vp_in_nI (by omega) (by omega)
  unfold lw at hW
  obtain ⟨k, r, K9, b9, M9, t, q1, q2, q3, hd, hRI⟩ := hop
  rcases hd with ⟨rfl, rfl, rfl⟩ | ⟨rfl, rfl⟩
  · refine lv_aload_n hx hb dL_law_1626 rfl (lv_at hl 1 rfl) ?_
    refine lv_aload_n hx hb dL_law_1627 rfl (lv_at hl 0 rfl) ?_
    refine lv_iload hx hb dL_law_1628 (lv_at hl 4 rfl) ?_
    refine lv_iconst (v := 1) hx hb dL_law_1630 (by decide) ?_
    refine lv_iadd hx hb dL_law_1631 ?_
    refine va_sld hx hb hX hbl hbA hW.2.2 hi1 dL_law_1632 ?_
    refine lv_aload_n hx hb dL_law_1633 rfl (lv_at hl 3 rfl) ?_
    refine l_wrap (n := 3) C0 hW (wL_cost_0 l hfl D T A ad hok (oc_X11 T am M ++ []) ao g K (xs (x4 + 1).toNatClampNeg) r K9 q1) wm36_20 wm36_21 wm9_22 wm36_22 ⟨by decide +kernel, by decide +kernel, by decide +kernel⟩ ⟨by decide, by decide⟩ hc1 hs1 rfl hl.1 rfl (Nat.le_of_ble_eq_true rfl) dL_law_1634 (fun H locs hW => ?_)
    refine lv_istore (lv' := [(5, .int 0), (0, .ref b), (1, .ref (ad 0 0)), (2, .ref (am 0)), (3, .ref ao), (4, .int x4)]) hx hb dL_law_1637 hl (by decide) rfl (fun ls hl => ?_)
    refine lv_aload_n hx hb dL_law_1639 rfl (lv_at hl 3 rfl) ?_
    refine lv_aload_n hx hb dL_law_1640 rfl (lv_at hl 1 rfl) ?_
    refine lv_iload hx hb dL_law_1641 (lv_at hl 5 rfl) ?_
    refine lv_iconst (v := 1) hx hb dL_law_1643 (by decide) ?_
    refine lv_iadd hx hb dL_law_1644 ?_
    refine va_sld hx hb hX hbl hbA hW.2.2 hi1 dL_law_1645 ?_
    have hW := hW.perm pf3
    refine l_mod (As := [.int (xs (x4 + 1).toNatClampNeg)]) C0 hW (g_cw (n := 1) hts wm37_16 wm37_17 wm37_18 wm1_5 wm37_19 ⟨rfl, by decide +kernel, by decide +kernel, by decide +kernel⟩ ⟨rfl, rfl⟩ ⟨by decide, by decide⟩) rfl (c_X11_cost l D T A am (outc T ao (vp_updL g 0 r.toInt64) ++ (oc_X10 T (ad 0) (bb ad) (K9 0) ++ (wkL T ad K9 L18 ++ []))) M (xs (x4 + 1).toNatClampNeg) r M9 q2) rfl hl.1 rfl (Nat.le_of_ble_eq_true rfl) dL_law_1646 (by omega) (by omega) (fun H locs hW => ?_)
    have hW := hW.perm pf3.symm
    refine lv_istore (lv' := [(6, .int r), (5, .int 0), (0, .ref b), (1, .ref (ad 0 0)), (2, .ref (am 0)), (3, .ref ao), (4, .int x4)]) hx hb dL_law_1649 hl (by decide) rfl (fun ls hl => ?_)
    refine lv_aload_n hx hb dL_law_1651 rfl (lv_at hl 4 rfl) ?_
    have hW := hW.perm pf3
    refine l_mod (As := []) C0 hW (g_cw (n := 0) hts wm11_13 wm11_14 wm11_15 wm1_5 wm11_16 ⟨rfl, by decide +kernel, by decide +kernel, by decide +kernel⟩ ⟨rfl, rfl⟩ ⟨by decide, by decide⟩) rfl (c_X11_thrown l D T A am (outc T ao (vp_updL g 0 r.toInt64) ++ (oc_X10 T (ad 0) (bb ad) (K9 0) ++ (wkL T ad K9 L18 ++ []))) M9 0 q3) rfl hl.1 rfl (Nat.le_of_ble_eq_true rfl) dL_law_1652 (by omega) (by omega) (fun H locs hW => ?_)
    have hW := hW.perm pf3.symm
    refine lv_iload hx hb dL_law_1655 (lv_at hl 1 rfl) ?_
    refine lv_icmp_eq (tgt := 1662) hx hb dL_law_1657 (by decide) (fun _ => ?_) (fun c9 => absurd rfl c9)
    refine lv_iload hx hb dL_law_1662 (lv_at hl 1 rfl) ?_
    refine lv_if_ne (tgt := 1679) hx hb dL_law_1664 (by decide) (fun c9 => absurd rfl c9) (fun _ => ?_)
    refine lv_aload_n hx hb dL_law_1667 rfl (lv_at hl 5 rfl) ?_
    refine lv_iconst (v := 0) hx hb dL_law_1668 (by decide) ?_
    refine va_lald hx hb hK hW.1 0 3 rfl rfl (gd_in (by decide)) dL_law_1669 ?_
    rw [show (vp_updL g 0 r.toInt64) (0 : Int32).toNatClampNeg = r.toInt64 from rfl]
    refine lv_iload hx hb dL_law_1670 (lv_at hl 0 rfl) ?_
    refine lv_i2l (v := r.toInt64) hx hb dL_law_1672 rfl ?_
    refine W.lcmp hx hb dL_law_1673 ?_
    rw [lg_cmp_self]
    refine lv_if_eq (tgt := 1679) hx hb dL_law_1674 (by decide) (fun _ => ?_) (fun c9 => absurd rfl c9)
    refine lv_goto (tgt := 2470) hx hb dL_law_1679 (by decide) ?_
    exact kk K9 M9 (vp_updL g 0 r.toInt64) H locs ls hRI hW (lv_sub hl [2, 3, 4, 5, 6] rfl)
  · refine lv_aload_n hx hb dL_law_1626 rfl (lv_at hl 1 rfl) ?_
    refine lv_aload_n hx hb dL_law_1627 rfl (lv_at hl 0 rfl) ?_
    refine lv_iload hx hb dL_law_1628 (lv_at hl 4 rfl) ?_
    refine lv_iconst (v := 1) hx hb dL_law_1630 (by decide) ?_
    refine lv_iadd hx hb dL_law_1631 ?_
    refine va_sld hx hb hX hbl hbA hW.2.2 hi1 dL_law_1632 ?_
    refine lv_aload_n hx hb dL_law_1633 rfl (lv_at hl 3 rfl) ?_
    refine l_wrap (n := 3) C0 hW (wL_cost_1 l hfl D T A ad hok (oc_X11 T am M ++ []) ao g K (xs (x4 + 1).toNatClampNeg) r K9 q1) wm36_20 wm36_21 wm9_22 wm36_22 ⟨by decide +kernel, by decide +kernel, by decide +kernel⟩ ⟨by decide, by decide⟩ hc1 hs1 rfl hl.1 rfl (Nat.le_of_ble_eq_true rfl) dL_law_1634 (fun H locs hW => ?_)
    refine lv_istore (lv' := [(5, .int 1), (0, .ref b), (1, .ref (ad 0 0)), (2, .ref (am 0)), (3, .ref ao), (4, .int x4)]) hx hb dL_law_1637 hl (by decide) rfl (fun ls hl => ?_)
    refine lv_aload_n hx hb dL_law_1639 rfl (lv_at hl 3 rfl) ?_
    refine lv_aload_n hx hb dL_law_1640 rfl (lv_at hl 1 rfl) ?_
    refine lv_iload hx hb dL_law_1641 (lv_at hl 5 rfl) ?_
    refine lv_iconst (v := 1) hx hb dL_law_1643 (by decide) ?_
    refine lv_iadd hx hb dL_law_1644 ?_
    refine va_sld hx hb hX hbl hbA hW.2.2 hi1 dL_law_1645 ?_
    have hW := hW.perm pf3
    refine l_mod (As := [.int (xs (x4 + 1).toNatClampNeg)]) C0 hW (g_cw (n := 1) hts wm37_16 wm37_17 wm37_18 wm1_5 wm37_19 ⟨rfl, by decide +kernel, by decide +kernel, by decide +kernel⟩ ⟨rfl, rfl⟩ ⟨by decide, by decide⟩) rfl (c_X11_cost l D T A am (outc T ao g ++ (oc_X10 T (ad 0) (bb ad) (K9 0) ++ (wkL T ad K9 L18 ++ []))) M (xs (x4 + 1).toNatClampNeg) b9 M9 q2) rfl hl.1 rfl (Nat.le_of_ble_eq_true rfl) dL_law_1646 (by omega) (by omega) (fun H locs hW => ?_)
    have hW := hW.perm pf3.symm
    refine lv_istore (lv' := [(6, .int b9), (5, .int 1), (0, .ref b), (1, .ref (ad 0 0)), (2, .ref (am 0)), (3, .ref ao), (4, .int x4)]) hx hb dL_law_1649 hl (by decide) rfl (fun ls hl => ?_)
    refine lv_aload_n hx hb dL_law_1651 rfl (lv_at hl 4 rfl) ?_
    have hW := hW.perm pf3
    refine l_mod (As := []) C0 hW (g_cw (n := 0) hts wm11_13 wm11_14 wm11_15 wm1_5 wm11_16 ⟨rfl, by decide +kernel, by decide +kernel, by decide +kernel⟩ ⟨rfl, rfl⟩ ⟨by decide, by decide⟩) rfl (c_X11_thrown l D T A am (outc T ao g ++ (oc_X10 T (ad 0) (bb ad) (K9 0) ++ (wkL T ad K9 L18 ++ []))) M9 1 q3) rfl hl.1 rfl (Nat.le_of_ble_eq_true rfl) dL_law_1652 (by omega) (by omega) (fun H locs hW => ?_)
    have hW := hW.perm pf3.symm
    refine lv_iload hx hb dL_law_1655 (lv_at hl 1 rfl) ?_
    refine lv_icmp_eq (tgt := 1662) hx hb dL_law_1657 (by decide) (fun _ => ?_) (fun c9 => absurd rfl c9)
    refine lv_iload hx hb dL_law_1662 (lv_at hl 1 rfl) ?_
    refine lv_if_ne (tgt := 1679) hx hb dL_law_1664 (by decide) (fun _ => ?_) (fun c9 => absurd c9 (by decide))
    refine lv_goto (tgt := 2470) hx hb dL_law_1679 (by decide) ?_
    exact kk K9 M9 g H locs ls hRI hW (lv_sub hl [2, 3, 4, 5, 6] rfl)
set_option maxHeartbeats 4000000 in
set_option maxRecDepth 100000 in
theorem law_costAnew {RI : Nat → (Nat → Ob) → Ob → Prop} {j i : Nat} {x4 : Int32} {K : Nat → Ob} {M : Ob} {g : Nat → Int64} {H : Heap} {locs : List Loc} {cells slots : Nat} {ls : Array Slot} (C0 : LC p l s m c D T A b L xs ad) (hop : Op_costAnew RI j K M (xs (x4 + 1).toNatClampNeg)) (hi : i + 6 < L) (ex4 : x4 = nI i) (hc1 : cells ≤ 2000) (hs1 : slots ≤ 400000) (hW : Wd D A s.heap (lw T ad am ao K M g) H locs) (hl : lv_has ls 7 [(0, .ref b), (1, .ref (ad 0 0)), (2, .ref (am 0)), (3, .ref ao), (4, .int x4)])
    (kk : ∀ (K9 : Nat → Ob) (M9 : Ob) (g9 : Nat → Int64) (H : Heap) (locs : List Loc) (ls : Array Slot), RI (j + 1) K9 M9 → Wd D A s.heap (lw T ad am ao K9 M9 g9) H locs → lv_has ls 7 [(0, .ref b), (1, .ref (ad 0 0)), (2, .ref (am 0)), (3, .ref ao), (4, .int x4)] → LW p l e s m b below meth c H locs (cells + 1) (slots + 6) Q (F0 m 2470 ls [])) : LW p l e s m b below meth c H locs cells slots Q (F0 m 1682 ls []) := by
  obtain ⟨hx, hb, hml, hown, hts, hX, hbl, hbA, hL, hK, hN, hE, hC, hok, hfl⟩ := id C0
  have hi1 : vp_in (x4 + 1) L := by rw [ex4, show (1 : Int32) = nI 1 from rfl, nI_add]; exact vp_in_nI (by omega) (by omega)
  unfold lw at hW
  obtain ⟨k, r, K9, b9, M9, t, q1, q2, q3, hd, hRI⟩ := hop
  rcases hd with ⟨rfl, rfl, rfl⟩ | ⟨rfl, rfl⟩
  · refine lv_aload_n hx hb dL_law_1682 rfl (lv_at hl 1 rfl) ?_
    refine lv_aload_n hx hb dL_law_1683 rfl (lv_at hl 0 rfl) ?_
    refine lv_iload hx hb dL_law_1684 (lv_at hl 4 rfl) ?_
    refine lv_iconst (v := 1) hx hb dL_law_1686 (by decide) ?_
    refine lv_iadd hx hb dL_law_1687 ?_
    refine va_sld hx hb hX hbl hbA hW.2.2 hi1 dL_law_1688 ?_
    refine lv_aload_n hx hb dL_law_1689 rfl (lv_at hl 3 rfl) ?_
    refine l_wrap (n := 3) C0 hW (wL_costAnew_0 l hfl D T A ad hok (oc_X11 T am M ++ []) ao g K (xs (x4 + 1).toNatClampNeg) r K9 q1) wm38_4 wm38_5 wm9_22 wm38_6 ⟨by decide +kernel, by decide +kernel, by decide +kernel⟩ ⟨by decide, by decide⟩ hc1 hs1 rfl hl.1 rfl (Nat.le_of_ble_eq_true rfl) dL_law_1690 (fun H locs hW => ?_)
    refine lv_istore (lv' := [(5, .int 0), (0, .ref b), (1, .ref (ad 0 0)), (2, .ref (am 0)), (3, .ref ao), (4, .int x4)]) hx hb dL_law_1693 hl (by decide) rfl (fun ls hl => ?_)
    refine lv_aload_n hx hb dL_law_1695 rfl (lv_at hl 3 rfl) ?_
    refine lv_aload_n hx hb dL_law_1696 rfl (lv_at hl 1 rfl) ?_
    refine lv_iload hx hb dL_law_1697 (lv_at hl 5 rfl) ?_
    refine lv_iconst (v := 1) hx hb dL_law_1699 (by decide) ?_
    refine lv_iadd hx hb dL_law_1700 ?_
    refine va_sld hx hb hX hbl hbA hW.2.2 hi1 dL_law_1701 ?_
    have hW := hW.perm pf3
    refine l_mod (As := [.int (xs (x4 + 1).toNatClampNeg)]) C0 hW (g_cw (n := 1) hts wm39_11 wm39_12 wm39_13 wm1_5 wm39_14 ⟨rfl, by decide +kernel, by decide +kernel, by decide +kernel⟩ ⟨rfl, rfl⟩ ⟨by decide, by decide⟩) rfl (c_X11_costAnew l D T A am (outc T ao (vp_updL g 0 r.toInt64) ++ (oc_X10 T (ad 0) (bb ad) (K9 0) ++ (wkL T ad K9 L18 ++ []))) M (xs (x4 + 1).toNatClampNeg) r M9 q2) rfl hl.1 rfl (Nat.le_of_ble_eq_true rfl) dL_law_1702 (by omega) (by omega) (fun H locs hW => ?_)
    have hW := hW.perm pf3.symm
    refine lv_istore (lv' := [(6, .int r), (5, .int 0), (0, .ref b), (1, .ref (ad 0 0)), (2, .ref (am 0)), (3, .ref ao), (4, .int x4)]) hx hb dL_law_1705 hl (by decide) rfl (fun ls hl => ?_)
    refine lv_aload_n hx hb dL_law_1707 rfl (lv_at hl 4 rfl) ?_
    have hW := hW.perm pf3
    refine l_mod (As := []) C0 hW (g_cw (n := 0) hts wm11_13 wm11_14 wm11_15 wm1_5 wm11_16 ⟨rfl, by decide +kernel, by decide +kernel, by decide +kernel⟩ ⟨rfl, rfl⟩ ⟨by decide, by decide⟩) rfl (c_X11_thrown l D T A am (outc T ao (vp_updL g 0 r.toInt64) ++ (oc_X10 T (ad 0) (bb ad) (K9 0) ++ (wkL T ad K9 L18 ++ []))) M9 0 q3) rfl hl.1 rfl (Nat.le_of_ble_eq_true rfl) dL_law_1708 (by omega) (by omega) (fun H locs hW => ?_)
    have hW := hW.perm pf3.symm
    refine lv_iload hx hb dL_law_1711 (lv_at hl 1 rfl) ?_
    refine lv_icmp_eq (tgt := 1718) hx hb dL_law_1713 (by decide) (fun _ => ?_) (fun c9 => absurd rfl c9)
    refine lv_iload hx hb dL_law_1718 (lv_at hl 1 rfl) ?_
    refine lv_if_ne (tgt := 1735) hx hb dL_law_1720 (by decide) (fun c9 => absurd rfl c9) (fun _ => ?_)
    refine lv_aload_n hx hb dL_law_1723 rfl (lv_at hl 5 rfl) ?_
    refine lv_iconst (v := 0) hx hb dL_law_1724 (by decide) ?_
    refine va_lald hx hb hK hW.1 0 3 rfl rfl (gd_in (by decide)) dL_law_1725 ?_
    rw [show (vp_updL g 0 r.toInt64) (0 : Int32).toNatClampNeg = r.toInt64 from rfl]
    refine lv_iload hx hb dL_law_1726 (lv_at hl 0 rfl) ?_
    refine lv_i2l (v := r.toInt64) hx hb dL_law_1728 rfl ?_
    refine W.lcmp hx hb dL_law_1729 ?_
    rw [lg_cmp_self]
    refine lv_if_eq (tgt := 1735) hx hb dL_law_1730 (by decide) (fun _ => ?_) (fun c9 => absurd rfl c9)
    refine lv_goto (tgt := 2470) hx hb dL_law_1735 (by decide) ?_
    exact kk K9 M9 (vp_updL g 0 r.toInt64) H locs ls hRI hW (lv_sub hl [2, 3, 4, 5, 6] rfl)
  · refine lv_aload_n hx hb dL_law_1682 rfl (lv_at hl 1 rfl) ?_
    refine lv_aload_n hx hb dL_law_1683 rfl (lv_at hl 0 rfl) ?_
    refine lv_iload hx hb dL_law_1684 (lv_at hl 4 rfl) ?_
    refine lv_iconst (v := 1) hx hb dL_law_1686 (by decide) ?_
    refine lv_iadd hx hb dL_law_1687 ?_
    refine va_sld hx hb hX hbl hbA hW.2.2 hi1 dL_law_1688 ?_
    refine lv_aload_n hx hb dL_law_1689 rfl (lv_at hl 3 rfl) ?_
    refine l_wrap (n := 3) C0 hW (wL_costAnew_1 l hfl D T A ad hok (oc_X11 T am M ++ []) ao g K (xs (x4 + 1).toNatClampNeg) r K9 q1) wm38_4 wm38_5 wm9_22 wm38_6 ⟨by decide +kernel, by decide +kernel, by decide +kernel⟩ ⟨by decide, by decide⟩ hc1 hs1 rfl hl.1 rfl (Nat.le_of_ble_eq_true rfl) dL_law_1690 (fun H locs hW => ?_)
    refine lv_istore (lv' := [(5, .int 1), (0, .ref b), (1, .ref (ad 0 0)), (2, .ref (am 0)), (3, .ref ao), (4, .int x4)]) hx hb dL_law_1693 hl (by decide) rfl (fun ls hl => ?_)
    refine lv_aload_n hx hb dL_law_1695 rfl (lv_at hl 3 rfl) ?_
    refine lv_aload_n hx hb dL_law_1696 rfl (lv_at hl 1 rfl) ?_
    refine lv_iload hx hb dL_law_1697 (lv_at hl 5 rfl) ?_
    refine lv_iconst (v := 1) hx hb dL_law_1699 (by decide) ?_
    refine lv_iadd hx hb dL_law_1700 ?_
    refine va_sld hx hb hX hbl hbA hW.2.2 hi1 dL_law_1701 ?_
    have hW := hW.perm pf3
    refine l_mod (As := [.int (xs (x4 + 1).toNatClampNeg)]) C0 hW (g_cw (n := 1) hts wm39_11 wm39_12 wm39_13 wm1_5 wm39_14 ⟨rfl, by decide +kernel, by decide +kernel, by decide +kernel⟩ ⟨rfl, rfl⟩ ⟨by decide, by decide⟩) rfl (c_X11_costAnew l D T A am (outc T ao g ++ (oc_X10 T (ad 0) (bb ad) (K9 0) ++ (wkL T ad K9 L18 ++ []))) M (xs (x4 + 1).toNatClampNeg) b9 M9 q2) rfl hl.1 rfl (Nat.le_of_ble_eq_true rfl) dL_law_1702 (by omega) (by omega) (fun H locs hW => ?_)
    have hW := hW.perm pf3.symm
    refine lv_istore (lv' := [(6, .int b9), (5, .int 1), (0, .ref b), (1, .ref (ad 0 0)), (2, .ref (am 0)), (3, .ref ao), (4, .int x4)]) hx hb dL_law_1705 hl (by decide) rfl (fun ls hl => ?_)
    refine lv_aload_n hx hb dL_law_1707 rfl (lv_at hl 4 rfl) ?_
    have hW := hW.perm pf3
    refine l_mod (As := []) C0 hW (g_cw (n := 0) hts wm11_13 wm11_14 wm11_15 wm1_5 wm11_16 ⟨rfl, by decide +kernel, by decide +kernel, by decide +kernel⟩ ⟨rfl, rfl⟩ ⟨by decide, by decide⟩) rfl (c_X11_thrown l D T A am (outc T ao g ++ (oc_X10 T (ad 0) (bb ad) (K9 0) ++ (wkL T ad K9 L18 ++ []))) M9 1 q3) rfl hl.1 rfl (Nat.le_of_ble_eq_true rfl) dL_law_1708 (by omega) (by omega) (fun H locs hW => ?_)
    have hW := hW.perm pf3.symm
    refine lv_iload hx hb dL_law_1711 (lv_at hl 1 rfl) ?_
    refine lv_icmp_eq (tgt := 1718) hx hb dL_law_1713 (by decide) (fun _ => ?_) (fun c9 => absurd rfl c9)
    refine lv_iload hx hb dL_law_1718 (lv_at hl 1 rfl) ?_
    refine lv_if_ne (tgt := 1735) hx hb dL_law_1720 (by decide) (fun _ => ?_) (fun c9 => absurd c9 (by decide))
    refine lv_goto (tgt := 2470) hx hb dL_law_1735 (by decide) ?_
    exact kk K9 M9 g H locs ls hRI hW (lv_sub hl [2, 3, 4, 5, 6] rfl)
set_option maxHeartbeats 4000000 in
set_option maxRecDepth 100000 in
theorem law_faults {RI : Nat → (Nat → Ob) → Ob → Prop} {j i : Nat} {x4 : Int32} {K : Nat → Ob} {M : Ob} {g : Nat → Int64} {H : Heap} {locs : List Loc} {cells slots : Nat} {ls : Array Slot} (C0 : LC p l s m c D T A b L xs ad) (hop : Op_faults RI j K M (xs (x4 + 1).toNatClampNeg)) (hi : i + 6 < L) (ex4 : x4 = nI i) (hc1 : cells ≤ 2000) (hs1 : slots ≤ 400000) (hW : Wd D A s.heap (lw T ad am ao K M g) H locs) (hl : lv_has ls 7 [(0, .ref b), (1, .ref (ad 0 0)), (2, .ref (am 0)), (3, .ref ao), (4, .int x4)])
    (kk : ∀ (K9 : Nat → Ob) (M9 : Ob) (g9 : Nat → Int64) (H : Heap) (locs : List Loc) (ls : Array Slot), RI (j + 1) K9 M9 → Wd D A s.heap (lw T ad am ao K9 M9 g9) H locs → lv_has ls 7 [(0, .ref b), (1, .ref (ad 0 0)), (2, .ref (am 0)), (3, .ref ao), (4, .int x4)] → LW p l e s m b below meth c H locs (cells + 1) (slots + 6) Q (F0 m 2470 ls [])) : LW p l e s m b below meth c H locs cells slots Q (F0 m 1738 ls []) := by
  obtain ⟨hx, hb, hml, hown, hts, hX, hbl, hbA, hL, hK, hN, hE, hC, hok, hfl⟩ := id C0
  have hi1 : vp_in (x4 + 1) L := by rw [ex4, show (1 : Int32) = nI 1 from rfl, nI_add]; exact vp_in_nI (by omega) (by omega)
  unfold lw at hW
  obtain ⟨k, r, K9, b9, M9, t, q1, q2, q3, hd, hRI⟩ := hop
  rcases hd with ⟨rfl, rfl, rfl⟩ | ⟨rfl, rfl⟩
  · refine lv_aload_n hx hb dL_law_1738 rfl (lv_at hl 1 rfl) ?_
    refine lv_aload_n hx hb dL_law_1739 rfl (lv_at hl 0 rfl) ?_
    refine lv_iload hx hb dL_law_1740 (lv_at hl 4 rfl) ?_
    refine lv_iconst (v := 1) hx hb dL_law_1742 (by decide) ?_
    refine lv_iadd hx hb dL_law_1743 ?_
    refine va_sld hx hb hX hbl hbA hW.2.2 hi1 dL_law_1744 ?_
    refine lv_aload_n hx hb dL_law_1745 rfl (lv_at hl 3 rfl) ?_
    refine l_wrap (n := 3) C0 hW (wL_faults_0 l hfl D T A ad hok (oc_X11 T am M ++ []) ao g K (xs (x4 + 1).toNatClampNeg) r K9 q1) wm39_16 wm39_17 wm9_22 wm39_18 ⟨by decide +kernel, by decide +kernel, by decide +kernel⟩ ⟨by decide, by decide⟩ hc1 hs1 rfl hl.1 rfl (Nat.le_of_ble_eq_true rfl) dL_law_1746 (fun H locs hW => ?_)
    refine lv_istore (lv' := [(5, .int 0), (0, .ref b), (1, .ref (ad 0 0)), (2, .ref (am 0)), (3, .ref ao), (4, .int x4)]) hx hb dL_law_1749 hl (by decide) rfl (fun ls hl => ?_)
    refine lv_aload_n hx hb dL_law_1751 rfl (lv_at hl 3 rfl) ?_
    refine lv_aload_n hx hb dL_law_1752 rfl (lv_at hl 1 rfl) ?_
    refine lv_iload hx hb dL_law_1753 (lv_at hl 5 rfl) ?_
    refine lv_iconst (v := 1) hx hb dL_law_1755 (by decide) ?_
    refine lv_iadd hx hb dL_law_1756 ?_
    refine va_sld hx hb hX hbl hbA hW.2.2 hi1 dL_law_1757 ?_
    have hW := hW.perm pf3
    refine l_mod (As := [.int (xs (x4 + 1).toNatClampNeg)]) C0 hW (g_cw (n := 1) hts wm40_11 wm40_12 wm40_13 wm1_5 wm40_14 ⟨rfl, by decide +kernel, by decide +kernel, by decide +kernel⟩ ⟨rfl, rfl⟩ ⟨by decide, by decide⟩) rfl (c_X11_faults l D T A am (outc T ao (vp_updL g 0 r.toInt64) ++ (oc_X10 T (ad 0) (bb ad) (K9 0) ++ (wkL T ad K9 L18 ++ []))) M (xs (x4 + 1).toNatClampNeg) r M9 q2) rfl hl.1 rfl (Nat.le_of_ble_eq_true rfl) dL_law_1758 (by omega) (by omega) (fun H locs hW => ?_)
    have hW := hW.perm pf3.symm
    refine lv_istore (lv' := [(6, .int r), (5, .int 0), (0, .ref b), (1, .ref (ad 0 0)), (2, .ref (am 0)), (3, .ref ao), (4, .int x4)]) hx hb dL_law_1761 hl (by decide) rfl (fun ls hl => ?_)
    refine lv_aload_n hx hb dL_law_1763 rfl (lv_at hl 4 rfl) ?_
    have hW := hW.perm pf3
    refine l_mod (As := []) C0 hW (g_cw (n := 0) hts wm11_13 wm11_14 wm11_15 wm1_5 wm11_16 ⟨rfl, by decide +kernel, by decide +kernel, by decide +kernel⟩ ⟨rfl, rfl⟩ ⟨by decide, by decide⟩) rfl (c_X11_thrown l D T A am (outc T ao (vp_updL g 0 r.toInt64) ++ (oc_X10 T (ad 0) (bb ad) (K9 0) ++ (wkL T ad K9 L18 ++ []))) M9 0 q3) rfl hl.1 rfl (Nat.le_of_ble_eq_true rfl) dL_law_1764 (by omega) (by omega) (fun H locs hW => ?_)
    have hW := hW.perm pf3.symm
    refine lv_iload hx hb dL_law_1767 (lv_at hl 1 rfl) ?_
    refine lv_icmp_eq (tgt := 1774) hx hb dL_law_1769 (by decide) (fun _ => ?_) (fun c9 => absurd rfl c9)
    refine lv_iload hx hb dL_law_1774 (lv_at hl 1 rfl) ?_
    refine lv_if_ne (tgt := 1791) hx hb dL_law_1776 (by decide) (fun c9 => absurd rfl c9) (fun _ => ?_)
    refine lv_aload_n hx hb dL_law_1779 rfl (lv_at hl 5 rfl) ?_
    refine lv_iconst (v := 0) hx hb dL_law_1780 (by decide) ?_
    refine va_lald hx hb hK hW.1 0 3 rfl rfl (gd_in (by decide)) dL_law_1781 ?_
    rw [show (vp_updL g 0 r.toInt64) (0 : Int32).toNatClampNeg = r.toInt64 from rfl]
    refine lv_iload hx hb dL_law_1782 (lv_at hl 0 rfl) ?_
    refine lv_i2l (v := r.toInt64) hx hb dL_law_1784 rfl ?_
    refine W.lcmp hx hb dL_law_1785 ?_
    rw [lg_cmp_self]
    refine lv_if_eq (tgt := 1791) hx hb dL_law_1786 (by decide) (fun _ => ?_) (fun c9 => absurd rfl c9)
    refine lv_goto (tgt := 2470) hx hb dL_law_1791 (by decide) ?_
    exact kk K9 M9 (vp_updL g 0 r.toInt64) H locs ls hRI hW (lv_sub hl [2, 3, 4, 5, 6] rfl)
  · refine lv_aload_n hx hb dL_law_1738 rfl (lv_at hl 1 rfl) ?_
    refine lv_aload_n hx hb dL_law_1739 rfl (lv_at hl 0 rfl) ?_
    refine lv_iload hx hb dL_law_1740 (lv_at hl 4 rfl) ?_
    refine lv_iconst (v := 1) hx hb dL_law_1742 (by decide) ?_
    refine lv_iadd hx hb dL_law_1743 ?_
    refine va_sld hx hb hX hbl hbA hW.2.2 hi1 dL_law_1744 ?_
    refine lv_aload_n hx hb dL_law_1745 rfl (lv_at hl 3 rfl) ?_
    refine l_wrap (n := 3) C0 hW (wL_faults_1 l hfl D T A ad hok (oc_X11 T am M ++ []) ao g K (xs (x4 + 1).toNatClampNeg) r K9 q1) wm39_16 wm39_17 wm9_22 wm39_18 ⟨by decide +kernel, by decide +kernel, by decide +kernel⟩ ⟨by decide, by decide⟩ hc1 hs1 rfl hl.1 rfl (Nat.le_of_ble_eq_true rfl) dL_law_1746 (fun H locs hW => ?_)
    refine lv_istore (lv' := [(5, .int 1), (0, .ref b), (1, .ref (ad 0 0)), (2, .ref (am 0)), (3, .ref ao), (4, .int x4)]) hx hb dL_law_1749 hl (by decide) rfl (fun ls hl => ?_)
    refine lv_aload_n hx hb dL_law_1751 rfl (lv_at hl 3 rfl) ?_
    refine lv_aload_n hx hb dL_law_1752 rfl (lv_at hl 1 rfl) ?_
    refine lv_iload hx hb dL_law_1753 (lv_at hl 5 rfl) ?_
    refine lv_iconst (v := 1) hx hb dL_law_1755 (by decide) ?_
    refine lv_iadd hx hb dL_law_1756 ?_
    refine va_sld hx hb hX hbl hbA hW.2.2 hi1 dL_law_1757 ?_
    have hW := hW.perm pf3
    refine l_mod (As := [.int (xs (x4 + 1).toNatClampNeg)]) C0 hW (g_cw (n := 1) hts wm40_11 wm40_12 wm40_13 wm1_5 wm40_14 ⟨rfl, by decide +kernel, by decide +kernel, by decide +kernel⟩ ⟨rfl, rfl⟩ ⟨by decide, by decide⟩) rfl (c_X11_faults l D T A am (outc T ao g ++ (oc_X10 T (ad 0) (bb ad) (K9 0) ++ (wkL T ad K9 L18 ++ []))) M (xs (x4 + 1).toNatClampNeg) b9 M9 q2) rfl hl.1 rfl (Nat.le_of_ble_eq_true rfl) dL_law_1758 (by omega) (by omega) (fun H locs hW => ?_)
    have hW := hW.perm pf3.symm
    refine lv_istore (lv' := [(6, .int b9), (5, .int 1), (0, .ref b), (1, .ref (ad 0 0)), (2, .ref (am 0)), (3, .ref ao), (4, .int x4)]) hx hb dL_law_1761 hl (by decide) rfl (fun ls hl => ?_)
    refine lv_aload_n hx hb dL_law_1763 rfl (lv_at hl 4 rfl) ?_
    have hW := hW.perm pf3
    refine l_mod (As := []) C0 hW (g_cw (n := 0) hts wm11_13 wm11_14 wm11_15 wm1_5 wm11_16 ⟨rfl, by decide +kernel, by decide +kernel, by decide +kernel⟩ ⟨rfl, rfl⟩ ⟨by decide, by decide⟩) rfl (c_X11_thrown l D T A am (outc T ao g ++ (oc_X10 T (ad 0) (bb ad) (K9 0) ++ (wkL T ad K9 L18 ++ []))) M9 1 q3) rfl hl.1 rfl (Nat.le_of_ble_eq_true rfl) dL_law_1764 (by omega) (by omega) (fun H locs hW => ?_)
    have hW := hW.perm pf3.symm
    refine lv_iload hx hb dL_law_1767 (lv_at hl 1 rfl) ?_
    refine lv_icmp_eq (tgt := 1774) hx hb dL_law_1769 (by decide) (fun _ => ?_) (fun c9 => absurd rfl c9)
    refine lv_iload hx hb dL_law_1774 (lv_at hl 1 rfl) ?_
    refine lv_if_ne (tgt := 1791) hx hb dL_law_1776 (by decide) (fun _ => ?_) (fun c9 => absurd c9 (by decide))
    refine lv_goto (tgt := 2470) hx hb dL_law_1791 (by decide) ?_
    exact kk K9 M9 g H locs ls hRI hW (lv_sub hl [2, 3, 4, 5, 6] rfl)
set_option maxHeartbeats 4000000 in
set_option maxRecDepth 100000 in
theorem law_fault {RI : Nat → (Nat → Ob) → Ob → Prop} {j i : Nat} {x4 : Int32} {K : Nat → Ob} {M : Ob} {g : Nat → Int64} {H : Heap} {locs : List Loc} {cells slots : Nat} {ls : Array Slot} (C0 : LC p l s m c D T A b L xs ad) (hop : Op_fault RI j K M (xs (x4 + 1).toNatClampNeg) (xs (x4 + 2).toNatClampNeg)) (hi : i + 6 < L) (ex4 : x4 = nI i) (hc1 : cells ≤ 2000) (hs1 : slots ≤ 400000) (hW : Wd D A s.heap (lw T ad am ao K M g) H locs) (hl : lv_has ls 7 [(0, .ref b), (1, .ref (ad 0 0)), (2, .ref (am 0)), (3, .ref ao), (4, .int x4)])
    (kk : ∀ (K9 : Nat → Ob) (M9 : Ob) (g9 : Nat → Int64) (H : Heap) (locs : List Loc) (ls : Array Slot), RI (j + 1) K9 M9 → Wd D A s.heap (lw T ad am ao K9 M9 g9) H locs → lv_has ls 7 [(0, .ref b), (1, .ref (ad 0 0)), (2, .ref (am 0)), (3, .ref ao), (4, .int x4)] → LW p l e s m b below meth c H locs (cells + 1) (slots + 6) Q (F0 m 2470 ls [])) : LW p l e s m b below meth c H locs cells slots Q (F0 m 1794 ls []) := by
  obtain ⟨hx, hb, hml, hown, hts, hX, hbl, hbA, hL, hK, hN, hE, hC, hok, hfl⟩ := id C0
  have hi1 : vp_in (x4 + 1) L := by rw [ex4, show (1 : Int32) = nI 1 from rfl, nI_add]; exact vp_in_nI (by omega) (by omega)
  have hi2 : vp_in (x4 + 2) L := by rw [ex4, show (2 : Int32) = nI 2 from rfl, nI_add]; exact vp_in_nI (by omega) (by omega)
  unfold lw at hW
  obtain ⟨k, r, K9, b9, M9, t, q1, q2, q3, hd, hRI⟩ := hop
  rcases hd with ⟨rfl, rfl, rfl⟩ | ⟨rfl, rfl⟩
  · refine lv_aload_n hx hb dL_law_1794 rfl (lv_at hl 1 rfl) ?_
    refine lv_aload_n hx hb dL_law_1795 rfl (lv_at hl 0 rfl) ?_
    refine lv_iload hx hb dL_law_1796 (lv_at hl 4 rfl) ?_
    refine lv_iconst (v := 1) hx hb dL_law_1798 (by decide) ?_
    refine lv_iadd hx hb dL_law_1799 ?_
    refine va_sld hx hb hX hbl hbA hW.2.2 hi1 dL_law_1800 ?_
    refine lv_aload_n hx hb dL_law_1801 rfl (lv_at hl 0 rfl) ?_
    refine lv_iload hx hb dL_law_1802 (lv_at hl 4 rfl) ?_
    refine lv_iconst (v := 2) hx hb dL_law_1804 (by decide) ?_
    refine lv_iadd hx hb dL_law_1805 ?_
    refine va_sld hx hb hX hbl hbA hW.2.2 hi2 dL_law_1806 ?_
    refine lv_aload_n hx hb dL_law_1807 rfl (lv_at hl 3 rfl) ?_
    refine l_wrap (n := 4) C0 hW (wL_fault_0 l hfl D T A ad hok (oc_X11 T am M ++ []) ao g K (xs (x4 + 1).toNatClampNeg) (xs (x4 + 2).toNatClampNeg) r K9 q1) wm40_20 wm40_21 wm9_22 wm40_22 ⟨by decide +kernel, by decide +kernel, by decide +kernel⟩ ⟨by decide, by decide⟩ hc1 hs1 rfl hl.1 rfl (Nat.le_of_ble_eq_true rfl) dL_law_1808 (fun H locs hW => ?_)
    refine lv_istore (lv' := [(5, .int 0), (0, .ref b), (1, .ref (ad 0 0)), (2, .ref (am 0)), (3, .ref ao), (4, .int x4)]) hx hb dL_law_1811 hl (by decide) rfl (fun ls hl => ?_)
    refine lv_aload_n hx hb dL_law_1813 rfl (lv_at hl 3 rfl) ?_
    refine lv_aload_n hx hb dL_law_1814 rfl (lv_at hl 1 rfl) ?_
    refine lv_iload hx hb dL_law_1815 (lv_at hl 5 rfl) ?_
    refine lv_iconst (v := 1) hx hb dL_law_1817 (by decide) ?_
    refine lv_iadd hx hb dL_law_1818 ?_
    refine va_sld hx hb hX hbl hbA hW.2.2 hi1 dL_law_1819 ?_
    refine lv_aload_n hx hb dL_law_1820 rfl (lv_at hl 1 rfl) ?_
    refine lv_iload hx hb dL_law_1821 (lv_at hl 5 rfl) ?_
    refine lv_iconst (v := 2) hx hb dL_law_1823 (by decide) ?_
    refine lv_iadd hx hb dL_law_1824 ?_
    refine va_sld hx hb hX hbl hbA hW.2.2 hi2 dL_law_1825 ?_
    have hW := hW.perm pf3
    refine l_mod (As := [.int (xs (x4 + 1).toNatClampNeg), .int (xs (x4 + 2).toNatClampNeg)]) C0 hW (g_cw (n := 2) hts wm41_18 wm41_19 wm41_20 wm1_5 wm41_21 ⟨rfl, by decide +kernel, by decide +kernel, by decide +kernel⟩ ⟨rfl, rfl⟩ ⟨by decide, by decide⟩) rfl (c_X11_fault l D T A am (outc T ao (vp_updL g 0 r.toInt64) ++ (oc_X10 T (ad 0) (bb ad) (K9 0) ++ (wkL T ad K9 L18 ++ []))) M (xs (x4 + 1).toNatClampNeg) (xs (x4 + 2).toNatClampNeg) r M9 q2) rfl hl.1 rfl (Nat.le_of_ble_eq_true rfl) dL_law_1826 (by omega) (by omega) (fun H locs hW => ?_)
    have hW := hW.perm pf3.symm
    refine lv_istore (lv' := [(6, .int r), (5, .int 0), (0, .ref b), (1, .ref (ad 0 0)), (2, .ref (am 0)), (3, .ref ao), (4, .int x4)]) hx hb dL_law_1829 hl (by decide) rfl (fun ls hl => ?_)
    refine lv_aload_n hx hb dL_law_1831 rfl (lv_at hl 4 rfl) ?_
    have hW := hW.perm pf3
    refine l_mod (As := []) C0 hW (g_cw (n := 0) hts wm11_13 wm11_14 wm11_15 wm1_5 wm11_16 ⟨rfl, by decide +kernel, by decide +kernel, by decide +kernel⟩ ⟨rfl, rfl⟩ ⟨by decide, by decide⟩) rfl (c_X11_thrown l D T A am (outc T ao (vp_updL g 0 r.toInt64) ++ (oc_X10 T (ad 0) (bb ad) (K9 0) ++ (wkL T ad K9 L18 ++ []))) M9 0 q3) rfl hl.1 rfl (Nat.le_of_ble_eq_true rfl) dL_law_1832 (by omega) (by omega) (fun H locs hW => ?_)
    have hW := hW.perm pf3.symm
    refine lv_iload hx hb dL_law_1835 (lv_at hl 1 rfl) ?_
    refine lv_icmp_eq (tgt := 1842) hx hb dL_law_1837 (by decide) (fun _ => ?_) (fun c9 => absurd rfl c9)
    refine lv_iload hx hb dL_law_1842 (lv_at hl 1 rfl) ?_
    refine lv_if_ne (tgt := 1859) hx hb dL_law_1844 (by decide) (fun c9 => absurd rfl c9) (fun _ => ?_)
    refine lv_aload_n hx hb dL_law_1847 rfl (lv_at hl 5 rfl) ?_
    refine lv_iconst (v := 0) hx hb dL_law_1848 (by decide) ?_
    refine va_lald hx hb hK hW.1 0 3 rfl rfl (gd_in (by decide)) dL_law_1849 ?_
    rw [show (vp_updL g 0 r.toInt64) (0 : Int32).toNatClampNeg = r.toInt64 from rfl]
    refine lv_iload hx hb dL_law_1850 (lv_at hl 0 rfl) ?_
    refine lv_i2l (v := r.toInt64) hx hb dL_law_1852 rfl ?_
    refine W.lcmp hx hb dL_law_1853 ?_
    rw [lg_cmp_self]
    refine lv_if_eq (tgt := 1859) hx hb dL_law_1854 (by decide) (fun _ => ?_) (fun c9 => absurd rfl c9)
    refine lv_goto (tgt := 2470) hx hb dL_law_1859 (by decide) ?_
    exact kk K9 M9 (vp_updL g 0 r.toInt64) H locs ls hRI hW (lv_sub hl [2, 3, 4, 5, 6] rfl)
  · refine lv_aload_n hx hb dL_law_1794 rfl (lv_at hl 1 rfl) ?_
    refine lv_aload_n hx hb dL_law_1795 rfl (lv_at hl 0 rfl) ?_
    refine lv_iload hx hb dL_law_1796 (lv_at hl 4 rfl) ?_
    refine lv_iconst (v := 1) hx hb dL_law_1798 (by decide) ?_
    refine lv_iadd hx hb dL_law_1799 ?_
    refine va_sld hx hb hX hbl hbA hW.2.2 hi1 dL_law_1800 ?_
    refine lv_aload_n hx hb dL_law_1801 rfl (lv_at hl 0 rfl) ?_
    refine lv_iload hx hb dL_law_1802 (lv_at hl 4 rfl) ?_
    refine lv_iconst (v := 2) hx hb dL_law_1804 (by decide) ?_
    refine lv_iadd hx hb dL_law_1805 ?_
    refine va_sld hx hb hX hbl hbA hW.2.2 hi2 dL_law_1806 ?_
    refine lv_aload_n hx hb dL_law_1807 rfl (lv_at hl 3 rfl) ?_
    refine l_wrap (n := 4) C0 hW (wL_fault_1 l hfl D T A ad hok (oc_X11 T am M ++ []) ao g K (xs (x4 + 1).toNatClampNeg) (xs (x4 + 2).toNatClampNeg) r K9 q1) wm40_20 wm40_21 wm9_22 wm40_22 ⟨by decide +kernel, by decide +kernel, by decide +kernel⟩ ⟨by decide, by decide⟩ hc1 hs1 rfl hl.1 rfl (Nat.le_of_ble_eq_true rfl) dL_law_1808 (fun H locs hW => ?_)
    refine lv_istore (lv' := [(5, .int 1), (0, .ref b), (1, .ref (ad 0 0)), (2, .ref (am 0)), (3, .ref ao), (4, .int x4)]) hx hb dL_law_1811 hl (by decide) rfl (fun ls hl => ?_)
    refine lv_aload_n hx hb dL_law_1813 rfl (lv_at hl 3 rfl) ?_
    refine lv_aload_n hx hb dL_law_1814 rfl (lv_at hl 1 rfl) ?_
    refine lv_iload hx hb dL_law_1815 (lv_at hl 5 rfl) ?_
    refine lv_iconst (v := 1) hx hb dL_law_1817 (by decide) ?_
    refine lv_iadd hx hb dL_law_1818 ?_
    refine va_sld hx hb hX hbl hbA hW.2.2 hi1 dL_law_1819 ?_
    refine lv_aload_n hx hb dL_law_1820 rfl (lv_at hl 1 rfl) ?_
    refine lv_iload hx hb dL_law_1821 (lv_at hl 5 rfl) ?_
    refine lv_iconst (v := 2) hx hb dL_law_1823 (by decide) ?_
    refine lv_iadd hx hb dL_law_1824 ?_
    refine va_sld hx hb hX hbl hbA hW.2.2 hi2 dL_law_1825 ?_
    have hW := hW.perm pf3
    refine l_mod (As := [.int (xs (x4 + 1).toNatClampNeg), .int (xs (x4 + 2).toNatClampNeg)]) C0 hW (g_cw (n := 2) hts wm41_18 wm41_19 wm41_20 wm1_5 wm41_21 ⟨rfl, by decide +kernel, by decide +kernel, by decide +kernel⟩ ⟨rfl, rfl⟩ ⟨by decide, by decide⟩) rfl (c_X11_fault l D T A am (outc T ao g ++ (oc_X10 T (ad 0) (bb ad) (K9 0) ++ (wkL T ad K9 L18 ++ []))) M (xs (x4 + 1).toNatClampNeg) (xs (x4 + 2).toNatClampNeg) b9 M9 q2) rfl hl.1 rfl (Nat.le_of_ble_eq_true rfl) dL_law_1826 (by omega) (by omega) (fun H locs hW => ?_)
    have hW := hW.perm pf3.symm
    refine lv_istore (lv' := [(6, .int b9), (5, .int 1), (0, .ref b), (1, .ref (ad 0 0)), (2, .ref (am 0)), (3, .ref ao), (4, .int x4)]) hx hb dL_law_1829 hl (by decide) rfl (fun ls hl => ?_)
    refine lv_aload_n hx hb dL_law_1831 rfl (lv_at hl 4 rfl) ?_
    have hW := hW.perm pf3
    refine l_mod (As := []) C0 hW (g_cw (n := 0) hts wm11_13 wm11_14 wm11_15 wm1_5 wm11_16 ⟨rfl, by decide +kernel, by decide +kernel, by decide +kernel⟩ ⟨rfl, rfl⟩ ⟨by decide, by decide⟩) rfl (c_X11_thrown l D T A am (outc T ao g ++ (oc_X10 T (ad 0) (bb ad) (K9 0) ++ (wkL T ad K9 L18 ++ []))) M9 1 q3) rfl hl.1 rfl (Nat.le_of_ble_eq_true rfl) dL_law_1832 (by omega) (by omega) (fun H locs hW => ?_)
    have hW := hW.perm pf3.symm
    refine lv_iload hx hb dL_law_1835 (lv_at hl 1 rfl) ?_
    refine lv_icmp_eq (tgt := 1842) hx hb dL_law_1837 (by decide) (fun _ => ?_) (fun c9 => absurd rfl c9)
    refine lv_iload hx hb dL_law_1842 (lv_at hl 1 rfl) ?_
    refine lv_if_ne (tgt := 1859) hx hb dL_law_1844 (by decide) (fun _ => ?_) (fun c9 => absurd c9 (by decide))
    refine lv_goto (tgt := 2470) hx hb dL_law_1859 (by decide) ?_
    exact kk K9 M9 g H locs ls hRI hW (lv_sub hl [2, 3, 4, 5, 6] rfl)
set_option maxHeartbeats 4000000 in
set_option maxRecDepth 100000 in
theorem law_fragments {RI : Nat → (Nat → Ob) → Ob → Prop} {j i : Nat} {x4 : Int32} {K : Nat → Ob} {M : Ob} {g : Nat → Int64} {H : Heap} {locs : List Loc} {cells slots : Nat} {ls : Array Slot} (C0 : LC p l s m c D T A b L xs ad) (hop : Op_fragments RI j K M (xs (x4 + 1).toNatClampNeg)) (hi : i + 6 < L) (ex4 : x4 = nI i) (hc1 : cells ≤ 2000) (hs1 : slots ≤ 400000) (hW : Wd D A s.heap (lw T ad am ao K M g) H locs) (hl : lv_has ls 7 [(0, .ref b), (1, .ref (ad 0 0)), (2, .ref (am 0)), (3, .ref ao), (4, .int x4)])
    (kk : ∀ (K9 : Nat → Ob) (M9 : Ob) (g9 : Nat → Int64) (H : Heap) (locs : List Loc) (ls : Array Slot), RI (j + 1) K9 M9 → Wd D A s.heap (lw T ad am ao K9 M9 g9) H locs → lv_has ls 7 [(0, .ref b), (1, .ref (ad 0 0)), (2, .ref (am 0)), (3, .ref ao), (4, .int x4)] → LW p l e s m b below meth c H locs (cells + 1) (slots + 6) Q (F0 m 2470 ls [])) : LW p l e s m b below meth c H locs cells slots Q (F0 m 1862 ls []) := by
  obtain ⟨hx, hb, hml, hown, hts, hX, hbl, hbA, hL, hK, hN, hE, hC, hok, hfl⟩ := id C0
  have hi1 : vp_in (x4 + 1) L := by rw [ex4, show (1 : Int32) = nI 1 from rfl, nI_add]; exact vp_in_nI (by omega) (by omega)
  unfold lw at hW
  obtain ⟨k, r, K9, b9, M9, t, q1, q2, q3, hd, hRI⟩ := hop
  rcases hd with ⟨rfl, rfl, rfl⟩ | ⟨rfl, rfl⟩
  · refine lv_aload_n hx hb dL_law_1862 rfl (lv_at hl 1 rfl) ?_
    refine lv_aload_n hx hb dL_law_1863 rfl (lv_at hl 0 rfl) ?_
    refine lv_iload hx hb dL_law_1864 (lv_at hl 4 rfl) ?_
    refine lv_iconst (v := 1) hx hb dL_law_1866 (by decide) ?_
    refine lv_iadd hx hb dL_law_1867 ?_
    refine va_sld hx hb hX hbl hbA hW.2.2 hi1 dL_law_1868 ?_
    refine lv_aload_n hx hb dL_law_1869 rfl (lv_at hl 3 rfl) ?_
    refine l_wrap (n := 3) C0 hW (wL_fragments_0 l hfl D T A ad hok (oc_X11 T am M ++ []) ao g K (xs (x4 + 1).toNatClampNeg) r K9 q1) wm41_22 wm41_23 wm9_22 wm42_0 ⟨by decide +kernel, by decide +kernel, by decide +kernel⟩ ⟨by decide, by decide⟩ hc1 hs1 rfl hl.1 rfl (Nat.le_of_ble_eq_true rfl) dL_law_1870 (fun H locs hW => ?_)
    refine lv_istore (lv' := [(5, .int 0), (0, .ref b), (1, .ref (ad 0 0)), (2, .ref (am 0)), (3, .ref ao), (4, .int x4)]) hx hb dL_law_1873 hl (by decide) rfl (fun ls hl => ?_)
    refine lv_aload_n hx hb dL_law_1875 rfl (lv_at hl 3 rfl) ?_
    refine lv_aload_n hx hb dL_law_1876 rfl (lv_at hl 1 rfl) ?_
    refine lv_iload hx hb dL_law_1877 (lv_at hl 5 rfl) ?_
    refine lv_iconst (v := 1) hx hb dL_law_1879 (by decide) ?_
    refine lv_iadd hx hb dL_law_1880 ?_
    refine va_sld hx hb hX hbl hbA hW.2.2 hi1 dL_law_1881 ?_
    have hW := hW.perm pf3
    refine l_mod (As := [.int (xs (x4 + 1).toNatClampNeg)]) C0 hW (g_cw (n := 1) hts wm42_21 wm42_22 wm42_23 wm1_5 wm43_0 ⟨rfl, by decide +kernel, by decide +kernel, by decide +kernel⟩ ⟨rfl, rfl⟩ ⟨by decide, by decide⟩) rfl (c_X11_fragments l D T A am (outc T ao (vp_updL g 0 r.toInt64) ++ (oc_X10 T (ad 0) (bb ad) (K9 0) ++ (wkL T ad K9 L18 ++ []))) M (xs (x4 + 1).toNatClampNeg) r M9 q2) rfl hl.1 rfl (Nat.le_of_ble_eq_true rfl) dL_law_1882 (by omega) (by omega) (fun H locs hW => ?_)
    have hW := hW.perm pf3.symm
    refine lv_istore (lv' := [(6, .int r), (5, .int 0), (0, .ref b), (1, .ref (ad 0 0)), (2, .ref (am 0)), (3, .ref ao), (4, .int x4)]) hx hb dL_law_1885 hl (by decide) rfl (fun ls hl => ?_)
    refine lv_aload_n hx hb dL_law_1887 rfl (lv_at hl 4 rfl) ?_
    have hW := hW.perm pf3
    refine l_mod (As := []) C0 hW (g_cw (n := 0) hts wm11_13 wm11_14 wm11_15 wm1_5 wm11_16 ⟨rfl, by decide +kernel, by decide +kernel, by decide +kernel⟩ ⟨rfl, rfl⟩ ⟨by decide, by decide⟩) rfl (c_X11_thrown l D T A am (outc T ao (vp_updL g 0 r.toInt64) ++ (oc_X10 T (ad 0) (bb ad) (K9 0) ++ (wkL T ad K9 L18 ++ []))) M9 0 q3) rfl hl.1 rfl (Nat.le_of_ble_eq_true rfl) dL_law_1888 (by omega) (by omega) (fun H locs hW => ?_)
    have hW := hW.perm pf3.symm
    refine lv_iload hx hb dL_law_1891 (lv_at hl 1 rfl) ?_
    refine lv_icmp_eq (tgt := 1898) hx hb dL_law_1893 (by decide) (fun _ => ?_) (fun c9 => absurd rfl c9)
    refine lv_iload hx hb dL_law_1898 (lv_at hl 1 rfl) ?_
    refine lv_if_ne (tgt := 1915) hx hb dL_law_1900 (by decide) (fun c9 => absurd rfl c9) (fun _ => ?_)
    refine lv_aload_n hx hb dL_law_1903 rfl (lv_at hl 5 rfl) ?_
    refine lv_iconst (v := 0) hx hb dL_law_1904 (by decide) ?_
    refine va_lald hx hb hK hW.1 0 3 rfl rfl (gd_in (by decide)) dL_law_1905 ?_
    rw [show (vp_updL g 0 r.toInt64) (0 : Int32).toNatClampNeg = r.toInt64 from rfl]
    refine lv_iload hx hb dL_law_1906 (lv_at hl 0 rfl) ?_
    refine lv_i2l (v := r.toInt64) hx hb dL_law_1908 rfl ?_
    refine W.lcmp hx hb dL_law_1909 ?_
    rw [lg_cmp_self]
    refine lv_if_eq (tgt := 1915) hx hb dL_law_1910 (by decide) (fun _ => ?_) (fun c9 => absurd rfl c9)
    refine lv_goto (tgt := 2470) hx hb dL_law_1915 (by decide) ?_
    exact kk K9 M9 (vp_updL g 0 r.toInt64) H locs ls hRI hW (lv_sub hl [2, 3, 4, 5, 6] rfl)
  · refine lv_aload_n hx hb dL_law_1862 rfl (lv_at hl 1 rfl) ?_
    refine lv_aload_n hx hb dL_law_1863 rfl (lv_at hl 0 rfl) ?_
    refine lv_iload hx hb dL_law_1864 (lv_at hl 4 rfl) ?_
    refine lv_iconst (v := 1) hx hb dL_law_1866 (by decide) ?_
    refine lv_iadd hx hb dL_law_1867 ?_
    refine va_sld hx hb hX hbl hbA hW.2.2 hi1 dL_law_1868 ?_
    refine lv_aload_n hx hb dL_law_1869 rfl (lv_at hl 3 rfl) ?_
    refine l_wrap (n := 3) C0 hW (wL_fragments_1 l hfl D T A ad hok (oc_X11 T am M ++ []) ao g K (xs (x4 + 1).toNatClampNeg) r K9 q1) wm41_22 wm41_23 wm9_22 wm42_0 ⟨by decide +kernel, by decide +kernel, by decide +kernel⟩ ⟨by decide, by decide⟩ hc1 hs1 rfl hl.1 rfl (Nat.le_of_ble_eq_true rfl) dL_law_1870 (fun H locs hW => ?_)
    refine lv_istore (lv' := [(5, .int 1), (0, .ref b), (1, .ref (ad 0 0)), (2, .ref (am 0)), (3, .ref ao), (4, .int x4)]) hx hb dL_law_1873 hl (by decide) rfl (fun ls hl => ?_)
    refine lv_aload_n hx hb dL_law_1875 rfl (lv_at hl 3 rfl) ?_
    refine lv_aload_n hx hb dL_law_1876 rfl (lv_at hl 1 rfl) ?_
    refine lv_iload hx hb dL_law_1877 (lv_at hl 5 rfl) ?_
    refine lv_iconst (v := 1) hx hb dL_law_1879 (by decide) ?_
    refine lv_iadd hx hb dL_law_1880 ?_
    refine va_sld hx hb hX hbl hbA hW.2.2 hi1 dL_law_1881 ?_
    have hW := hW.perm pf3
    refine l_mod (As := [.int (xs (x4 + 1).toNatClampNeg)]) C0 hW (g_cw (n := 1) hts wm42_21 wm42_22 wm42_23 wm1_5 wm43_0 ⟨rfl, by decide +kernel, by decide +kernel, by decide +kernel⟩ ⟨rfl, rfl⟩ ⟨by decide, by decide⟩) rfl (c_X11_fragments l D T A am (outc T ao g ++ (oc_X10 T (ad 0) (bb ad) (K9 0) ++ (wkL T ad K9 L18 ++ []))) M (xs (x4 + 1).toNatClampNeg) b9 M9 q2) rfl hl.1 rfl (Nat.le_of_ble_eq_true rfl) dL_law_1882 (by omega) (by omega) (fun H locs hW => ?_)
    have hW := hW.perm pf3.symm
    refine lv_istore (lv' := [(6, .int b9), (5, .int 1), (0, .ref b), (1, .ref (ad 0 0)), (2, .ref (am 0)), (3, .ref ao), (4, .int x4)]) hx hb dL_law_1885 hl (by decide) rfl (fun ls hl => ?_)
    refine lv_aload_n hx hb dL_law_1887 rfl (lv_at hl 4 rfl) ?_
    have hW := hW.perm pf3
    refine l_mod (As := []) C0 hW (g_cw (n := 0) hts wm11_13 wm11_14 wm11_15 wm1_5 wm11_16 ⟨rfl, by decide +kernel, by decide +kernel, by decide +kernel⟩ ⟨rfl, rfl⟩ ⟨by decide, by decide⟩) rfl (c_X11_thrown l D T A am (outc T ao g ++ (oc_X10 T (ad 0) (bb ad) (K9 0) ++ (wkL T ad K9 L18 ++ []))) M9 1 q3) rfl hl.1 rfl (Nat.le_of_ble_eq_true rfl) dL_law_1888 (by omega) (by omega) (fun H locs hW => ?_)
    have hW := hW.perm pf3.symm
    refine lv_iload hx hb dL_law_1891 (lv_at hl 1 rfl) ?_
    refine lv_icmp_eq (tgt := 1898) hx hb dL_law_1893 (by decide) (fun _ => ?_) (fun c9 => absurd rfl c9)
    refine lv_iload hx hb dL_law_1898 (lv_at hl 1 rfl) ?_
    refine lv_if_ne (tgt := 1915) hx hb dL_law_1900 (by decide) (fun _ => ?_) (fun c9 => absurd c9 (by decide))
    refine lv_goto (tgt := 2470) hx hb dL_law_1915 (by decide) ?_
    exact kk K9 M9 g H locs ls hRI hW (lv_sub hl [2, 3, 4, 5, 6] rfl)
set_option maxHeartbeats 4000000 in
set_option maxRecDepth 100000 in
theorem law_fragment {RI : Nat → (Nat → Ob) → Ob → Prop} {j i : Nat} {x4 : Int32} {K : Nat → Ob} {M : Ob} {g : Nat → Int64} {H : Heap} {locs : List Loc} {cells slots : Nat} {ls : Array Slot} (C0 : LC p l s m c D T A b L xs ad) (hop : Op_fragment RI j K M (xs (x4 + 1).toNatClampNeg) (xs (x4 + 2).toNatClampNeg)) (hi : i + 6 < L) (ex4 : x4 = nI i) (hc1 : cells ≤ 2000) (hs1 : slots ≤ 400000) (hW : Wd D A s.heap (lw T ad am ao K M g) H locs) (hl : lv_has ls 7 [(0, .ref b), (1, .ref (ad 0 0)), (2, .ref (am 0)), (3, .ref ao), (4, .int x4)])
    (kk : ∀ (K9 : Nat → Ob) (M9 : Ob) (g9 : Nat → Int64) (H : Heap) (locs : List Loc) (ls : Array Slot), RI (j + 1) K9 M9 → Wd D A s.heap (lw T ad am ao K9 M9 g9) H locs → lv_has ls 7 [(0, .ref b), (1, .ref (ad 0 0)), (2, .ref (am 0)), (3, .ref ao), (4, .int x4)] → LW p l e s m b below meth c H locs (cells + 1) (slots + 6) Q (F0 m 2470 ls [])) : LW p l e s m b below meth c H locs cells slots Q (F0 m 1918 ls []) := by
  obtain ⟨hx, hb, hml, hown, hts, hX, hbl, hbA, hL, hK, hN, hE, hC, hok, hfl⟩ := id C0
  have hi1 : vp_in (x4 + 1) L := by rw [ex4, show (1 : Int32) = nI 1 from rfl, nI_add]; exact vp_in_nI (by omega) (by omega)
  have hi2 : vp_in (x4 + 2) L := by rw [ex4, show (2 : Int32) = nI 2 from rfl, nI_add]; exact vp_in_nI (by omega) (by omega)
  unfold lw at hW
  obtain ⟨k, r, K9, b9, M9, t, q1, q2, q3, hd, hRI⟩ := hop
  rcases hd with ⟨rfl, rfl, rfl⟩ | ⟨rfl, rfl⟩
  · refine lv_aload_n hx hb dL_law_1918 rfl (lv_at hl 1 rfl) ?_
    refine lv_aload_n hx hb dL_law_1919 rfl (lv_at hl 0 rfl) ?_
    refine lv_iload hx hb dL_law_1920 (lv_at hl 4 rfl) ?_
    refine lv_iconst (v := 1) hx hb dL_law_1922 (by decide) ?_
    refine lv_iadd hx hb dL_law_1923 ?_
    refine va_sld hx hb hX hbl hbA hW.2.2 hi1 dL_law_1924 ?_
    refine lv_aload_n hx hb dL_law_1925 rfl (lv_at hl 0 rfl) ?_
    refine lv_iload hx hb dL_law_1926 (lv_at hl 4 rfl) ?_
    refine lv_iconst (v := 2) hx hb dL_law_1928 (by decide) ?_
    refine lv_iadd hx hb dL_law_1929 ?_
    refine va_sld hx hb hX hbl hbA hW.2.2 hi2 dL_law_1930 ?_
    refine lv_aload_n hx hb dL_law_1931 rfl (lv_at hl 3 rfl) ?_
    refine l_wrap (n := 4) C0 hW (wL_fragment_0 l hfl D T A ad hok (oc_X11 T am M ++ []) ao g K (xs (x4 + 1).toNatClampNeg) (xs (x4 + 2).toNatClampNeg) r K9 q1) wm43_7 wm43_8 wm9_22 wm43_9 ⟨by decide +kernel, by decide +kernel, by decide +kernel⟩ ⟨by decide, by decide⟩ hc1 hs1 rfl hl.1 rfl (Nat.le_of_ble_eq_true rfl) dL_law_1932 (fun H locs hW => ?_)
    refine lv_istore (lv' := [(5, .int 0), (0, .ref b), (1, .ref (ad 0 0)), (2, .ref (am 0)), (3, .ref ao), (4, .int x4)]) hx hb dL_law_1935 hl (by decide) rfl (fun ls hl => ?_)
    refine lv_aload_n hx hb dL_law_1937 rfl (lv_at hl 3 rfl) ?_
    refine lv_aload_n hx hb dL_law_1938 rfl (lv_at hl 1 rfl) ?_
    refine lv_iload hx hb dL_law_1939 (lv_at hl 5 rfl) ?_
    refine lv_iconst (v := 1) hx hb dL_law_1941 (by decide) ?_
    refine lv_iadd hx hb dL_law_1942 ?_
    refine va_sld hx hb hX hbl hbA hW.2.2 hi1 dL_law_1943 ?_
    refine lv_aload_n hx hb dL_law_1944 rfl (lv_at hl 1 rfl) ?_
    refine lv_iload hx hb dL_law_1945 (lv_at hl 5 rfl) ?_
    refine lv_iconst (v := 2) hx hb dL_law_1947 (by decide) ?_
    refine lv_iadd hx hb dL_law_1948 ?_
    refine va_sld hx hb hX hbl hbA hW.2.2 hi2 dL_law_1949 ?_
    have hW := hW.perm pf3
    refine l_mod (As := [.int (xs (x4 + 1).toNatClampNeg), .int (xs (x4 + 2).toNatClampNeg)]) C0 hW (g_cw (n := 2) hts wm43_23 wm44_0 wm44_1 wm1_5 wm44_2 ⟨rfl, by decide +kernel, by decide +kernel, by decide +kernel⟩ ⟨rfl, rfl⟩ ⟨by decide, by decide⟩) rfl (c_X11_fragment l D T A am (outc T ao (vp_updL g 0 r.toInt64) ++ (oc_X10 T (ad 0) (bb ad) (K9 0) ++ (wkL T ad K9 L18 ++ []))) M (xs (x4 + 1).toNatClampNeg) (xs (x4 + 2).toNatClampNeg) r M9 q2) rfl hl.1 rfl (Nat.le_of_ble_eq_true rfl) dL_law_1950 (by omega) (by omega) (fun H locs hW => ?_)
    have hW := hW.perm pf3.symm
    refine lv_istore (lv' := [(6, .int r), (5, .int 0), (0, .ref b), (1, .ref (ad 0 0)), (2, .ref (am 0)), (3, .ref ao), (4, .int x4)]) hx hb dL_law_1953 hl (by decide) rfl (fun ls hl => ?_)
    refine lv_aload_n hx hb dL_law_1955 rfl (lv_at hl 4 rfl) ?_
    have hW := hW.perm pf3
    refine l_mod (As := []) C0 hW (g_cw (n := 0) hts wm11_13 wm11_14 wm11_15 wm1_5 wm11_16 ⟨rfl, by decide +kernel, by decide +kernel, by decide +kernel⟩ ⟨rfl, rfl⟩ ⟨by decide, by decide⟩) rfl (c_X11_thrown l D T A am (outc T ao (vp_updL g 0 r.toInt64) ++ (oc_X10 T (ad 0) (bb ad) (K9 0) ++ (wkL T ad K9 L18 ++ []))) M9 0 q3) rfl hl.1 rfl (Nat.le_of_ble_eq_true rfl) dL_law_1956 (by omega) (by omega) (fun H locs hW => ?_)
    have hW := hW.perm pf3.symm
    refine lv_iload hx hb dL_law_1959 (lv_at hl 1 rfl) ?_
    refine lv_icmp_eq (tgt := 1966) hx hb dL_law_1961 (by decide) (fun _ => ?_) (fun c9 => absurd rfl c9)
    refine lv_iload hx hb dL_law_1966 (lv_at hl 1 rfl) ?_
    refine lv_if_ne (tgt := 1983) hx hb dL_law_1968 (by decide) (fun c9 => absurd rfl c9) (fun _ => ?_)
    refine lv_aload_n hx hb dL_law_1971 rfl (lv_at hl 5 rfl) ?_
    refine lv_iconst (v := 0) hx hb dL_law_1972 (by decide) ?_
    refine va_lald hx hb hK hW.1 0 3 rfl rfl (gd_in (by decide)) dL_law_1973 ?_
    rw [show (vp_updL g 0 r.toInt64) (0 : Int32).toNatClampNeg = r.toInt64 from rfl]
    refine lv_iload hx hb dL_law_1974 (lv_at hl 0 rfl) ?_
    refine lv_i2l (v := r.toInt64) hx hb dL_law_1976 rfl ?_
    refine W.lcmp hx hb dL_law_1977 ?_
    rw [lg_cmp_self]
    refine lv_if_eq (tgt := 1983) hx hb dL_law_1978 (by decide) (fun _ => ?_) (fun c9 => absurd rfl c9)
    refine lv_goto (tgt := 2470) hx hb dL_law_1983 (by decide) ?_
    exact kk K9 M9 (vp_updL g 0 r.toInt64) H locs ls hRI hW (lv_sub hl [2, 3, 4, 5, 6] rfl)
  · refine lv_aload_n hx hb dL_law_1918 rfl (lv_at hl 1 rfl) ?_
    refine lv_aload_n hx hb dL_law_1919 rfl (lv_at hl 0 rfl) ?_
    refine lv_iload hx hb dL_law_1920 (lv_at hl 4 rfl) ?_
    refine lv_iconst (v := 1) hx hb dL_law_1922 (by decide) ?_
    refine lv_iadd hx hb dL_law_1923 ?_
    refine va_sld hx hb hX hbl hbA hW.2.2 hi1 dL_law_1924 ?_
    refine lv_aload_n hx hb dL_law_1925 rfl (lv_at hl 0 rfl) ?_
    refine lv_iload hx hb dL_law_1926 (lv_at hl 4 rfl) ?_
    refine lv_iconst (v := 2) hx hb dL_law_1928 (by decide) ?_
    refine lv_iadd hx hb dL_law_1929 ?_
    refine va_sld hx hb hX hbl hbA hW.2.2 hi2 dL_law_1930 ?_
    refine lv_aload_n hx hb dL_law_1931 rfl (lv_at hl 3 rfl) ?_
    refine l_wrap (n := 4) C0 hW (wL_fragment_1 l hfl D T A ad hok (oc_X11 T am M ++ []) ao g K (xs (x4 + 1).toNatClampNeg) (xs (x4 + 2).toNatClampNeg) r K9 q1) wm43_7 wm43_8 wm9_22 wm43_9 ⟨by decide +kernel, by decide +kernel, by decide +kernel⟩ ⟨by decide, by decide⟩ hc1 hs1 rfl hl.1 rfl (Nat.le_of_ble_eq_true rfl) dL_law_1932 (fun H locs hW => ?_)
    refine lv_istore (lv' := [(5, .int 1), (0, .ref b), (1, .ref (ad 0 0)), (2, .ref (am 0)), (3, .ref ao), (4, .int x4)]) hx hb dL_law_1935 hl (by decide) rfl (fun ls hl => ?_)
    refine lv_aload_n hx hb dL_law_1937 rfl (lv_at hl 3 rfl) ?_
    refine lv_aload_n hx hb dL_law_1938 rfl (lv_at hl 1 rfl) ?_
    refine lv_iload hx hb dL_law_1939 (lv_at hl 5 rfl) ?_
    refine lv_iconst (v := 1) hx hb dL_law_1941 (by decide) ?_
    refine lv_iadd hx hb dL_law_1942 ?_
    refine va_sld hx hb hX hbl hbA hW.2.2 hi1 dL_law_1943 ?_
    refine lv_aload_n hx hb dL_law_1944 rfl (lv_at hl 1 rfl) ?_
    refine lv_iload hx hb dL_law_1945 (lv_at hl 5 rfl) ?_
    refine lv_iconst (v := 2) hx hb dL_law_1947 (by decide) ?_
    refine lv_iadd hx hb dL_law_1948 ?_
    refine va_sld hx hb hX hbl hbA hW.2.2 hi2 dL_law_1949 ?_
    have hW := hW.perm pf3
    refine l_mod (As := [.int (xs (x4 + 1).toNatClampNeg), .int (xs (x4 + 2).toNatClampNeg)]) C0 hW (g_cw (n := 2) hts wm43_23 wm44_0 wm44_1 wm1_5 wm44_2 ⟨rfl, by decide +kernel, by decide +kernel, by decide +kernel⟩ ⟨rfl, rfl⟩ ⟨by decide, by decide⟩) rfl (c_X11_fragment l D T A am (outc T ao g ++ (oc_X10 T (ad 0) (bb ad) (K9 0) ++ (wkL T ad K9 L18 ++ []))) M (xs (x4 + 1).toNatClampNeg) (xs (x4 + 2).toNatClampNeg) b9 M9 q2) rfl hl.1 rfl (Nat.le_of_ble_eq_true rfl) dL_law_1950 (by omega) (by omega) (fun H locs hW => ?_)
    have hW := hW.perm pf3.symm
    refine lv_istore (lv' := [(6, .int b9), (5, .int 1), (0, .ref b), (1, .ref (ad 0 0)), (2, .ref (am 0)), (3, .ref ao), (4, .int x4)]) hx hb dL_law_1953 hl (by decide) rfl (fun ls hl => ?_)
    refine lv_aload_n hx hb dL_law_1955 rfl (lv_at hl 4 rfl) ?_
    have hW := hW.perm pf3
    refine l_mod (As := []) C0 hW (g_cw (n := 0) hts wm11_13 wm11_14 wm11_15 wm1_5 wm11_16 ⟨rfl, by decide +kernel, by decide +kernel, by decide +kernel⟩ ⟨rfl, rfl⟩ ⟨by decide, by decide⟩) rfl (c_X11_thrown l D T A am (outc T ao g ++ (oc_X10 T (ad 0) (bb ad) (K9 0) ++ (wkL T ad K9 L18 ++ []))) M9 1 q3) rfl hl.1 rfl (Nat.le_of_ble_eq_true rfl) dL_law_1956 (by omega) (by omega) (fun H locs hW => ?_)
    have hW := hW.perm pf3.symm
    refine lv_iload hx hb dL_law_1959 (lv_at hl 1 rfl) ?_
    refine lv_icmp_eq (tgt := 1966) hx hb dL_law_1961 (by decide) (fun _ => ?_) (fun c9 => absurd rfl c9)
    refine lv_iload hx hb dL_law_1966 (lv_at hl 1 rfl) ?_
    refine lv_if_ne (tgt := 1983) hx hb dL_law_1968 (by decide) (fun _ => ?_) (fun c9 => absurd c9 (by decide))
    refine lv_goto (tgt := 2470) hx hb dL_law_1983 (by decide) ?_
    exact kk K9 M9 g H locs ls hRI hW (lv_sub hl [2, 3, 4, 5, 6] rfl)
set_option maxHeartbeats 4000000 in
set_option maxRecDepth 100000 in
theorem law_mend {RI : Nat → (Nat → Ob) → Ob → Prop} {j i : Nat} {x4 : Int32} {K : Nat → Ob} {M : Ob} {g : Nat → Int64} {H : Heap} {locs : List Loc} {cells slots : Nat} {ls : Array Slot} (C0 : LC p l s m c D T A b L xs ad) (hop : Op_mend RI j K M (xs (x4 + 1).toNatClampNeg) (xs (x4 + 2).toNatClampNeg)) (hi : i + 6 < L) (ex4 : x4 = nI i) (hc1 : cells ≤ 2000) (hs1 : slots ≤ 400000) (hW : Wd D A s.heap (lw T ad am ao K M g) H locs) (hl : lv_has ls 7 [(0, .ref b), (1, .ref (ad 0 0)), (2, .ref (am 0)), (3, .ref ao), (4, .int x4)])
    (kk : ∀ (K9 : Nat → Ob) (M9 : Ob) (g9 : Nat → Int64) (H : Heap) (locs : List Loc) (ls : Array Slot), RI (j + 1) K9 M9 → Wd D A s.heap (lw T ad am ao K9 M9 g9) H locs → lv_has ls 7 [(0, .ref b), (1, .ref (ad 0 0)), (2, .ref (am 0)), (3, .ref ao), (4, .int x4)] → LW p l e s m b below meth c H locs (cells + 1) (slots + 6) Q (F0 m 2470 ls [])) : LW p l e s m b below meth c H locs cells slots Q (F0 m 1986 ls []) := by
  obtain ⟨hx, hb, hml, hown, hts, hX, hbl, hbA, hL, hK, hN, hE, hC, hok, hfl⟩ := id C0
  have hi1 : vp_in (x4 + 1) L := by rw [ex4, show (1 : Int32) = nI 1 from rfl, nI_add]; exact vp_in_nI (by omega) (by omega)
  have hi2 : vp_in (x4 + 2) L := by rw [ex4, show (2 : Int32) = nI 2 from rfl, nI_add]; exact vp_in_nI (by omega) (by omega)
  unfold lw at hW
  obtain ⟨k, r, K9, b9, M9, t, q1, q2, q3, hd, hRI⟩ := hop
  rcases hd with ⟨rfl, rfl, rfl⟩ | ⟨rfl, rfl⟩
  · refine lv_aload_n hx hb dL_law_1986 rfl (lv_at hl 1 rfl) ?_
    refine lv_aload_n hx hb dL_law_1987 rfl (lv_at hl 0 rfl) ?_
    refine lv_iload hx hb dL_law_1988 (lv_at hl 4 rfl) ?_
    refine lv_iconst (v := 1) hx hb dL_law_1990 (by decide) ?_
    refine lv_iadd hx hb dL_law_1991 ?_
    refine va_sld hx hb hX hbl hbA hW.2.2 hi1 dL_law_1992 ?_
    refine lv_aload_n hx hb dL_law_1993 rfl (lv_at hl 0 rfl) ?_
    refine lv_iload hx hb dL_law_1994 (lv_at hl 4 rfl) ?_
    refine lv_iconst (v := 2) hx hb dL_law_1996 (by decide) ?_
    refine lv_iadd hx hb dL_law_1997 ?_
    refine va_sld hx hb hX hbl hbA hW.2.2 hi2 dL_law_1998 ?_
    refine lv_aload_n hx hb dL_law_1999 rfl (lv_at hl 3 rfl) ?_
    refine l_wrap (n := 4) C0 hW (wL_mend_0 l hfl D T A ad hok (oc_X11 T am M ++ []) ao g K (xs (x4 + 1).toNatClampNeg) (xs (x4 + 2).toNatClampNeg) r K9 q1) wm44_3 wm44_4 wm9_22 wm44_5 ⟨by decide +kernel, by decide +kernel, by decide +kernel⟩ ⟨by decide, by decide⟩ hc1 hs1 rfl hl.1 rfl (Nat.le_of_ble_eq_true rfl) dL_law_2000 (fun H locs hW => ?_)
    refine lv_istore (lv' := [(5, .int 0), (0, .ref b), (1, .ref (ad 0 0)), (2, .ref (am 0)), (3, .ref ao), (4, .int x4)]) hx hb dL_law_2003 hl (by decide) rfl (fun ls hl => ?_)
    refine lv_aload_n hx hb dL_law_2005 rfl (lv_at hl 3 rfl) ?_
    refine lv_aload_n hx hb dL_law_2006 rfl (lv_at hl 1 rfl) ?_
    refine lv_iload hx hb dL_law_2007 (lv_at hl 5 rfl) ?_
    refine lv_iconst (v := 1) hx hb dL_law_2009 (by decide) ?_
    refine lv_iadd hx hb dL_law_2010 ?_
    refine va_sld hx hb hX hbl hbA hW.2.2 hi1 dL_law_2011 ?_
    refine lv_aload_n hx hb dL_law_2012 rfl (lv_at hl 1 rfl) ?_
    refine lv_iload hx hb dL_law_2013 (lv_at hl 5 rfl) ?_
    refine lv_iconst (v := 2) hx hb dL_law_2015 (by decide) ?_
    refine lv_iadd hx hb dL_law_2016 ?_
    refine va_sld hx hb hX hbl hbA hW.2.2 hi2 dL_law_2017 ?_
    have hW := hW.perm pf3
    refine l_mod (As := [.int (xs (x4 + 1).toNatClampNeg), .int (xs (x4 + 2).toNatClampNeg)]) C0 hW (g_cw (n := 2) hts wm47_10 wm47_11 wm47_12 wm1_5 wm47_13 ⟨rfl, by decide +kernel, by decide +kernel, by decide +kernel⟩ ⟨rfl, rfl⟩ ⟨by decide, by decide⟩) rfl (c_X11_mend l D T A am (outc T ao (vp_updL g 0 r.toInt64) ++ (oc_X10 T (ad 0) (bb ad) (K9 0) ++ (wkL T ad K9 L18 ++ []))) M (xs (x4 + 1).toNatClampNeg) (xs (x4 + 2).toNatClampNeg) r M9 q2) rfl hl.1 rfl (Nat.le_of_ble_eq_true rfl) dL_law_2018 (by omega) (by omega) (fun H locs hW => ?_)
    have hW := hW.perm pf3.symm
    refine lv_istore (lv' := [(6, .int r), (5, .int 0), (0, .ref b), (1, .ref (ad 0 0)), (2, .ref (am 0)), (3, .ref ao), (4, .int x4)]) hx hb dL_law_2021 hl (by decide) rfl (fun ls hl => ?_)
    refine lv_aload_n hx hb dL_law_2023 rfl (lv_at hl 4 rfl) ?_
    have hW := hW.perm pf3
    refine l_mod (As := []) C0 hW (g_cw (n := 0) hts wm11_13 wm11_14 wm11_15 wm1_5 wm11_16 ⟨rfl, by decide +kernel, by decide +kernel, by decide +kernel⟩ ⟨rfl, rfl⟩ ⟨by decide, by decide⟩) rfl (c_X11_thrown l D T A am (outc T ao (vp_updL g 0 r.toInt64) ++ (oc_X10 T (ad 0) (bb ad) (K9 0) ++ (wkL T ad K9 L18 ++ []))) M9 0 q3) rfl hl.1 rfl (Nat.le_of_ble_eq_true rfl) dL_law_2024 (by omega) (by omega) (fun H locs hW => ?_)
    have hW := hW.perm pf3.symm
    refine lv_iload hx hb dL_law_2027 (lv_at hl 1 rfl) ?_
    refine lv_icmp_eq (tgt := 2034) hx hb dL_law_2029 (by decide) (fun _ => ?_) (fun c9 => absurd rfl c9)
    refine lv_iload hx hb dL_law_2034 (lv_at hl 1 rfl) ?_
    refine lv_if_ne (tgt := 2051) hx hb dL_law_2036 (by decide) (fun c9 => absurd rfl c9) (fun _ => ?_)
    refine lv_aload_n hx hb dL_law_2039 rfl (lv_at hl 5 rfl) ?_
    refine lv_iconst (v := 0) hx hb dL_law_2040 (by decide) ?_
    refine va_lald hx hb hK hW.1 0 3 rfl rfl (gd_in (by decide)) dL_law_2041 ?_
    rw [show (vp_updL g 0 r.toInt64) (0 : Int32).toNatClampNeg = r.toInt64 from rfl]
    refine lv_iload hx hb dL_law_2042 (lv_at hl 0 rfl) ?_
    refine lv_i2l (v := r.toInt64) hx hb dL_law_2044 rfl ?_
    refine W.lcmp hx hb dL_law_2045 ?_
    rw [lg_cmp_self]
    refine lv_if_eq (tgt := 2051) hx hb dL_law_2046 (by decide) (fun _ => ?_) (fun c9 => absurd rfl c9)
    refine lv_goto (tgt := 2470) hx hb dL_law_2051 (by decide) ?_
    exact kk K9 M9 (vp_updL g 0 r.toInt64) H locs ls hRI hW (lv_sub hl [2, 3, 4, 5, 6] rfl)
  · refine lv_aload_n hx hb dL_law_1986 rfl (lv_at hl 1 rfl) ?_
    refine lv_aload_n hx hb dL_law_1987 rfl (lv_at hl 0 rfl) ?_
    refine lv_iload hx hb dL_law_1988 (lv_at hl 4 rfl) ?_
    refine lv_iconst (v := 1) hx hb dL_law_1990 (by decide) ?_
    refine lv_iadd hx hb dL_law_1991 ?_
    refine va_sld hx hb hX hbl hbA hW.2.2 hi1 dL_law_1992 ?_
    refine lv_aload_n hx hb dL_law_1993 rfl (lv_at hl 0 rfl) ?_
    refine lv_iload hx hb dL_law_1994 (lv_at hl 4 rfl) ?_
    refine lv_iconst (v := 2) hx hb dL_law_1996 (by decide) ?_
    refine lv_iadd hx hb dL_law_1997 ?_
    refine va_sld hx hb hX hbl hbA hW.2.2 hi2 dL_law_1998 ?_
    refine lv_aload_n hx hb dL_law_1999 rfl (lv_at hl 3 rfl) ?_
    refine l_wrap (n := 4) C0 hW (wL_mend_1 l hfl D T A ad hok (oc_X11 T am M ++ []) ao g K (xs (x4 + 1).toNatClampNeg) (xs (x4 + 2).toNatClampNeg) r K9 q1) wm44_3 wm44_4 wm9_22 wm44_5 ⟨by decide +kernel, by decide +kernel, by decide +kernel⟩ ⟨by decide, by decide⟩ hc1 hs1 rfl hl.1 rfl (Nat.le_of_ble_eq_true rfl) dL_law_2000 (fun H locs hW => ?_)
    refine lv_istore (lv' := [(5, .int 1), (0, .ref b), (1, .ref (ad 0 0)), (2, .ref (am 0)), (3, .ref ao), (4, .int x4)]) hx hb dL_law_2003 hl (by decide) rfl (fun ls hl => ?_)
    refine lv_aload_n hx hb dL_law_2005 rfl (lv_at hl 3 rfl) ?_
    refine lv_aload_n hx hb dL_law_2006 rfl (lv_at hl 1 rfl) ?_
    refine lv_iload hx hb dL_law_2007 (lv_at hl 5 rfl) ?_
    refine lv_iconst (v := 1) hx hb dL_law_2009 (by decide) ?_
    refine lv_iadd hx hb dL_law_2010 ?_
    refine va_sld hx hb hX hbl hbA hW.2.2 hi1 dL_law_2011 ?_
    refine lv_aload_n hx hb dL_law_2012 rfl (lv_at hl 1 rfl) ?_
    refine lv_iload hx hb dL_law_2013 (lv_at hl 5 rfl) ?_
    refine lv_iconst (v := 2) hx hb dL_law_2015 (by decide) ?_
    refine lv_iadd hx hb dL_law_2016 ?_
    refine va_sld hx hb hX hbl hbA hW.2.2 hi2 dL_law_2017 ?_
    have hW := hW.perm pf3
    refine l_mod (As := [.int (xs (x4 + 1).toNatClampNeg), .int (xs (x4 + 2).toNatClampNeg)]) C0 hW (g_cw (n := 2) hts wm47_10 wm47_11 wm47_12 wm1_5 wm47_13 ⟨rfl, by decide +kernel, by decide +kernel, by decide +kernel⟩ ⟨rfl, rfl⟩ ⟨by decide, by decide⟩) rfl (c_X11_mend l D T A am (outc T ao g ++ (oc_X10 T (ad 0) (bb ad) (K9 0) ++ (wkL T ad K9 L18 ++ []))) M (xs (x4 + 1).toNatClampNeg) (xs (x4 + 2).toNatClampNeg) b9 M9 q2) rfl hl.1 rfl (Nat.le_of_ble_eq_true rfl) dL_law_2018 (by omega) (by omega) (fun H locs hW => ?_)
    have hW := hW.perm pf3.symm
    refine lv_istore (lv' := [(6, .int b9), (5, .int 1), (0, .ref b), (1, .ref (ad 0 0)), (2, .ref (am 0)), (3, .ref ao), (4, .int x4)]) hx hb dL_law_2021 hl (by decide) rfl (fun ls hl => ?_)
    refine lv_aload_n hx hb dL_law_2023 rfl (lv_at hl 4 rfl) ?_
    have hW := hW.perm pf3
    refine l_mod (As := []) C0 hW (g_cw (n := 0) hts wm11_13 wm11_14 wm11_15 wm1_5 wm11_16 ⟨rfl, by decide +kernel, by decide +kernel, by decide +kernel⟩ ⟨rfl, rfl⟩ ⟨by decide, by decide⟩) rfl (c_X11_thrown l D T A am (outc T ao g ++ (oc_X10 T (ad 0) (bb ad) (K9 0) ++ (wkL T ad K9 L18 ++ []))) M9 1 q3) rfl hl.1 rfl (Nat.le_of_ble_eq_true rfl) dL_law_2024 (by omega) (by omega) (fun H locs hW => ?_)
    have hW := hW.perm pf3.symm
    refine lv_iload hx hb dL_law_2027 (lv_at hl 1 rfl) ?_
    refine lv_icmp_eq (tgt := 2034) hx hb dL_law_2029 (by decide) (fun _ => ?_) (fun c9 => absurd rfl c9)
    refine lv_iload hx hb dL_law_2034 (lv_at hl 1 rfl) ?_
    refine lv_if_ne (tgt := 2051) hx hb dL_law_2036 (by decide) (fun _ => ?_) (fun c9 => absurd c9 (by decide))
    refine lv_goto (tgt := 2470) hx hb dL_law_2051 (by decide) ?_
    exact kk K9 M9 g H locs ls hRI hW (lv_sub hl [2, 3, 4, 5, 6] rfl)
set_option maxHeartbeats 4000000 in
set_option maxRecDepth 100000 in
theorem law_best {RI : Nat → (Nat → Ob) → Ob → Prop} {j i : Nat} {x4 : Int32} {K : Nat → Ob} {M : Ob} {g : Nat → Int64} {H : Heap} {locs : List Loc} {cells slots : Nat} {ls : Array Slot} (C0 : LC p l s m c D T A b L xs ad) (hop : Op_best RI j K M (xs (x4 + 1).toNatClampNeg)) (hi : i + 6 < L) (ex4 : x4 = nI i) (hc1 : cells ≤ 2000) (hs1 : slots ≤ 400000) (hW : Wd D A s.heap (lw T ad am ao K M g) H locs) (hl : lv_has ls 7 [(0, .ref b), (1, .ref (ad 0 0)), (2, .ref (am 0)), (3, .ref ao), (4, .int x4)])
    (kk : ∀ (K9 : Nat → Ob) (M9 : Ob) (g9 : Nat → Int64) (H : Heap) (locs : List Loc) (ls : Array Slot), RI (j + 1) K9 M9 → Wd D A s.heap (lw T ad am ao K9 M9 g9) H locs → lv_has ls 7 [(0, .ref b), (1, .ref (ad 0 0)), (2, .ref (am 0)), (3, .ref ao), (4, .int x4)] → LW p l e s m b below meth c H locs (cells + 1) (slots + 6) Q (F0 m 2470 ls [])) : LW p l e s m b below meth c H locs cells slots Q (F0 m 2054 ls []) := by
  obtain ⟨hx, hb, hml, hown, hts, hX, hbl, hbA, hL, hK, hN, hE, hC, hok, hfl⟩ := id C0
  have hi1 : vp_in (x4 + 1) L := by rw [ex4, show (1 : Int32) = nI 1 from rfl, nI_add]; exact vp_in_nI (by omega) (by omega)
  unfold lw at hW
  obtain ⟨k, r, K9, b9, M9, t, q1, q2, q3, hd, hRI⟩ := hop
  rcases hd with ⟨rfl, rfl, rfl⟩ | ⟨rfl, rfl⟩
  · refine lv_aload_n hx hb dL_law_2054 rfl (lv_at hl 1 rfl) ?_
    refine lv_aload_n hx hb dL_law_2055 rfl (lv_at hl 0 rfl) ?_
    refine lv_iload hx hb dL_law_2056 (lv_at hl 4 rfl) ?_
    refine lv_iconst (v := 1) hx hb dL_law_2058 (by decide) ?_
    refine lv_iadd hx hb dL_law_2059 ?_
    refine va_sld hx hb hX hbl hbA hW.2.2 hi1 dL_law_2060 ?_
    refine lv_aload_n hx hb dL_law_2061 rfl (lv_at hl 3 rfl) ?_
    refine l_wrap (n := 3) C0 hW (wL_best_0 l hfl D T A ad hok (oc_X11 T am M ++ []) ao g K (xs (x4 + 1).toNatClampNeg) r K9 q1) wm48_6 wm48_7 wm9_22 wm48_8 ⟨by decide +kernel, by decide +kernel, by decide +kernel⟩ ⟨by decide, by decide⟩ hc1 hs1 rfl hl.1 rfl (Nat.le_of_ble_eq_true rfl) dL_law_2062 (fun H locs hW => ?_)
    refine lv_istore (lv' := [(5, .int 0), (0, .ref b), (1, .ref (ad 0 0)), (2, .ref (am 0)), (3, .ref ao), (4, .int x4)]) hx hb dL_law_2065 hl (by decide) rfl (fun ls hl => ?_)
    refine lv_aload_n hx hb dL_law_2067 rfl (lv_at hl 3 rfl) ?_
    refine lv_aload_n hx hb dL_law_2068 rfl (lv_at hl 1 rfl) ?_
    refine lv_iload hx hb dL_law_2069 (lv_at hl 5 rfl) ?_
    refine lv_iconst (v := 1) hx hb dL_law_2071 (by decide) ?_
    refine lv_iadd hx hb dL_law_2072 ?_
    refine va_sld hx hb hX hbl hbA hW.2.2 hi1 dL_law_2073 ?_
    have hW := hW.perm pf3
    refine l_mod (As := [.int (xs (x4 + 1).toNatClampNeg)]) C0 hW (g_cw (n := 1) hts wm49_1 wm49_2 wm49_3 wm1_5 wm49_4 ⟨rfl, by decide +kernel, by decide +kernel, by decide +kernel⟩ ⟨rfl, rfl⟩ ⟨by decide, by decide⟩) rfl (c_X11_best l D T A am (outc T ao (vp_updL g 0 r.toInt64) ++ (oc_X10 T (ad 0) (bb ad) (K9 0) ++ (wkL T ad K9 L18 ++ []))) M (xs (x4 + 1).toNatClampNeg) r M9 q2) rfl hl.1 rfl (Nat.le_of_ble_eq_true rfl) dL_law_2074 (by omega) (by omega) (fun H locs hW => ?_)
    have hW := hW.perm pf3.symm
    refine lv_istore (lv' := [(6, .int r), (5, .int 0), (0, .ref b), (1, .ref (ad 0 0)), (2, .ref (am 0)), (3, .ref ao), (4, .int x4)]) hx hb dL_law_2077 hl (by decide) rfl (fun ls hl => ?_)
    refine lv_aload_n hx hb dL_law_2079 rfl (lv_at hl 4 rfl) ?_
    have hW := hW.perm pf3
    refine l_mod (As := []) C0 hW (g_cw (n := 0) hts wm11_13 wm11_14 wm11_15 wm1_5 wm11_16 ⟨rfl, by decide +kernel, by decide +kernel, by decide +kernel⟩ ⟨rfl, rfl⟩ ⟨by decide, by decide⟩) rfl (c_X11_thrown l D T A am (outc T ao (vp_updL g 0 r.toInt64) ++ (oc_X10 T (ad 0) (bb ad) (K9 0) ++ (wkL T ad K9 L18 ++ []))) M9 0 q3) rfl hl.1 rfl (Nat.le_of_ble_eq_true rfl) dL_law_2080 (by omega) (by omega) (fun H locs hW => ?_)
    have hW := hW.perm pf3.symm
    refine lv_iload hx hb dL_law_2083 (lv_at hl 1 rfl) ?_
    refine lv_icmp_eq (tgt := 2090) hx hb dL_law_2085 (by decide) (fun _ => ?_) (fun c9 => absurd rfl c9)
    refine lv_iload hx hb dL_law_2090 (lv_at hl 1 rfl) ?_
    refine lv_if_ne (tgt := 2107) hx hb dL_law_2092 (by decide) (fun c9 => absurd rfl c9) (fun _ => ?_)
    refine lv_aload_n hx hb dL_law_2095 rfl (lv_at hl 5 rfl) ?_
    refine lv_iconst (v := 0) hx hb dL_law_2096 (by decide) ?_
    refine va_lald hx hb hK hW.1 0 3 rfl rfl (gd_in (by decide)) dL_law_2097 ?_
    rw [show (vp_updL g 0 r.toInt64) (0 : Int32).toNatClampNeg = r.toInt64 from rfl]
    refine lv_iload hx hb dL_law_2098 (lv_at hl 0 rfl) ?_
    refine lv_i2l (v := r.toInt64) hx hb dL_law_2100 rfl ?_
    refine W.lcmp hx hb dL_law_2101 ?_
    rw [lg_cmp_self]
    refine lv_if_eq (tgt := 2107) hx hb dL_law_2102 (by decide) (fun _ => ?_) (fun c9 => absurd rfl c9)
    refine lv_goto (tgt := 2470) hx hb dL_law_2107 (by decide) ?_
    exact kk K9 M9 (vp_updL g 0 r.toInt64) H locs ls hRI hW (lv_sub hl [2, 3, 4, 5, 6] rfl)
  · refine lv_aload_n hx hb dL_law_2054 rfl (lv_at hl 1 rfl) ?_
    refine lv_aload_n hx hb dL_law_2055 rfl (lv_at hl 0 rfl) ?_
    refine lv_iload hx hb dL_law_2056 (lv_at hl 4 rfl) ?_
    refine lv_iconst (v := 1) hx hb dL_law_2058 (by decide) ?_
    refine lv_iadd hx hb dL_law_2059 ?_
    refine va_sld hx hb hX hbl hbA hW.2.2 hi1 dL_law_2060 ?_
    refine lv_aload_n hx hb dL_law_2061 rfl (lv_at hl 3 rfl) ?_
    refine l_wrap (n := 3) C0 hW (wL_best_1 l hfl D T A ad hok (oc_X11 T am M ++ []) ao g K (xs (x4 + 1).toNatClampNeg) r K9 q1) wm48_6 wm48_7 wm9_22 wm48_8 ⟨by decide +kernel, by decide +kernel, by decide +kernel⟩ ⟨by decide, by decide⟩ hc1 hs1 rfl hl.1 rfl (Nat.le_of_ble_eq_true rfl) dL_law_2062 (fun H locs hW => ?_)
    refine lv_istore (lv' := [(5, .int 1), (0, .ref b), (1, .ref (ad 0 0)), (2, .ref (am 0)), (3, .ref ao), (4, .int x4)]) hx hb dL_law_2065 hl (by decide) rfl (fun ls hl => ?_)
    refine lv_aload_n hx hb dL_law_2067 rfl (lv_at hl 3 rfl) ?_
    refine lv_aload_n hx hb dL_law_2068 rfl (lv_at hl 1 rfl) ?_
    refine lv_iload hx hb dL_law_2069 (lv_at hl 5 rfl) ?_
    refine lv_iconst (v := 1) hx hb dL_law_2071 (by decide) ?_
    refine lv_iadd hx hb dL_law_2072 ?_
    refine va_sld hx hb hX hbl hbA hW.2.2 hi1 dL_law_2073 ?_
    have hW := hW.perm pf3
    refine l_mod (As := [.int (xs (x4 + 1).toNatClampNeg)]) C0 hW (g_cw (n := 1) hts wm49_1 wm49_2 wm49_3 wm1_5 wm49_4 ⟨rfl, by decide +kernel, by decide +kernel, by decide +kernel⟩ ⟨rfl, rfl⟩ ⟨by decide, by decide⟩) rfl (c_X11_best l D T A am (outc T ao g ++ (oc_X10 T (ad 0) (bb ad) (K9 0) ++ (wkL T ad K9 L18 ++ []))) M (xs (x4 + 1).toNatClampNeg) b9 M9 q2) rfl hl.1 rfl (Nat.le_of_ble_eq_true rfl) dL_law_2074 (by omega) (by omega) (fun H locs hW => ?_)
    have hW := hW.perm pf3.symm
    refine lv_istore (lv' := [(6, .int b9), (5, .int 1), (0, .ref b), (1, .ref (ad 0 0)), (2, .ref (am 0)), (3, .ref ao), (4, .int x4)]) hx hb dL_law_2077 hl (by decide) rfl (fun ls hl => ?_)
    refine lv_aload_n hx hb dL_law_2079 rfl (lv_at hl 4 rfl) ?_
    have hW := hW.perm pf3
    refine l_mod (As := []) C0 hW (g_cw (n := 0) hts wm11_13 wm11_14 wm11_15 wm1_5 wm11_16 ⟨rfl, by decide +kernel, by decide +kernel, by decide +kernel⟩ ⟨rfl, rfl⟩ ⟨by decide, by decide⟩) rfl (c_X11_thrown l D T A am (outc T ao g ++ (oc_X10 T (ad 0) (bb ad) (K9 0) ++ (wkL T ad K9 L18 ++ []))) M9 1 q3) rfl hl.1 rfl (Nat.le_of_ble_eq_true rfl) dL_law_2080 (by omega) (by omega) (fun H locs hW => ?_)
    have hW := hW.perm pf3.symm
    refine lv_iload hx hb dL_law_2083 (lv_at hl 1 rfl) ?_
    refine lv_icmp_eq (tgt := 2090) hx hb dL_law_2085 (by decide) (fun _ => ?_) (fun c9 => absurd rfl c9)
    refine lv_iload hx hb dL_law_2090 (lv_at hl 1 rfl) ?_
    refine lv_if_ne (tgt := 2107) hx hb dL_law_2092 (by decide) (fun _ => ?_) (fun c9 => absurd c9 (by decide))
    refine lv_goto (tgt := 2470) hx hb dL_law_2107 (by decide) ?_
    exact kk K9 M9 g H locs ls hRI hW (lv_sub hl [2, 3, 4, 5, 6] rfl)
set_option maxHeartbeats 4000000 in
set_option maxRecDepth 100000 in
theorem law_mendAll {RI : Nat → (Nat → Ob) → Ob → Prop} {j i : Nat} {x4 : Int32} {K : Nat → Ob} {M : Ob} {g : Nat → Int64} {H : Heap} {locs : List Loc} {cells slots : Nat} {ls : Array Slot} (C0 : LC p l s m c D T A b L xs ad) (hop : Op_mendAll RI j K M (xs (x4 + 1).toNatClampNeg)) (hi : i + 6 < L) (ex4 : x4 = nI i) (hc1 : cells ≤ 2000) (hs1 : slots ≤ 400000) (hW : Wd D A s.heap (lw T ad am ao K M g) H locs) (hl : lv_has ls 7 [(0, .ref b), (1, .ref (ad 0 0)), (2, .ref (am 0)), (3, .ref ao), (4, .int x4)])
    (kk : ∀ (K9 : Nat → Ob) (M9 : Ob) (g9 : Nat → Int64) (H : Heap) (locs : List Loc) (ls : Array Slot), RI (j + 1) K9 M9 → Wd D A s.heap (lw T ad am ao K9 M9 g9) H locs → lv_has ls 7 [(0, .ref b), (1, .ref (ad 0 0)), (2, .ref (am 0)), (3, .ref ao), (4, .int x4)] → LW p l e s m b below meth c H locs (cells + 1) (slots + 6) Q (F0 m 2470 ls [])) : LW p l e s m b below meth c H locs cells slots Q (F0 m 2110 ls []) := by
  obtain ⟨hx, hb, hml, hown, hts, hX, hbl, hbA, hL, hK, hN, hE, hC, hok, hfl⟩ := id C0
  have hi1 : vp_in (x4 + 1) L := by rw [ex4, show (1 : Int32) = nI 1 from rfl, nI_add]; exact vp_in_nI (by omega) (by omega)
  unfold lw at hW
  obtain ⟨k, r, K9, b9, M9, t, q1, q2, q3, hd, hRI⟩ := hop
  rcases hd with ⟨rfl, rfl, rfl⟩ | ⟨rfl, rfl⟩
  · refine lv_aload_n hx hb dL_law_2110 rfl (lv_at hl 1 rfl) ?_
    refine lv_aload_n hx hb dL_law_2111 rfl (lv_at hl 0 rfl) ?_
    refine lv_iload hx hb dL_law_2112 (lv_at hl 4 rfl) ?_
    refine lv_iconst (v := 1) hx hb dL_law_2114 (by decide) ?_
    refine lv_iadd hx hb dL_law_2115 ?_
    refine va_sld hx hb hX hbl hbA hW.2.2 hi1 dL_law_2116 ?_
    refine lv_aload_n hx hb dL_law_2117 rfl (lv_at hl 3 rfl) ?_
    refine l_wrap (n := 3) C0 hW (wL_mendAll_0 l hfl D T A ad hok (oc_X11 T am M ++ []) ao g K (xs (x4 + 1).toNatClampNeg) r K9 q1) wm49_9 wm49_10 wm9_22 wm49_11 ⟨by decide +kernel, by decide +kernel, by decide +kernel⟩ ⟨by decide, by decide⟩ hc1 hs1 rfl hl.1 rfl (Nat.le_of_ble_eq_true rfl) dL_law_2118 (fun H locs hW => ?_)
    refine lv_istore (lv' := [(5, .int 0), (0, .ref b), (1, .ref (ad 0 0)), (2, .ref (am 0)), (3, .ref ao), (4, .int x4)]) hx hb dL_law_2121 hl (by decide) rfl (fun ls hl => ?_)
    refine lv_aload_n hx hb dL_law_2123 rfl (lv_at hl 3 rfl) ?_
    refine lv_aload_n hx hb dL_law_2124 rfl (lv_at hl 1 rfl) ?_
    refine lv_iload hx hb dL_law_2125 (lv_at hl 5 rfl) ?_
    refine lv_iconst (v := 1) hx hb dL_law_2127 (by decide) ?_
    refine lv_iadd hx hb dL_law_2128 ?_
    refine va_sld hx hb hX hbl hbA hW.2.2 hi1 dL_law_2129 ?_
    have hW := hW.perm pf3
    refine l_mod (As := [.int (xs (x4 + 1).toNatClampNeg)]) C0 hW (g_cw (n := 1) hts wm49_16 wm49_17 wm49_18 wm1_5 wm49_19 ⟨rfl, by decide +kernel, by decide +kernel, by decide +kernel⟩ ⟨rfl, rfl⟩ ⟨by decide, by decide⟩) rfl (c_X11_mendAll l D T A am (outc T ao (vp_updL g 0 r.toInt64) ++ (oc_X10 T (ad 0) (bb ad) (K9 0) ++ (wkL T ad K9 L18 ++ []))) M (xs (x4 + 1).toNatClampNeg) r M9 q2) rfl hl.1 rfl (Nat.le_of_ble_eq_true rfl) dL_law_2130 (by omega) (by omega) (fun H locs hW => ?_)
    have hW := hW.perm pf3.symm
    refine lv_istore (lv' := [(6, .int r), (5, .int 0), (0, .ref b), (1, .ref (ad 0 0)), (2, .ref (am 0)), (3, .ref ao), (4, .int x4)]) hx hb dL_law_2133 hl (by decide) rfl (fun ls hl => ?_)
    refine lv_aload_n hx hb dL_law_2135 rfl (lv_at hl 4 rfl) ?_
    have hW := hW.perm pf3
    refine l_mod (As := []) C0 hW (g_cw (n := 0) hts wm11_13 wm11_14 wm11_15 wm1_5 wm11_16 ⟨rfl, by decide +kernel, by decide +kernel, by decide +kernel⟩ ⟨rfl, rfl⟩ ⟨by decide, by decide⟩) rfl (c_X11_thrown l D T A am (outc T ao (vp_updL g 0 r.toInt64) ++ (oc_X10 T (ad 0) (bb ad) (K9 0) ++ (wkL T ad K9 L18 ++ []))) M9 0 q3) rfl hl.1 rfl (Nat.le_of_ble_eq_true rfl) dL_law_2136 (by omega) (by omega) (fun H locs hW => ?_)
    have hW := hW.perm pf3.symm
    refine lv_iload hx hb dL_law_2139 (lv_at hl 1 rfl) ?_
    refine lv_icmp_eq (tgt := 2146) hx hb dL_law_2141 (by decide) (fun _ => ?_) (fun c9 => absurd rfl c9)
    refine lv_iload hx hb dL_law_2146 (lv_at hl 1 rfl) ?_
    refine lv_if_ne (tgt := 2163) hx hb dL_law_2148 (by decide) (fun c9 => absurd rfl c9) (fun _ => ?_)
    refine lv_aload_n hx hb dL_law_2151 rfl (lv_at hl 5 rfl) ?_
    refine lv_iconst (v := 0) hx hb dL_law_2152 (by decide) ?_
    refine va_lald hx hb hK hW.1 0 3 rfl rfl (gd_in (by decide)) dL_law_2153 ?_
    rw [show (vp_updL g 0 r.toInt64) (0 : Int32).toNatClampNeg = r.toInt64 from rfl]
    refine lv_iload hx hb dL_law_2154 (lv_at hl 0 rfl) ?_
    refine lv_i2l (v := r.toInt64) hx hb dL_law_2156 rfl ?_
    refine W.lcmp hx hb dL_law_2157 ?_
    rw [lg_cmp_self]
    refine lv_if_eq (tgt := 2163) hx hb dL_law_2158 (by decide) (fun _ => ?_) (fun c9 => absurd rfl c9)
    refine lv_goto (tgt := 2470) hx hb dL_law_2163 (by decide) ?_
    exact kk K9 M9 (vp_updL g 0 r.toInt64) H locs ls hRI hW (lv_sub hl [2, 3, 4, 5, 6] rfl)
  · refine lv_aload_n hx hb dL_law_2110 rfl (lv_at hl 1 rfl) ?_
    refine lv_aload_n hx hb dL_law_2111 rfl (lv_at hl 0 rfl) ?_
    refine lv_iload hx hb dL_law_2112 (lv_at hl 4 rfl) ?_
    refine lv_iconst (v := 1) hx hb dL_law_2114 (by decide) ?_
    refine lv_iadd hx hb dL_law_2115 ?_
    refine va_sld hx hb hX hbl hbA hW.2.2 hi1 dL_law_2116 ?_
    refine lv_aload_n hx hb dL_law_2117 rfl (lv_at hl 3 rfl) ?_
    refine l_wrap (n := 3) C0 hW (wL_mendAll_1 l hfl D T A ad hok (oc_X11 T am M ++ []) ao g K (xs (x4 + 1).toNatClampNeg) r K9 q1) wm49_9 wm49_10 wm9_22 wm49_11 ⟨by decide +kernel, by decide +kernel, by decide +kernel⟩ ⟨by decide, by decide⟩ hc1 hs1 rfl hl.1 rfl (Nat.le_of_ble_eq_true rfl) dL_law_2118 (fun H locs hW => ?_)
    refine lv_istore (lv' := [(5, .int 1), (0, .ref b), (1, .ref (ad 0 0)), (2, .ref (am 0)), (3, .ref ao), (4, .int x4)]) hx hb dL_law_2121 hl (by decide) rfl (fun ls hl => ?_)
    refine lv_aload_n hx hb dL_law_2123 rfl (lv_at hl 3 rfl) ?_
    refine lv_aload_n hx hb dL_law_2124 rfl (lv_at hl 1 rfl) ?_
    refine lv_iload hx hb dL_law_2125 (lv_at hl 5 rfl) ?_
    refine lv_iconst (v := 1) hx hb dL_law_2127 (by decide) ?_
    refine lv_iadd hx hb dL_law_2128 ?_
    refine va_sld hx hb hX hbl hbA hW.2.2 hi1 dL_law_2129 ?_
    have hW := hW.perm pf3
    refine l_mod (As := [.int (xs (x4 + 1).toNatClampNeg)]) C0 hW (g_cw (n := 1) hts wm49_16 wm49_17 wm49_18 wm1_5 wm49_19 ⟨rfl, by decide +kernel, by decide +kernel, by decide +kernel⟩ ⟨rfl, rfl⟩ ⟨by decide, by decide⟩) rfl (c_X11_mendAll l D T A am (outc T ao g ++ (oc_X10 T (ad 0) (bb ad) (K9 0) ++ (wkL T ad K9 L18 ++ []))) M (xs (x4 + 1).toNatClampNeg) b9 M9 q2) rfl hl.1 rfl (Nat.le_of_ble_eq_true rfl) dL_law_2130 (by omega) (by omega) (fun H locs hW => ?_)
    have hW := hW.perm pf3.symm
    refine lv_istore (lv' := [(6, .int b9), (5, .int 1), (0, .ref b), (1, .ref (ad 0 0)), (2, .ref (am 0)), (3, .ref ao), (4, .int x4)]) hx hb dL_law_2133 hl (by decide) rfl (fun ls hl => ?_)
    refine lv_aload_n hx hb dL_law_2135 rfl (lv_at hl 4 rfl) ?_
    have hW := hW.perm pf3
    refine l_mod (As := []) C0 hW (g_cw (n := 0) hts wm11_13 wm11_14 wm11_15 wm1_5 wm11_16 ⟨rfl, by decide +kernel, by decide +kernel, by decide +kernel⟩ ⟨rfl, rfl⟩ ⟨by decide, by decide⟩) rfl (c_X11_thrown l D T A am (outc T ao g ++ (oc_X10 T (ad 0) (bb ad) (K9 0) ++ (wkL T ad K9 L18 ++ []))) M9 1 q3) rfl hl.1 rfl (Nat.le_of_ble_eq_true rfl) dL_law_2136 (by omega) (by omega) (fun H locs hW => ?_)
    have hW := hW.perm pf3.symm
    refine lv_iload hx hb dL_law_2139 (lv_at hl 1 rfl) ?_
    refine lv_icmp_eq (tgt := 2146) hx hb dL_law_2141 (by decide) (fun _ => ?_) (fun c9 => absurd rfl c9)
    refine lv_iload hx hb dL_law_2146 (lv_at hl 1 rfl) ?_
    refine lv_if_ne (tgt := 2163) hx hb dL_law_2148 (by decide) (fun _ => ?_) (fun c9 => absurd c9 (by decide))
    refine lv_goto (tgt := 2470) hx hb dL_law_2163 (by decide) ?_
    exact kk K9 M9 g H locs ls hRI hW (lv_sub hl [2, 3, 4, 5, 6] rfl)
set_option maxHeartbeats 4000000 in
set_option maxRecDepth 100000 in
theorem law_reads {RI : Nat → (Nat → Ob) → Ob → Prop} {j i : Nat} {x4 : Int32} {K : Nat → Ob} {M : Ob} {g : Nat → Int64} {H : Heap} {locs : List Loc} {cells slots : Nat} {ls : Array Slot} (C0 : LC p l s m c D T A b L xs ad) (hop : Op_reads RI j K M ) (hi : i + 6 < L) (ex4 : x4 = nI i) (hc1 : cells ≤ 2000) (hs1 : slots ≤ 400000) (hW : Wd D A s.heap (lw T ad am ao K M g) H locs) (hl : lv_has ls 7 [(0, .ref b), (1, .ref (ad 0 0)), (2, .ref (am 0)), (3, .ref ao), (4, .int x4)])
    (kk : ∀ (K9 : Nat → Ob) (M9 : Ob) (g9 : Nat → Int64) (H : Heap) (locs : List Loc) (ls : Array Slot), RI (j + 1) K9 M9 → Wd D A s.heap (lw T ad am ao K9 M9 g9) H locs → lv_has ls 7 [(0, .ref b), (1, .ref (ad 0 0)), (2, .ref (am 0)), (3, .ref ao), (4, .int x4)] → LW p l e s m b below meth c H locs (cells + 1) (slots + 6) Q (F0 m 2470 ls [])) : LW p l e s m b below meth c H locs cells slots Q (F0 m 2166 ls []) := by
  obtain ⟨hx, hb, hml, hown, hts, hX, hbl, hbA, hL, hK, hN, hE, hC, hok, hfl⟩ := id C0
  unfold lw at hW
  obtain ⟨r, M9, q1, q2, hRI⟩ := hop
  refine lv_aload_n hx hb dL_law_2166 rfl (lv_at hl 1 rfl) ?_
  have hW := hW.perm pf2.symm
  refine g_cvi (As := []) hx hb hml hown hts hK hN hW (g_cw (n := 0) hts wm49_20 wm49_21 wm49_22 wm1_2 wm49_23 ⟨rfl, by decide +kernel, by decide +kernel, by decide +kernel⟩ ⟨rfl, rfl⟩ ⟨by decide, by decide⟩) ⟨10, (RX10, TX10, 13), _, rfl, rfl, rfl⟩ (c_X10_reads l D T A ad hok (outc T ao g ++ (oc_X11 T am M ++ [])) K r q1) rfl hl.1 rfl (Nat.le_of_ble_eq_true rfl) dL_law_2167 ⟨show cells ≤ 601024 by omega, show slots ≤ 7293034 by omega⟩ (fun H locs hW => ?_)
  have hW := hW.perm pf2
  refine lv_aload_n hx hb dL_law_2170 rfl (lv_at hl 2 rfl) ?_
  have hW := hW.perm pf3
  refine l_mod (As := []) C0 hW (g_cw (n := 0) hts wm50_0 wm50_1 wm50_2 wm1_5 wm50_3 ⟨rfl, by decide +kernel, by decide +kernel, by decide +kernel⟩ ⟨rfl, rfl⟩ ⟨by decide, by decide⟩) rfl (c_X11_reads l D T A am (outc T ao g ++ (oc_X10 T (ad 0) (bb ad) (K 0) ++ (wkL T ad K L18 ++ []))) M r M9 q2) rfl hl.1 rfl (Nat.le_of_ble_eq_true rfl) dL_law_2171 (by omega) (by omega) (fun H locs hW => ?_)
  have hW := hW.perm pf3.symm
  refine lv_icmp_eq (tgt := 2470) hx hb dL_law_2174 (by decide) (fun _ => ?_) (fun c9 => absurd rfl c9)
  refine W.widen (k := cells + 1) (n := slots + 6) (by omega) (by omega) ?_
  exact kk K M9 g H locs ls hRI hW (lv_sub hl [0, 1, 2, 3, 4] rfl)
set_option maxHeartbeats 4000000 in
set_option maxRecDepth 100000 in
theorem law_pattern {RI : Nat → (Nat → Ob) → Ob → Prop} {j i : Nat} {x4 : Int32} {K : Nat → Ob} {M : Ob} {g : Nat → Int64} {H : Heap} {locs : List Loc} {cells slots : Nat} {ls : Array Slot} (C0 : LC p l s m c D T A b L xs ad) (hop : Op_pattern RI j K M (xs (x4 + 1).toNatClampNeg) (xs (x4 + 2).toNatClampNeg) (xs (x4 + 3).toNatClampNeg) (xs (x4 + 4).toNatClampNeg)) (hi : i + 6 < L) (ex4 : x4 = nI i) (hc1 : cells ≤ 2000) (hs1 : slots ≤ 400000) (hW : Wd D A s.heap (lw T ad am ao K M g) H locs) (hl : lv_has ls 7 [(0, .ref b), (1, .ref (ad 0 0)), (2, .ref (am 0)), (3, .ref ao), (4, .int x4)])
    (kk : ∀ (K9 : Nat → Ob) (M9 : Ob) (g9 : Nat → Int64) (H : Heap) (locs : List Loc) (ls : Array Slot), RI (j + 1) K9 M9 → Wd D A s.heap (lw T ad am ao K9 M9 g9) H locs → lv_has ls 7 [(0, .ref b), (1, .ref (ad 0 0)), (2, .ref (am 0)), (3, .ref ao), (4, .int x4)] → LW p l e s m b below meth c H locs (cells + 1) (slots + 6) Q (F0 m 2470 ls [])) : LW p l e s m b below meth c H locs cells slots Q (F0 m 2179 ls []) := by
  obtain ⟨hx, hb, hml, hown, hts, hX, hbl, hbA, hL, hK, hN, hE, hC, hok, hfl⟩ := id C0
  have hi1 : vp_in (x4 + 1) L := by rw [ex4, show (1 : Int32) = nI 1 from rfl, nI_add]; exact vp_in_nI (by omega) (by omega)
  have hi2 : vp_in (x4 + 2) L := by rw [ex4, show (2 : Int32) = nI 2 from rfl, nI_add]; exact vp_in_nI (by omega) (by omega)
  have hi3 : vp_in (x4 + 3) L := by rw [ex4, show (3 : Int32) = nI 3 from rfl, nI_add]; exact vp_in_nI (by omega) (by omega)
  have hi4 : vp_in (x4 + 4) L := by rw [ex4, show (4 : Int32) = nI 4 from rfl, nI_add]; exact vp_in_nI (by omega) (by omega)
  unfold lw at hW
  obtain ⟨k, r, K9, b9, M9, t, q1, q2, q3, hd, hRI⟩ := hop
  rcases hd with ⟨rfl, rfl, rfl⟩ | ⟨rfl, rfl⟩ | ⟨rfl, rfl⟩ | ⟨rfl, rfl⟩
  · refine lv_aload_n hx hb dL_law_2179 rfl (lv_at hl 1 rfl) ?_
    refine lv_aload_n hx hb dL_law_2180 rfl (lv_at hl 0 rfl) ?_
    refine lv_iload hx hb dL_law_2181 (lv_at hl 4 rfl) ?_
    refine lv_iconst (v := 1) hx hb dL_law_2183 (by decide) ?_
    refine lv_iadd hx hb dL_law_2184 ?_
    refine va_sld hx hb hX hbl hbA hW.2.2 hi1 dL_law_2185 ?_
    refine lv_aload_n hx hb dL_law_2186 rfl (lv_at hl 0 rfl) ?_
    refine lv_iload hx hb dL_law_2187 (lv_at hl 4 rfl) ?_
    refine lv_iconst (v := 2) hx hb dL_law_2189 (by decide) ?_
    refine lv_iadd hx hb dL_law_2190 ?_
    refine va_sld hx hb hX hbl hbA hW.2.2 hi2 dL_law_2191 ?_
    refine lv_aload_n hx hb dL_law_2192 rfl (lv_at hl 0 rfl) ?_
    refine lv_iload hx hb dL_law_2193 (lv_at hl 4 rfl) ?_
    refine lv_iconst (v := 3) hx hb dL_law_2195 (by decide) ?_
    refine lv_iadd hx hb dL_law_2196 ?_
    refine va_sld hx hb hX hbl hbA hW.2.2 hi3 dL_law_2197 ?_
    refine lv_aload_n hx hb dL_law_2198 rfl (lv_at hl 0 rfl) ?_
    refine lv_iload hx hb dL_law_2199 (lv_at hl 4 rfl) ?_
    refine lv_iconst (v := 4) hx hb dL_law_2201 (by decide) ?_
    refine lv_iadd hx hb dL_law_2202 ?_
    refine va_sld hx hb hX hbl hbA hW.2.2 hi4 dL_law_2203 ?_
    refine lv_aload_n hx hb dL_law_2204 rfl (lv_at hl 3 rfl) ?_
    refine l_wrap (n := 6) C0 hW (wL_pattern_0 l hfl D T A ad hok (oc_X11 T am M ++ []) ao g K (xs (x4 + 1).toNatClampNeg) (xs (x4 + 2).toNatClampNeg) (xs (x4 + 3).toNatClampNeg) (xs (x4 + 4).toNatClampNeg) r K9 q1) wm50_4 wm50_5 wm9_22 wm50_6 ⟨by decide +kernel, by decide +kernel, by decide +kernel⟩ ⟨by decide, by decide⟩ hc1 hs1 rfl hl.1 rfl (Nat.le_of_ble_eq_true rfl) dL_law_2205 (fun H locs hW => ?_)
    refine lv_istore (lv' := [(5, .int 0), (0, .ref b), (1, .ref (ad 0 0)), (2, .ref (am 0)), (3, .ref ao), (4, .int x4)]) hx hb dL_law_2208 hl (by decide) rfl (fun ls hl => ?_)
    refine lv_aload_n hx hb dL_law_2210 rfl (lv_at hl 3 rfl) ?_
    refine lv_aload_n hx hb dL_law_2211 rfl (lv_at hl 1 rfl) ?_
    refine lv_iload hx hb dL_law_2212 (lv_at hl 5 rfl) ?_
    refine lv_iconst (v := 1) hx hb dL_law_2214 (by decide) ?_
    refine lv_iadd hx hb dL_law_2215 ?_
    refine va_sld hx hb hX hbl hbA hW.2.2 hi1 dL_law_2216 ?_
    refine lv_aload_n hx hb dL_law_2217 rfl (lv_at hl 1 rfl) ?_
    refine lv_iload hx hb dL_law_2218 (lv_at hl 5 rfl) ?_
    refine lv_iconst (v := 2) hx hb dL_law_2220 (by decide) ?_
    refine lv_iadd hx hb dL_law_2221 ?_
    refine va_sld hx hb hX hbl hbA hW.2.2 hi2 dL_law_2222 ?_
    refine lv_aload_n hx hb dL_law_2223 rfl (lv_at hl 1 rfl) ?_
    refine lv_iload hx hb dL_law_2224 (lv_at hl 5 rfl) ?_
    refine lv_iconst (v := 3) hx hb dL_law_2226 (by decide) ?_
    refine lv_iadd hx hb dL_law_2227 ?_
    refine va_sld hx hb hX hbl hbA hW.2.2 hi3 dL_law_2228 ?_
    refine lv_aload_n hx hb dL_law_2229 rfl (lv_at hl 1 rfl) ?_
    refine lv_iload hx hb dL_law_2230 (lv_at hl 5 rfl) ?_
    refine lv_iconst (v := 4) hx hb dL_law_2232 (by decide) ?_
    refine lv_iadd hx hb dL_law_2233 ?_
    refine va_sld hx hb hX hbl hbA hW.2.2 hi4 dL_law_2234 ?_
    have hW := hW.perm pf3
    refine l_mod (As := [.int (xs (x4 + 1).toNatClampNeg), .int (xs (x4 + 2).toNatClampNeg), .int (xs (x4 + 3).toNatClampNeg), .int (xs (x4 + 4).toNatClampNeg)]) C0 hW (g_cw (n := 4) hts wm50_23 wm51_0 wm51_1 wm1_5 wm51_2 ⟨rfl, by decide +kernel, by decide +kernel, by decide +kernel⟩ ⟨rfl, rfl⟩ ⟨by decide, by decide⟩) rfl (c_X11_pattern l D T A am (outc T ao (vp_updL g 0 r.toInt64) ++ (oc_X10 T (ad 0) (bb ad) (K9 0) ++ (wkL T ad K9 L18 ++ []))) M (xs (x4 + 1).toNatClampNeg) (xs (x4 + 2).toNatClampNeg) (xs (x4 + 3).toNatClampNeg) (xs (x4 + 4).toNatClampNeg) r M9 q2) rfl hl.1 rfl (Nat.le_of_ble_eq_true rfl) dL_law_2235 (by omega) (by omega) (fun H locs hW => ?_)
    have hW := hW.perm pf3.symm
    refine lv_istore (lv' := [(6, .int r), (5, .int 0), (0, .ref b), (1, .ref (ad 0 0)), (2, .ref (am 0)), (3, .ref ao), (4, .int x4)]) hx hb dL_law_2238 hl (by decide) rfl (fun ls hl => ?_)
    refine lv_aload_n hx hb dL_law_2240 rfl (lv_at hl 4 rfl) ?_
    have hW := hW.perm pf3
    refine l_mod (As := []) C0 hW (g_cw (n := 0) hts wm11_13 wm11_14 wm11_15 wm1_5 wm11_16 ⟨rfl, by decide +kernel, by decide +kernel, by decide +kernel⟩ ⟨rfl, rfl⟩ ⟨by decide, by decide⟩) rfl (c_X11_thrown l D T A am (outc T ao (vp_updL g 0 r.toInt64) ++ (oc_X10 T (ad 0) (bb ad) (K9 0) ++ (wkL T ad K9 L18 ++ []))) M9 0 q3) rfl hl.1 rfl (Nat.le_of_ble_eq_true rfl) dL_law_2241 (by omega) (by omega) (fun H locs hW => ?_)
    have hW := hW.perm pf3.symm
    refine lv_iload hx hb dL_law_2244 (lv_at hl 1 rfl) ?_
    refine lv_icmp_eq (tgt := 2251) hx hb dL_law_2246 (by decide) (fun _ => ?_) (fun c9 => absurd rfl c9)
    refine lv_iload hx hb dL_law_2251 (lv_at hl 1 rfl) ?_
    refine lv_if_ne (tgt := 2268) hx hb dL_law_2253 (by decide) (fun c9 => absurd rfl c9) (fun _ => ?_)
    refine lv_aload_n hx hb dL_law_2256 rfl (lv_at hl 5 rfl) ?_
    refine lv_iconst (v := 0) hx hb dL_law_2257 (by decide) ?_
    refine va_lald hx hb hK hW.1 0 3 rfl rfl (gd_in (by decide)) dL_law_2258 ?_
    rw [show (vp_updL g 0 r.toInt64) (0 : Int32).toNatClampNeg = r.toInt64 from rfl]
    refine lv_iload hx hb dL_law_2259 (lv_at hl 0 rfl) ?_
    refine lv_i2l (v := r.toInt64) hx hb dL_law_2261 rfl ?_
    refine W.lcmp hx hb dL_law_2262 ?_
    rw [lg_cmp_self]
    refine lv_if_eq (tgt := 2268) hx hb dL_law_2263 (by decide) (fun _ => ?_) (fun c9 => absurd rfl c9)
    refine lv_goto (tgt := 2470) hx hb dL_law_2268 (by decide) ?_
    exact kk K9 M9 (vp_updL g 0 r.toInt64) H locs ls hRI hW (lv_sub hl [2, 3, 4, 5, 6] rfl)
  · refine lv_aload_n hx hb dL_law_2179 rfl (lv_at hl 1 rfl) ?_
    refine lv_aload_n hx hb dL_law_2180 rfl (lv_at hl 0 rfl) ?_
    refine lv_iload hx hb dL_law_2181 (lv_at hl 4 rfl) ?_
    refine lv_iconst (v := 1) hx hb dL_law_2183 (by decide) ?_
    refine lv_iadd hx hb dL_law_2184 ?_
    refine va_sld hx hb hX hbl hbA hW.2.2 hi1 dL_law_2185 ?_
    refine lv_aload_n hx hb dL_law_2186 rfl (lv_at hl 0 rfl) ?_
    refine lv_iload hx hb dL_law_2187 (lv_at hl 4 rfl) ?_
    refine lv_iconst (v := 2) hx hb dL_law_2189 (by decide) ?_
    refine lv_iadd hx hb dL_law_2190 ?_
    refine va_sld hx hb hX hbl hbA hW.2.2 hi2 dL_law_2191 ?_
    refine lv_aload_n hx hb dL_law_2192 rfl (lv_at hl 0 rfl) ?_
    refine lv_iload hx hb dL_law_2193 (lv_at hl 4 rfl) ?_
    refine lv_iconst (v := 3) hx hb dL_law_2195 (by decide) ?_
    refine lv_iadd hx hb dL_law_2196 ?_
    refine va_sld hx hb hX hbl hbA hW.2.2 hi3 dL_law_2197 ?_
    refine lv_aload_n hx hb dL_law_2198 rfl (lv_at hl 0 rfl) ?_
    refine lv_iload hx hb dL_law_2199 (lv_at hl 4 rfl) ?_
    refine lv_iconst (v := 4) hx hb dL_law_2201 (by decide) ?_
    refine lv_iadd hx hb dL_law_2202 ?_
    refine va_sld hx hb hX hbl hbA hW.2.2 hi4 dL_law_2203 ?_
    refine lv_aload_n hx hb dL_law_2204 rfl (lv_at hl 3 rfl) ?_
    refine l_wrap (n := 6) C0 hW (wL_pattern_1 l hfl D T A ad hok (oc_X11 T am M ++ []) ao g K (xs (x4 + 1).toNatClampNeg) (xs (x4 + 2).toNatClampNeg) (xs (x4 + 3).toNatClampNeg) (xs (x4 + 4).toNatClampNeg) r K9 q1) wm50_4 wm50_5 wm9_22 wm50_6 ⟨by decide +kernel, by decide +kernel, by decide +kernel⟩ ⟨by decide, by decide⟩ hc1 hs1 rfl hl.1 rfl (Nat.le_of_ble_eq_true rfl) dL_law_2205 (fun H locs hW => ?_)
    refine lv_istore (lv' := [(5, .int 1), (0, .ref b), (1, .ref (ad 0 0)), (2, .ref (am 0)), (3, .ref ao), (4, .int x4)]) hx hb dL_law_2208 hl (by decide) rfl (fun ls hl => ?_)
    refine lv_aload_n hx hb dL_law_2210 rfl (lv_at hl 3 rfl) ?_
    refine lv_aload_n hx hb dL_law_2211 rfl (lv_at hl 1 rfl) ?_
    refine lv_iload hx hb dL_law_2212 (lv_at hl 5 rfl) ?_
    refine lv_iconst (v := 1) hx hb dL_law_2214 (by decide) ?_
    refine lv_iadd hx hb dL_law_2215 ?_
    refine va_sld hx hb hX hbl hbA hW.2.2 hi1 dL_law_2216 ?_
    refine lv_aload_n hx hb dL_law_2217 rfl (lv_at hl 1 rfl) ?_
    refine lv_iload hx hb dL_law_2218 (lv_at hl 5 rfl) ?_
    refine lv_iconst (v := 2) hx hb dL_law_2220 (by decide) ?_
    refine lv_iadd hx hb dL_law_2221 ?_
    refine va_sld hx hb hX hbl hbA hW.2.2 hi2 dL_law_2222 ?_
    refine lv_aload_n hx hb dL_law_2223 rfl (lv_at hl 1 rfl) ?_
    refine lv_iload hx hb dL_law_2224 (lv_at hl 5 rfl) ?_
    refine lv_iconst (v := 3) hx hb dL_law_2226 (by decide) ?_
    refine lv_iadd hx hb dL_law_2227 ?_
    refine va_sld hx hb hX hbl hbA hW.2.2 hi3 dL_law_2228 ?_
    refine lv_aload_n hx hb dL_law_2229 rfl (lv_at hl 1 rfl) ?_
    refine lv_iload hx hb dL_law_2230 (lv_at hl 5 rfl) ?_
    refine lv_iconst (v := 4) hx hb dL_law_2232 (by decide) ?_
    refine lv_iadd hx hb dL_law_2233 ?_
    refine va_sld hx hb hX hbl hbA hW.2.2 hi4 dL_law_2234 ?_
    have hW := hW.perm pf3
    refine l_mod (As := [.int (xs (x4 + 1).toNatClampNeg), .int (xs (x4 + 2).toNatClampNeg), .int (xs (x4 + 3).toNatClampNeg), .int (xs (x4 + 4).toNatClampNeg)]) C0 hW (g_cw (n := 4) hts wm50_23 wm51_0 wm51_1 wm1_5 wm51_2 ⟨rfl, by decide +kernel, by decide +kernel, by decide +kernel⟩ ⟨rfl, rfl⟩ ⟨by decide, by decide⟩) rfl (c_X11_pattern l D T A am (outc T ao g ++ (oc_X10 T (ad 0) (bb ad) (K9 0) ++ (wkL T ad K9 L18 ++ []))) M (xs (x4 + 1).toNatClampNeg) (xs (x4 + 2).toNatClampNeg) (xs (x4 + 3).toNatClampNeg) (xs (x4 + 4).toNatClampNeg) b9 M9 q2) rfl hl.1 rfl (Nat.le_of_ble_eq_true rfl) dL_law_2235 (by omega) (by omega) (fun H locs hW => ?_)
    have hW := hW.perm pf3.symm
    refine lv_istore (lv' := [(6, .int b9), (5, .int 1), (0, .ref b), (1, .ref (ad 0 0)), (2, .ref (am 0)), (3, .ref ao), (4, .int x4)]) hx hb dL_law_2238 hl (by decide) rfl (fun ls hl => ?_)
    refine lv_aload_n hx hb dL_law_2240 rfl (lv_at hl 4 rfl) ?_
    have hW := hW.perm pf3
    refine l_mod (As := []) C0 hW (g_cw (n := 0) hts wm11_13 wm11_14 wm11_15 wm1_5 wm11_16 ⟨rfl, by decide +kernel, by decide +kernel, by decide +kernel⟩ ⟨rfl, rfl⟩ ⟨by decide, by decide⟩) rfl (c_X11_thrown l D T A am (outc T ao g ++ (oc_X10 T (ad 0) (bb ad) (K9 0) ++ (wkL T ad K9 L18 ++ []))) M9 1 q3) rfl hl.1 rfl (Nat.le_of_ble_eq_true rfl) dL_law_2241 (by omega) (by omega) (fun H locs hW => ?_)
    have hW := hW.perm pf3.symm
    refine lv_iload hx hb dL_law_2244 (lv_at hl 1 rfl) ?_
    refine lv_icmp_eq (tgt := 2251) hx hb dL_law_2246 (by decide) (fun _ => ?_) (fun c9 => absurd rfl c9)
    refine lv_iload hx hb dL_law_2251 (lv_at hl 1 rfl) ?_
    refine lv_if_ne (tgt := 2268) hx hb dL_law_2253 (by decide) (fun _ => ?_) (fun c9 => absurd c9 (by decide))
    refine lv_goto (tgt := 2470) hx hb dL_law_2268 (by decide) ?_
    exact kk K9 M9 g H locs ls hRI hW (lv_sub hl [2, 3, 4, 5, 6] rfl)
  · refine lv_aload_n hx hb dL_law_2179 rfl (lv_at hl 1 rfl) ?_
    refine lv_aload_n hx hb dL_law_2180 rfl (lv_at hl 0 rfl) ?_
    refine lv_iload hx hb dL_law_2181 (lv_at hl 4 rfl) ?_
    refine lv_iconst (v := 1) hx hb dL_law_2183 (by decide) ?_
    refine lv_iadd hx hb dL_law_2184 ?_
    refine va_sld hx hb hX hbl hbA hW.2.2 hi1 dL_law_2185 ?_
    refine lv_aload_n hx hb dL_law_2186 rfl (lv_at hl 0 rfl) ?_
    refine lv_iload hx hb dL_law_2187 (lv_at hl 4 rfl) ?_
    refine lv_iconst (v := 2) hx hb dL_law_2189 (by decide) ?_
    refine lv_iadd hx hb dL_law_2190 ?_
    refine va_sld hx hb hX hbl hbA hW.2.2 hi2 dL_law_2191 ?_
    refine lv_aload_n hx hb dL_law_2192 rfl (lv_at hl 0 rfl) ?_
    refine lv_iload hx hb dL_law_2193 (lv_at hl 4 rfl) ?_
    refine lv_iconst (v := 3) hx hb dL_law_2195 (by decide) ?_
    refine lv_iadd hx hb dL_law_2196 ?_
    refine va_sld hx hb hX hbl hbA hW.2.2 hi3 dL_law_2197 ?_
    refine lv_aload_n hx hb dL_law_2198 rfl (lv_at hl 0 rfl) ?_
    refine lv_iload hx hb dL_law_2199 (lv_at hl 4 rfl) ?_
    refine lv_iconst (v := 4) hx hb dL_law_2201 (by decide) ?_
    refine lv_iadd hx hb dL_law_2202 ?_
    refine va_sld hx hb hX hbl hbA hW.2.2 hi4 dL_law_2203 ?_
    refine lv_aload_n hx hb dL_law_2204 rfl (lv_at hl 3 rfl) ?_
    refine l_wrap (n := 6) C0 hW (wL_pattern_2 l hfl D T A ad hok (oc_X11 T am M ++ []) ao g K (xs (x4 + 1).toNatClampNeg) (xs (x4 + 2).toNatClampNeg) (xs (x4 + 3).toNatClampNeg) (xs (x4 + 4).toNatClampNeg) r K9 q1) wm50_4 wm50_5 wm9_22 wm50_6 ⟨by decide +kernel, by decide +kernel, by decide +kernel⟩ ⟨by decide, by decide⟩ hc1 hs1 rfl hl.1 rfl (Nat.le_of_ble_eq_true rfl) dL_law_2205 (fun H locs hW => ?_)
    refine lv_istore (lv' := [(5, .int 2), (0, .ref b), (1, .ref (ad 0 0)), (2, .ref (am 0)), (3, .ref ao), (4, .int x4)]) hx hb dL_law_2208 hl (by decide) rfl (fun ls hl => ?_)
    refine lv_aload_n hx hb dL_law_2210 rfl (lv_at hl 3 rfl) ?_
    refine lv_aload_n hx hb dL_law_2211 rfl (lv_at hl 1 rfl) ?_
    refine lv_iload hx hb dL_law_2212 (lv_at hl 5 rfl) ?_
    refine lv_iconst (v := 1) hx hb dL_law_2214 (by decide) ?_
    refine lv_iadd hx hb dL_law_2215 ?_
    refine va_sld hx hb hX hbl hbA hW.2.2 hi1 dL_law_2216 ?_
    refine lv_aload_n hx hb dL_law_2217 rfl (lv_at hl 1 rfl) ?_
    refine lv_iload hx hb dL_law_2218 (lv_at hl 5 rfl) ?_
    refine lv_iconst (v := 2) hx hb dL_law_2220 (by decide) ?_
    refine lv_iadd hx hb dL_law_2221 ?_
    refine va_sld hx hb hX hbl hbA hW.2.2 hi2 dL_law_2222 ?_
    refine lv_aload_n hx hb dL_law_2223 rfl (lv_at hl 1 rfl) ?_
    refine lv_iload hx hb dL_law_2224 (lv_at hl 5 rfl) ?_
    refine lv_iconst (v := 3) hx hb dL_law_2226 (by decide) ?_
    refine lv_iadd hx hb dL_law_2227 ?_
    refine va_sld hx hb hX hbl hbA hW.2.2 hi3 dL_law_2228 ?_
    refine lv_aload_n hx hb dL_law_2229 rfl (lv_at hl 1 rfl) ?_
    refine lv_iload hx hb dL_law_2230 (lv_at hl 5 rfl) ?_
    refine lv_iconst (v := 4) hx hb dL_law_2232 (by decide) ?_
    refine lv_iadd hx hb dL_law_2233 ?_
    refine va_sld hx hb hX hbl hbA hW.2.2 hi4 dL_law_2234 ?_
    have hW := hW.perm pf3
    refine l_mod (As := [.int (xs (x4 + 1).toNatClampNeg), .int (xs (x4 + 2).toNatClampNeg), .int (xs (x4 + 3).toNatClampNeg), .int (xs (x4 + 4).toNatClampNeg)]) C0 hW (g_cw (n := 4) hts wm50_23 wm51_0 wm51_1 wm1_5 wm51_2 ⟨rfl, by decide +kernel, by decide +kernel, by decide +kernel⟩ ⟨rfl, rfl⟩ ⟨by decide, by decide⟩) rfl (c_X11_pattern l D T A am (outc T ao g ++ (oc_X10 T (ad 0) (bb ad) (K9 0) ++ (wkL T ad K9 L18 ++ []))) M (xs (x4 + 1).toNatClampNeg) (xs (x4 + 2).toNatClampNeg) (xs (x4 + 3).toNatClampNeg) (xs (x4 + 4).toNatClampNeg) b9 M9 q2) rfl hl.1 rfl (Nat.le_of_ble_eq_true rfl) dL_law_2235 (by omega) (by omega) (fun H locs hW => ?_)
    have hW := hW.perm pf3.symm
    refine lv_istore (lv' := [(6, .int b9), (5, .int 2), (0, .ref b), (1, .ref (ad 0 0)), (2, .ref (am 0)), (3, .ref ao), (4, .int x4)]) hx hb dL_law_2238 hl (by decide) rfl (fun ls hl => ?_)
    refine lv_aload_n hx hb dL_law_2240 rfl (lv_at hl 4 rfl) ?_
    have hW := hW.perm pf3
    refine l_mod (As := []) C0 hW (g_cw (n := 0) hts wm11_13 wm11_14 wm11_15 wm1_5 wm11_16 ⟨rfl, by decide +kernel, by decide +kernel, by decide +kernel⟩ ⟨rfl, rfl⟩ ⟨by decide, by decide⟩) rfl (c_X11_thrown l D T A am (outc T ao g ++ (oc_X10 T (ad 0) (bb ad) (K9 0) ++ (wkL T ad K9 L18 ++ []))) M9 2 q3) rfl hl.1 rfl (Nat.le_of_ble_eq_true rfl) dL_law_2241 (by omega) (by omega) (fun H locs hW => ?_)
    have hW := hW.perm pf3.symm
    refine lv_iload hx hb dL_law_2244 (lv_at hl 1 rfl) ?_
    refine lv_icmp_eq (tgt := 2251) hx hb dL_law_2246 (by decide) (fun _ => ?_) (fun c9 => absurd rfl c9)
    refine lv_iload hx hb dL_law_2251 (lv_at hl 1 rfl) ?_
    refine lv_if_ne (tgt := 2268) hx hb dL_law_2253 (by decide) (fun _ => ?_) (fun c9 => absurd c9 (by decide))
    refine lv_goto (tgt := 2470) hx hb dL_law_2268 (by decide) ?_
    exact kk K9 M9 g H locs ls hRI hW (lv_sub hl [2, 3, 4, 5, 6] rfl)
  · refine lv_aload_n hx hb dL_law_2179 rfl (lv_at hl 1 rfl) ?_
    refine lv_aload_n hx hb dL_law_2180 rfl (lv_at hl 0 rfl) ?_
    refine lv_iload hx hb dL_law_2181 (lv_at hl 4 rfl) ?_
    refine lv_iconst (v := 1) hx hb dL_law_2183 (by decide) ?_
    refine lv_iadd hx hb dL_law_2184 ?_
    refine va_sld hx hb hX hbl hbA hW.2.2 hi1 dL_law_2185 ?_
    refine lv_aload_n hx hb dL_law_2186 rfl (lv_at hl 0 rfl) ?_
    refine lv_iload hx hb dL_law_2187 (lv_at hl 4 rfl) ?_
    refine lv_iconst (v := 2) hx hb dL_law_2189 (by decide) ?_
    refine lv_iadd hx hb dL_law_2190 ?_
    refine va_sld hx hb hX hbl hbA hW.2.2 hi2 dL_law_2191 ?_
    refine lv_aload_n hx hb dL_law_2192 rfl (lv_at hl 0 rfl) ?_
    refine lv_iload hx hb dL_law_2193 (lv_at hl 4 rfl) ?_
    refine lv_iconst (v := 3) hx hb dL_law_2195 (by decide) ?_
    refine lv_iadd hx hb dL_law_2196 ?_
    refine va_sld hx hb hX hbl hbA hW.2.2 hi3 dL_law_2197 ?_
    refine lv_aload_n hx hb dL_law_2198 rfl (lv_at hl 0 rfl) ?_
    refine lv_iload hx hb dL_law_2199 (lv_at hl 4 rfl) ?_
    refine lv_iconst (v := 4) hx hb dL_law_2201 (by decide) ?_
    refine lv_iadd hx hb dL_law_2202 ?_
    refine va_sld hx hb hX hbl hbA hW.2.2 hi4 dL_law_2203 ?_
    refine lv_aload_n hx hb dL_law_2204 rfl (lv_at hl 3 rfl) ?_
    refine l_wrap (n := 6) C0 hW (wL_pattern_3 l hfl D T A ad hok (oc_X11 T am M ++ []) ao g K (xs (x4 + 1).toNatClampNeg) (xs (x4 + 2).toNatClampNeg) (xs (x4 + 3).toNatClampNeg) (xs (x4 + 4).toNatClampNeg) r K9 q1) wm50_4 wm50_5 wm9_22 wm50_6 ⟨by decide +kernel, by decide +kernel, by decide +kernel⟩ ⟨by decide, by decide⟩ hc1 hs1 rfl hl.1 rfl (Nat.le_of_ble_eq_true rfl) dL_law_2205 (fun H locs hW => ?_)
    refine lv_istore (lv' := [(5, .int 3), (0, .ref b), (1, .ref (ad 0 0)), (2, .ref (am 0)), (3, .ref ao), (4, .int x4)]) hx hb dL_law_2208 hl (by decide) rfl (fun ls hl => ?_)
    refine lv_aload_n hx hb dL_law_2210 rfl (lv_at hl 3 rfl) ?_
    refine lv_aload_n hx hb dL_law_2211 rfl (lv_at hl 1 rfl) ?_
    refine lv_iload hx hb dL_law_2212 (lv_at hl 5 rfl) ?_
    refine lv_iconst (v := 1) hx hb dL_law_2214 (by decide) ?_
    refine lv_iadd hx hb dL_law_2215 ?_
    refine va_sld hx hb hX hbl hbA hW.2.2 hi1 dL_law_2216 ?_
    refine lv_aload_n hx hb dL_law_2217 rfl (lv_at hl 1 rfl) ?_
    refine lv_iload hx hb dL_law_2218 (lv_at hl 5 rfl) ?_
    refine lv_iconst (v := 2) hx hb dL_law_2220 (by decide) ?_
    refine lv_iadd hx hb dL_law_2221 ?_
    refine va_sld hx hb hX hbl hbA hW.2.2 hi2 dL_law_2222 ?_
    refine lv_aload_n hx hb dL_law_2223 rfl (lv_at hl 1 rfl) ?_
    refine lv_iload hx hb dL_law_2224 (lv_at hl 5 rfl) ?_
    refine lv_iconst (v := 3) hx hb dL_law_2226 (by decide) ?_
    refine lv_iadd hx hb dL_law_2227 ?_
    refine va_sld hx hb hX hbl hbA hW.2.2 hi3 dL_law_2228 ?_
    refine lv_aload_n hx hb dL_law_2229 rfl (lv_at hl 1 rfl) ?_
    refine lv_iload hx hb dL_law_2230 (lv_at hl 5 rfl) ?_
    refine lv_iconst (v := 4) hx hb dL_law_2232 (by decide) ?_
    refine lv_iadd hx hb dL_law_2233 ?_
    refine va_sld hx hb hX hbl hbA hW.2.2 hi4 dL_law_2234 ?_
    have hW := hW.perm pf3
    refine l_mod (As := [.int (xs (x4 + 1).toNatClampNeg), .int (xs (x4 + 2).toNatClampNeg), .int (xs (x4 + 3).toNatClampNeg), .int (xs (x4 + 4).toNatClampNeg)]) C0 hW (g_cw (n := 4) hts wm50_23 wm51_0 wm51_1 wm1_5 wm51_2 ⟨rfl, by decide +kernel, by decide +kernel, by decide +kernel⟩ ⟨rfl, rfl⟩ ⟨by decide, by decide⟩) rfl (c_X11_pattern l D T A am (outc T ao g ++ (oc_X10 T (ad 0) (bb ad) (K9 0) ++ (wkL T ad K9 L18 ++ []))) M (xs (x4 + 1).toNatClampNeg) (xs (x4 + 2).toNatClampNeg) (xs (x4 + 3).toNatClampNeg) (xs (x4 + 4).toNatClampNeg) b9 M9 q2) rfl hl.1 rfl (Nat.le_of_ble_eq_true rfl) dL_law_2235 (by omega) (by omega) (fun H locs hW => ?_)
    have hW := hW.perm pf3.symm
    refine lv_istore (lv' := [(6, .int b9), (5, .int 3), (0, .ref b), (1, .ref (ad 0 0)), (2, .ref (am 0)), (3, .ref ao), (4, .int x4)]) hx hb dL_law_2238 hl (by decide) rfl (fun ls hl => ?_)
    refine lv_aload_n hx hb dL_law_2240 rfl (lv_at hl 4 rfl) ?_
    have hW := hW.perm pf3
    refine l_mod (As := []) C0 hW (g_cw (n := 0) hts wm11_13 wm11_14 wm11_15 wm1_5 wm11_16 ⟨rfl, by decide +kernel, by decide +kernel, by decide +kernel⟩ ⟨rfl, rfl⟩ ⟨by decide, by decide⟩) rfl (c_X11_thrown l D T A am (outc T ao g ++ (oc_X10 T (ad 0) (bb ad) (K9 0) ++ (wkL T ad K9 L18 ++ []))) M9 3 q3) rfl hl.1 rfl (Nat.le_of_ble_eq_true rfl) dL_law_2241 (by omega) (by omega) (fun H locs hW => ?_)
    have hW := hW.perm pf3.symm
    refine lv_iload hx hb dL_law_2244 (lv_at hl 1 rfl) ?_
    refine lv_icmp_eq (tgt := 2251) hx hb dL_law_2246 (by decide) (fun _ => ?_) (fun c9 => absurd rfl c9)
    refine lv_iload hx hb dL_law_2251 (lv_at hl 1 rfl) ?_
    refine lv_if_ne (tgt := 2268) hx hb dL_law_2253 (by decide) (fun _ => ?_) (fun c9 => absurd c9 (by decide))
    refine lv_goto (tgt := 2470) hx hb dL_law_2268 (by decide) ?_
    exact kk K9 M9 g H locs ls hRI hW (lv_sub hl [2, 3, 4, 5, 6] rfl)
set_option maxHeartbeats 4000000 in
set_option maxRecDepth 100000 in
theorem law_off {RI : Nat → (Nat → Ob) → Ob → Prop} {j i : Nat} {x4 : Int32} {K : Nat → Ob} {M : Ob} {g : Nat → Int64} {H : Heap} {locs : List Loc} {cells slots : Nat} {ls : Array Slot} (C0 : LC p l s m c D T A b L xs ad) (hop : Op_off RI j K M (xs (x4 + 1).toNatClampNeg) (xs (x4 + 2).toNatClampNeg)) (hi : i + 6 < L) (ex4 : x4 = nI i) (hc1 : cells ≤ 2000) (hs1 : slots ≤ 400000) (hW : Wd D A s.heap (lw T ad am ao K M g) H locs) (hl : lv_has ls 7 [(0, .ref b), (1, .ref (ad 0 0)), (2, .ref (am 0)), (3, .ref ao), (4, .int x4)])
    (kk : ∀ (K9 : Nat → Ob) (M9 : Ob) (g9 : Nat → Int64) (H : Heap) (locs : List Loc) (ls : Array Slot), RI (j + 1) K9 M9 → Wd D A s.heap (lw T ad am ao K9 M9 g9) H locs → lv_has ls 7 [(0, .ref b), (1, .ref (ad 0 0)), (2, .ref (am 0)), (3, .ref ao), (4, .int x4)] → LW p l e s m b below meth c H locs (cells + 1) (slots + 6) Q (F0 m 2470 ls [])) : LW p l e s m b below meth c H locs cells slots Q (F0 m 2271 ls []) := by
  obtain ⟨hx, hb, hml, hown, hts, hX, hbl, hbA, hL, hK, hN, hE, hC, hok, hfl⟩ := id C0
  have hi1 : vp_in (x4 + 1) L := by rw [ex4, show (1 : Int32) = nI 1 from rfl, nI_add]; exact vp_in_nI (by omega) (by omega)
  have hi2 : vp_in (x4 + 2) L := by rw [ex4, show (2 : Int32) = nI 2 from rfl, nI_add]; exact vp_in_nI (by omega) (by omega)
  unfold lw at hW
  obtain ⟨k, r, K9, b9, M9, t, q1, q2, q3, hd, hRI⟩ := hop
  rcases hd with ⟨rfl, rfl, rfl⟩ | ⟨rfl, rfl⟩
  · refine lv_aload_n hx hb dL_law_2271 rfl (lv_at hl 1 rfl) ?_
    refine lv_aload_n hx hb dL_law_2272 rfl (lv_at hl 0 rfl) ?_
    refine lv_iload hx hb dL_law_2273 (lv_at hl 4 rfl) ?_
    refine lv_iconst (v := 1) hx hb dL_law_2275 (by decide) ?_
    refine lv_iadd hx hb dL_law_2276 ?_
    refine va_sld hx hb hX hbl hbA hW.2.2 hi1 dL_law_2277 ?_
    refine lv_aload_n hx hb dL_law_2278 rfl (lv_at hl 0 rfl) ?_
    refine lv_iload hx hb dL_law_2279 (lv_at hl 4 rfl) ?_
    refine lv_iconst (v := 2) hx hb dL_law_2281 (by decide) ?_
    refine lv_iadd hx hb dL_law_2282 ?_
    refine va_sld hx hb hX hbl hbA hW.2.2 hi2 dL_law_2283 ?_
    refine lv_aload_n hx hb dL_law_2284 rfl (lv_at hl 3 rfl) ?_
    refine l_wrap (n := 4) C0 hW (wL_off_0 l hfl D T A ad hok (oc_X11 T am M ++ []) ao g K (xs (x4 + 1).toNatClampNeg) (xs (x4 + 2).toNatClampNeg) r K9 q1) wm51_7 wm51_8 wm9_22 wm51_9 ⟨by decide +kernel, by decide +kernel, by decide +kernel⟩ ⟨by decide, by decide⟩ hc1 hs1 rfl hl.1 rfl (Nat.le_of_ble_eq_true rfl) dL_law_2285 (fun H locs hW => ?_)
    refine lv_istore (lv' := [(5, .int 0), (0, .ref b), (1, .ref (ad 0 0)), (2, .ref (am 0)), (3, .ref ao), (4, .int x4)]) hx hb dL_law_2288 hl (by decide) rfl (fun ls hl => ?_)
    refine lv_aload_n hx hb dL_law_2290 rfl (lv_at hl 3 rfl) ?_
    refine lv_aload_n hx hb dL_law_2291 rfl (lv_at hl 1 rfl) ?_
    refine lv_iload hx hb dL_law_2292 (lv_at hl 5 rfl) ?_
    refine lv_iconst (v := 1) hx hb dL_law_2294 (by decide) ?_
    refine lv_iadd hx hb dL_law_2295 ?_
    refine va_sld hx hb hX hbl hbA hW.2.2 hi1 dL_law_2296 ?_
    refine lv_aload_n hx hb dL_law_2297 rfl (lv_at hl 1 rfl) ?_
    refine lv_iload hx hb dL_law_2298 (lv_at hl 5 rfl) ?_
    refine lv_iconst (v := 2) hx hb dL_law_2300 (by decide) ?_
    refine lv_iadd hx hb dL_law_2301 ?_
    refine va_sld hx hb hX hbl hbA hW.2.2 hi2 dL_law_2302 ?_
    have hW := hW.perm pf3
    refine l_mod (As := [.int (xs (x4 + 1).toNatClampNeg), .int (xs (x4 + 2).toNatClampNeg)]) C0 hW (g_cw (n := 2) hts wm51_23 wm52_0 wm52_1 wm1_5 wm52_2 ⟨rfl, by decide +kernel, by decide +kernel, by decide +kernel⟩ ⟨rfl, rfl⟩ ⟨by decide, by decide⟩) rfl (c_X11_off l D T A am (outc T ao (vp_updL g 0 (if r = 0 then 0 else 1)) ++ (oc_X10 T (ad 0) (bb ad) (K9 0) ++ (wkL T ad K9 L18 ++ []))) M (xs (x4 + 1).toNatClampNeg) (xs (x4 + 2).toNatClampNeg) r M9 q2) rfl hl.1 rfl (Nat.le_of_ble_eq_true rfl) dL_law_2303 (by omega) (by omega) (fun H locs hW => ?_)
    have hW := hW.perm pf3.symm
    refine lv_istore (lv' := [(6, .int r), (5, .int 0), (0, .ref b), (1, .ref (ad 0 0)), (2, .ref (am 0)), (3, .ref ao), (4, .int x4)]) hx hb dL_law_2306 hl (by decide) rfl (fun ls hl => ?_)
    refine lv_aload_n hx hb dL_law_2308 rfl (lv_at hl 4 rfl) ?_
    have hW := hW.perm pf3
    refine l_mod (As := []) C0 hW (g_cw (n := 0) hts wm11_13 wm11_14 wm11_15 wm1_5 wm11_16 ⟨rfl, by decide +kernel, by decide +kernel, by decide +kernel⟩ ⟨rfl, rfl⟩ ⟨by decide, by decide⟩) rfl (c_X11_thrown l D T A am (outc T ao (vp_updL g 0 (if r = 0 then 0 else 1)) ++ (oc_X10 T (ad 0) (bb ad) (K9 0) ++ (wkL T ad K9 L18 ++ []))) M9 0 q3) rfl hl.1 rfl (Nat.le_of_ble_eq_true rfl) dL_law_2309 (by omega) (by omega) (fun H locs hW => ?_)
    have hW := hW.perm pf3.symm
    refine lv_iload hx hb dL_law_2312 (lv_at hl 1 rfl) ?_
    refine lv_icmp_eq (tgt := 2319) hx hb dL_law_2314 (by decide) (fun _ => ?_) (fun c9 => absurd rfl c9)
    refine lv_iload hx hb dL_law_2319 (lv_at hl 1 rfl) ?_
    refine lv_if_ne (tgt := 2343) hx hb dL_law_2321 (by decide) (fun c9 => absurd rfl c9) (fun _ => ?_)
    refine lv_aload_n hx hb dL_law_2324 rfl (lv_at hl 5 rfl) ?_
    refine lv_iconst (v := 0) hx hb dL_law_2325 (by decide) ?_
    refine va_lald hx hb hK hW.1 0 3 rfl rfl (gd_in (by decide)) dL_law_2326 ?_
    refine lv_iload hx hb dL_law_2327 (lv_at hl 0 rfl) ?_
    refine lv_if_eq (tgt := 2336) hx hb dL_law_2329 (by decide) (fun c1 => ?_) (fun c1 => ?_)
    · rw [show (vp_updL g 0 (if r = 0 then 0 else 1)) (0 : Int32).toNatClampNeg = 0 from by show (if r = 0 then (0 : Int64) else 1) = _; rw [if_pos c1]]
      refine lv_lconst (v := 0) hx hb dL_law_2336 (by decide) ?_
      refine W.lcmp hx hb dL_law_2337 ?_
      rw [lg_cmp_self]
      refine lv_if_eq (tgt := 2343) hx hb dL_law_2338 (by decide) (fun _ => ?_) (fun c9 => absurd rfl c9)
      refine lv_goto (tgt := 2470) hx hb dL_law_2343 (by decide) ?_
      exact kk K9 M9 (vp_updL g 0 (if r = 0 then 0 else 1)) H locs ls hRI hW (lv_sub hl [2, 3, 4, 5, 6] rfl)
    · rw [show (vp_updL g 0 (if r = 0 then 0 else 1)) (0 : Int32).toNatClampNeg = 1 from by show (if r = 0 then (0 : Int64) else 1) = _; rw [if_neg c1]]
      refine lv_lconst (v := 1) hx hb dL_law_2332 (by decide) ?_
      refine lv_goto (tgt := 2337) hx hb dL_law_2333 (by decide) ?_
      refine W.lcmp hx hb dL_law_2337 ?_
      rw [lg_cmp_self]
      refine lv_if_eq (tgt := 2343) hx hb dL_law_2338 (by decide) (fun _ => ?_) (fun c9 => absurd rfl c9)
      refine lv_goto (tgt := 2470) hx hb dL_law_2343 (by decide) ?_
      exact kk K9 M9 (vp_updL g 0 (if r = 0 then 0 else 1)) H locs ls hRI hW (lv_sub hl [2, 3, 4, 5, 6] rfl)
  · refine lv_aload_n hx hb dL_law_2271 rfl (lv_at hl 1 rfl) ?_
    refine lv_aload_n hx hb dL_law_2272 rfl (lv_at hl 0 rfl) ?_
    refine lv_iload hx hb dL_law_2273 (lv_at hl 4 rfl) ?_
    refine lv_iconst (v := 1) hx hb dL_law_2275 (by decide) ?_
    refine lv_iadd hx hb dL_law_2276 ?_
    refine va_sld hx hb hX hbl hbA hW.2.2 hi1 dL_law_2277 ?_
    refine lv_aload_n hx hb dL_law_2278 rfl (lv_at hl 0 rfl) ?_
    refine lv_iload hx hb dL_law_2279 (lv_at hl 4 rfl) ?_
    refine lv_iconst (v := 2) hx hb dL_law_2281 (by decide) ?_
    refine lv_iadd hx hb dL_law_2282 ?_
    refine va_sld hx hb hX hbl hbA hW.2.2 hi2 dL_law_2283 ?_
    refine lv_aload_n hx hb dL_law_2284 rfl (lv_at hl 3 rfl) ?_
    refine l_wrap (n := 4) C0 hW (wL_off_1 l hfl D T A ad hok (oc_X11 T am M ++ []) ao g K (xs (x4 + 1).toNatClampNeg) (xs (x4 + 2).toNatClampNeg) r K9 q1) wm51_7 wm51_8 wm9_22 wm51_9 ⟨by decide +kernel, by decide +kernel, by decide +kernel⟩ ⟨by decide, by decide⟩ hc1 hs1 rfl hl.1 rfl (Nat.le_of_ble_eq_true rfl) dL_law_2285 (fun H locs hW => ?_)
    refine lv_istore (lv' := [(5, .int 1), (0, .ref b), (1, .ref (ad 0 0)), (2, .ref (am 0)), (3, .ref ao), (4, .int x4)]) hx hb dL_law_2288 hl (by decide) rfl (fun ls hl => ?_)
    refine lv_aload_n hx hb dL_law_2290 rfl (lv_at hl 3 rfl) ?_
    refine lv_aload_n hx hb dL_law_2291 rfl (lv_at hl 1 rfl) ?_
    refine lv_iload hx hb dL_law_2292 (lv_at hl 5 rfl) ?_
    refine lv_iconst (v := 1) hx hb dL_law_2294 (by decide) ?_
    refine lv_iadd hx hb dL_law_2295 ?_
    refine va_sld hx hb hX hbl hbA hW.2.2 hi1 dL_law_2296 ?_
    refine lv_aload_n hx hb dL_law_2297 rfl (lv_at hl 1 rfl) ?_
    refine lv_iload hx hb dL_law_2298 (lv_at hl 5 rfl) ?_
    refine lv_iconst (v := 2) hx hb dL_law_2300 (by decide) ?_
    refine lv_iadd hx hb dL_law_2301 ?_
    refine va_sld hx hb hX hbl hbA hW.2.2 hi2 dL_law_2302 ?_
    have hW := hW.perm pf3
    refine l_mod (As := [.int (xs (x4 + 1).toNatClampNeg), .int (xs (x4 + 2).toNatClampNeg)]) C0 hW (g_cw (n := 2) hts wm51_23 wm52_0 wm52_1 wm1_5 wm52_2 ⟨rfl, by decide +kernel, by decide +kernel, by decide +kernel⟩ ⟨rfl, rfl⟩ ⟨by decide, by decide⟩) rfl (c_X11_off l D T A am (outc T ao g ++ (oc_X10 T (ad 0) (bb ad) (K9 0) ++ (wkL T ad K9 L18 ++ []))) M (xs (x4 + 1).toNatClampNeg) (xs (x4 + 2).toNatClampNeg) b9 M9 q2) rfl hl.1 rfl (Nat.le_of_ble_eq_true rfl) dL_law_2303 (by omega) (by omega) (fun H locs hW => ?_)
    have hW := hW.perm pf3.symm
    refine lv_istore (lv' := [(6, .int b9), (5, .int 1), (0, .ref b), (1, .ref (ad 0 0)), (2, .ref (am 0)), (3, .ref ao), (4, .int x4)]) hx hb dL_law_2306 hl (by decide) rfl (fun ls hl => ?_)
    refine lv_aload_n hx hb dL_law_2308 rfl (lv_at hl 4 rfl) ?_
    have hW := hW.perm pf3
    refine l_mod (As := []) C0 hW (g_cw (n := 0) hts wm11_13 wm11_14 wm11_15 wm1_5 wm11_16 ⟨rfl, by decide +kernel, by decide +kernel, by decide +kernel⟩ ⟨rfl, rfl⟩ ⟨by decide, by decide⟩) rfl (c_X11_thrown l D T A am (outc T ao g ++ (oc_X10 T (ad 0) (bb ad) (K9 0) ++ (wkL T ad K9 L18 ++ []))) M9 1 q3) rfl hl.1 rfl (Nat.le_of_ble_eq_true rfl) dL_law_2309 (by omega) (by omega) (fun H locs hW => ?_)
    have hW := hW.perm pf3.symm
    refine lv_iload hx hb dL_law_2312 (lv_at hl 1 rfl) ?_
    refine lv_icmp_eq (tgt := 2319) hx hb dL_law_2314 (by decide) (fun _ => ?_) (fun c9 => absurd rfl c9)
    refine lv_iload hx hb dL_law_2319 (lv_at hl 1 rfl) ?_
    refine lv_if_ne (tgt := 2343) hx hb dL_law_2321 (by decide) (fun _ => ?_) (fun c9 => absurd c9 (by decide))
    refine lv_goto (tgt := 2470) hx hb dL_law_2343 (by decide) ?_
    exact kk K9 M9 g H locs ls hRI hW (lv_sub hl [2, 3, 4, 5, 6] rfl)
set_option maxHeartbeats 4000000 in
set_option maxRecDepth 100000 in
theorem law_styleFaults {RI : Nat → (Nat → Ob) → Ob → Prop} {j i : Nat} {x4 : Int32} {K : Nat → Ob} {M : Ob} {g : Nat → Int64} {H : Heap} {locs : List Loc} {cells slots : Nat} {ls : Array Slot} (C0 : LC p l s m c D T A b L xs ad) (hop : Op_styleFaults RI j K M (xs (x4 + 1).toNatClampNeg)) (hi : i + 6 < L) (ex4 : x4 = nI i) (hc1 : cells ≤ 2000) (hs1 : slots ≤ 400000) (hW : Wd D A s.heap (lw T ad am ao K M g) H locs) (hl : lv_has ls 7 [(0, .ref b), (1, .ref (ad 0 0)), (2, .ref (am 0)), (3, .ref ao), (4, .int x4)])
    (kk : ∀ (K9 : Nat → Ob) (M9 : Ob) (g9 : Nat → Int64) (H : Heap) (locs : List Loc) (ls : Array Slot), RI (j + 1) K9 M9 → Wd D A s.heap (lw T ad am ao K9 M9 g9) H locs → lv_has ls 7 [(0, .ref b), (1, .ref (ad 0 0)), (2, .ref (am 0)), (3, .ref ao), (4, .int x4)] → LW p l e s m b below meth c H locs (cells + 1) (slots + 6) Q (F0 m 2470 ls [])) : LW p l e s m b below meth c H locs cells slots Q (F0 m 2346 ls []) := by
  obtain ⟨hx, hb, hml, hown, hts, hX, hbl, hbA, hL, hK, hN, hE, hC, hok, hfl⟩ := id C0
  have hi1 : vp_in (x4 + 1) L := by rw [ex4, show (1 : Int32) = nI 1 from rfl, nI_add]; exact vp_in_nI (by omega) (by omega)
  unfold lw at hW
  obtain ⟨k, r, K9, b9, M9, t, q1, q2, q3, hd, hRI⟩ := hop
  rcases hd with ⟨rfl, rfl, rfl⟩ | ⟨rfl, rfl⟩
  · refine lv_aload_n hx hb dL_law_2346 rfl (lv_at hl 1 rfl) ?_
    refine lv_aload_n hx hb dL_law_2347 rfl (lv_at hl 0 rfl) ?_
    refine lv_iload hx hb dL_law_2348 (lv_at hl 4 rfl) ?_
    refine lv_iconst (v := 1) hx hb dL_law_2350 (by decide) ?_
    refine lv_iadd hx hb dL_law_2351 ?_
    refine va_sld hx hb hX hbl hbA hW.2.2 hi1 dL_law_2352 ?_
    refine lv_aload_n hx hb dL_law_2353 rfl (lv_at hl 3 rfl) ?_
    refine l_wrap (n := 3) C0 hW (wL_styleFaults_0 l hfl D T A ad hok (oc_X11 T am M ++ []) ao g K (xs (x4 + 1).toNatClampNeg) r K9 q1) wm52_3 wm52_4 wm9_22 wm52_5 ⟨by decide +kernel, by decide +kernel, by decide +kernel⟩ ⟨by decide, by decide⟩ hc1 hs1 rfl hl.1 rfl (Nat.le_of_ble_eq_true rfl) dL_law_2354 (fun H locs hW => ?_)
    refine lv_istore (lv' := [(5, .int 0), (0, .ref b), (1, .ref (ad 0 0)), (2, .ref (am 0)), (3, .ref ao), (4, .int x4)]) hx hb dL_law_2357 hl (by decide) rfl (fun ls hl => ?_)
    refine lv_aload_n hx hb dL_law_2359 rfl (lv_at hl 3 rfl) ?_
    refine lv_aload_n hx hb dL_law_2360 rfl (lv_at hl 1 rfl) ?_
    refine lv_iload hx hb dL_law_2361 (lv_at hl 5 rfl) ?_
    refine lv_iconst (v := 1) hx hb dL_law_2363 (by decide) ?_
    refine lv_iadd hx hb dL_law_2364 ?_
    refine va_sld hx hb hX hbl hbA hW.2.2 hi1 dL_law_2365 ?_
    have hW := hW.perm pf3
    refine l_mod (As := [.int (xs (x4 + 1).toNatClampNeg)]) C0 hW (g_cw (n := 1) hts wm53_11 wm53_12 wm53_13 wm1_5 wm53_14 ⟨rfl, by decide +kernel, by decide +kernel, by decide +kernel⟩ ⟨rfl, rfl⟩ ⟨by decide, by decide⟩) rfl (c_X11_styleFaults l D T A am (outc T ao (vp_updL g 0 r.toInt64) ++ (oc_X10 T (ad 0) (bb ad) (K9 0) ++ (wkL T ad K9 L18 ++ []))) M (xs (x4 + 1).toNatClampNeg) r M9 q2) rfl hl.1 rfl (Nat.le_of_ble_eq_true rfl) dL_law_2366 (by omega) (by omega) (fun H locs hW => ?_)
    have hW := hW.perm pf3.symm
    refine lv_istore (lv' := [(6, .int r), (5, .int 0), (0, .ref b), (1, .ref (ad 0 0)), (2, .ref (am 0)), (3, .ref ao), (4, .int x4)]) hx hb dL_law_2369 hl (by decide) rfl (fun ls hl => ?_)
    refine lv_aload_n hx hb dL_law_2371 rfl (lv_at hl 4 rfl) ?_
    have hW := hW.perm pf3
    refine l_mod (As := []) C0 hW (g_cw (n := 0) hts wm11_13 wm11_14 wm11_15 wm1_5 wm11_16 ⟨rfl, by decide +kernel, by decide +kernel, by decide +kernel⟩ ⟨rfl, rfl⟩ ⟨by decide, by decide⟩) rfl (c_X11_thrown l D T A am (outc T ao (vp_updL g 0 r.toInt64) ++ (oc_X10 T (ad 0) (bb ad) (K9 0) ++ (wkL T ad K9 L18 ++ []))) M9 0 q3) rfl hl.1 rfl (Nat.le_of_ble_eq_true rfl) dL_law_2372 (by omega) (by omega) (fun H locs hW => ?_)
    have hW := hW.perm pf3.symm
    refine lv_iload hx hb dL_law_2375 (lv_at hl 1 rfl) ?_
    refine lv_icmp_eq (tgt := 2382) hx hb dL_law_2377 (by decide) (fun _ => ?_) (fun c9 => absurd rfl c9)
    refine lv_iload hx hb dL_law_2382 (lv_at hl 1 rfl) ?_
    refine lv_if_ne (tgt := 2399) hx hb dL_law_2384 (by decide) (fun c9 => absurd rfl c9) (fun _ => ?_)
    refine lv_aload_n hx hb dL_law_2387 rfl (lv_at hl 5 rfl) ?_
    refine lv_iconst (v := 0) hx hb dL_law_2388 (by decide) ?_
    refine va_lald hx hb hK hW.1 0 3 rfl rfl (gd_in (by decide)) dL_law_2389 ?_
    rw [show (vp_updL g 0 r.toInt64) (0 : Int32).toNatClampNeg = r.toInt64 from rfl]
    refine lv_iload hx hb dL_law_2390 (lv_at hl 0 rfl) ?_
    refine lv_i2l (v := r.toInt64) hx hb dL_law_2392 rfl ?_
    refine W.lcmp hx hb dL_law_2393 ?_
    rw [lg_cmp_self]
    refine lv_if_eq (tgt := 2399) hx hb dL_law_2394 (by decide) (fun _ => ?_) (fun c9 => absurd rfl c9)
    refine lv_goto (tgt := 2470) hx hb dL_law_2399 (by decide) ?_
    exact kk K9 M9 (vp_updL g 0 r.toInt64) H locs ls hRI hW (lv_sub hl [2, 3, 4, 5, 6] rfl)
  · refine lv_aload_n hx hb dL_law_2346 rfl (lv_at hl 1 rfl) ?_
    refine lv_aload_n hx hb dL_law_2347 rfl (lv_at hl 0 rfl) ?_
    refine lv_iload hx hb dL_law_2348 (lv_at hl 4 rfl) ?_
    refine lv_iconst (v := 1) hx hb dL_law_2350 (by decide) ?_
    refine lv_iadd hx hb dL_law_2351 ?_
    refine va_sld hx hb hX hbl hbA hW.2.2 hi1 dL_law_2352 ?_
    refine lv_aload_n hx hb dL_law_2353 rfl (lv_at hl 3 rfl) ?_
    refine l_wrap (n := 3) C0 hW (wL_styleFaults_1 l hfl D T A ad hok (oc_X11 T am M ++ []) ao g K (xs (x4 + 1).toNatClampNeg) r K9 q1) wm52_3 wm52_4 wm9_22 wm52_5 ⟨by decide +kernel, by decide +kernel, by decide +kernel⟩ ⟨by decide, by decide⟩ hc1 hs1 rfl hl.1 rfl (Nat.le_of_ble_eq_true rfl) dL_law_2354 (fun H locs hW => ?_)
    refine lv_istore (lv' := [(5, .int 1), (0, .ref b), (1, .ref (ad 0 0)), (2, .ref (am 0)), (3, .ref ao), (4, .int x4)]) hx hb dL_law_2357 hl (by decide) rfl (fun ls hl => ?_)
    refine lv_aload_n hx hb dL_law_2359 rfl (lv_at hl 3 rfl) ?_
    refine lv_aload_n hx hb dL_law_2360 rfl (lv_at hl 1 rfl) ?_
    refine lv_iload hx hb dL_law_2361 (lv_at hl 5 rfl) ?_
    refine lv_iconst (v := 1) hx hb dL_law_2363 (by decide) ?_
    refine lv_iadd hx hb dL_law_2364 ?_
    refine va_sld hx hb hX hbl hbA hW.2.2 hi1 dL_law_2365 ?_
    have hW := hW.perm pf3
    refine l_mod (As := [.int (xs (x4 + 1).toNatClampNeg)]) C0 hW (g_cw (n := 1) hts wm53_11 wm53_12 wm53_13 wm1_5 wm53_14 ⟨rfl, by decide +kernel, by decide +kernel, by decide +kernel⟩ ⟨rfl, rfl⟩ ⟨by decide, by decide⟩) rfl (c_X11_styleFaults l D T A am (outc T ao g ++ (oc_X10 T (ad 0) (bb ad) (K9 0) ++ (wkL T ad K9 L18 ++ []))) M (xs (x4 + 1).toNatClampNeg) b9 M9 q2) rfl hl.1 rfl (Nat.le_of_ble_eq_true rfl) dL_law_2366 (by omega) (by omega) (fun H locs hW => ?_)
    have hW := hW.perm pf3.symm
    refine lv_istore (lv' := [(6, .int b9), (5, .int 1), (0, .ref b), (1, .ref (ad 0 0)), (2, .ref (am 0)), (3, .ref ao), (4, .int x4)]) hx hb dL_law_2369 hl (by decide) rfl (fun ls hl => ?_)
    refine lv_aload_n hx hb dL_law_2371 rfl (lv_at hl 4 rfl) ?_
    have hW := hW.perm pf3
    refine l_mod (As := []) C0 hW (g_cw (n := 0) hts wm11_13 wm11_14 wm11_15 wm1_5 wm11_16 ⟨rfl, by decide +kernel, by decide +kernel, by decide +kernel⟩ ⟨rfl, rfl⟩ ⟨by decide, by decide⟩) rfl (c_X11_thrown l D T A am (outc T ao g ++ (oc_X10 T (ad 0) (bb ad) (K9 0) ++ (wkL T ad K9 L18 ++ []))) M9 1 q3) rfl hl.1 rfl (Nat.le_of_ble_eq_true rfl) dL_law_2372 (by omega) (by omega) (fun H locs hW => ?_)
    have hW := hW.perm pf3.symm
    refine lv_iload hx hb dL_law_2375 (lv_at hl 1 rfl) ?_
    refine lv_icmp_eq (tgt := 2382) hx hb dL_law_2377 (by decide) (fun _ => ?_) (fun c9 => absurd rfl c9)
    refine lv_iload hx hb dL_law_2382 (lv_at hl 1 rfl) ?_
    refine lv_if_ne (tgt := 2399) hx hb dL_law_2384 (by decide) (fun _ => ?_) (fun c9 => absurd c9 (by decide))
    refine lv_goto (tgt := 2470) hx hb dL_law_2399 (by decide) ?_
    exact kk K9 M9 g H locs ls hRI hW (lv_sub hl [2, 3, 4, 5, 6] rfl)
set_option maxHeartbeats 4000000 in
set_option maxRecDepth 100000 in
theorem law_styleFault {RI : Nat → (Nat → Ob) → Ob → Prop} {j i : Nat} {x4 : Int32} {K : Nat → Ob} {M : Ob} {g : Nat → Int64} {H : Heap} {locs : List Loc} {cells slots : Nat} {ls : Array Slot} (C0 : LC p l s m c D T A b L xs ad) (hop : Op_styleFault RI j K M (xs (x4 + 1).toNatClampNeg) (xs (x4 + 2).toNatClampNeg)) (hi : i + 6 < L) (ex4 : x4 = nI i) (hc1 : cells ≤ 2000) (hs1 : slots ≤ 400000) (hW : Wd D A s.heap (lw T ad am ao K M g) H locs) (hl : lv_has ls 7 [(0, .ref b), (1, .ref (ad 0 0)), (2, .ref (am 0)), (3, .ref ao), (4, .int x4)])
    (kk : ∀ (K9 : Nat → Ob) (M9 : Ob) (g9 : Nat → Int64) (H : Heap) (locs : List Loc) (ls : Array Slot), RI (j + 1) K9 M9 → Wd D A s.heap (lw T ad am ao K9 M9 g9) H locs → lv_has ls 7 [(0, .ref b), (1, .ref (ad 0 0)), (2, .ref (am 0)), (3, .ref ao), (4, .int x4)] → LW p l e s m b below meth c H locs (cells + 1) (slots + 6) Q (F0 m 2470 ls [])) : LW p l e s m b below meth c H locs cells slots Q (F0 m 2402 ls []) := by
  obtain ⟨hx, hb, hml, hown, hts, hX, hbl, hbA, hL, hK, hN, hE, hC, hok, hfl⟩ := id C0
  have hi1 : vp_in (x4 + 1) L := by rw [ex4, show (1 : Int32) = nI 1 from rfl, nI_add]; exact vp_in_nI (by omega) (by omega)
  have hi2 : vp_in (x4 + 2) L := by rw [ex4, show (2 : Int32) = nI 2 from rfl, nI_add]; exact vp_in_nI (by omega) (by omega)
  unfold lw at hW
  obtain ⟨k, r, K9, b9, M9, t, q1, q2, q3, hd, hRI⟩ := hop
  rcases hd with ⟨rfl, rfl, rfl⟩ | ⟨rfl, rfl⟩
  · refine lv_aload_n hx hb dL_law_2402 rfl (lv_at hl 1 rfl) ?_
    refine lv_aload_n hx hb dL_law_2403 rfl (lv_at hl 0 rfl) ?_
    refine lv_iload hx hb dL_law_2404 (lv_at hl 4 rfl) ?_
    refine lv_iconst (v := 1) hx hb dL_law_2406 (by decide) ?_
    refine lv_iadd hx hb dL_law_2407 ?_
    refine va_sld hx hb hX hbl hbA hW.2.2 hi1 dL_law_2408 ?_
    refine lv_aload_n hx hb dL_law_2409 rfl (lv_at hl 0 rfl) ?_
    refine lv_iload hx hb dL_law_2410 (lv_at hl 4 rfl) ?_
    refine lv_iconst (v := 2) hx hb dL_law_2412 (by decide) ?_
    refine lv_iadd hx hb dL_law_2413 ?_
    refine va_sld hx hb hX hbl hbA hW.2.2 hi2 dL_law_2414 ?_
    refine lv_aload_n hx hb dL_law_2415 rfl (lv_at hl 3 rfl) ?_
    refine l_wrap (n := 4) C0 hW (wL_styleFault_0 l hfl D T A ad hok (oc_X11 T am M ++ []) ao g K (xs (x4 + 1).toNatClampNeg) (xs (x4 + 2).toNatClampNeg) r K9 q1) wm54_3 wm54_4 wm9_22 wm54_5 ⟨by decide +kernel, by decide +kernel, by decide +kernel⟩ ⟨by decide, by decide⟩ hc1 hs1 rfl hl.1 rfl (Nat.le_of_ble_eq_true rfl) dL_law_2416 (fun H locs hW => ?_)
    refine lv_istore (lv' := [(5, .int 0), (0, .ref b), (1, .ref (ad 0 0)), (2, .ref (am 0)), (3, .ref ao), (4, .int x4)]) hx hb dL_law_2419 hl (by decide) rfl (fun ls hl => ?_)
    refine lv_aload_n hx hb dL_law_2421 rfl (lv_at hl 3 rfl) ?_
    refine lv_aload_n hx hb dL_law_2422 rfl (lv_at hl 1 rfl) ?_
    refine lv_iload hx hb dL_law_2423 (lv_at hl 5 rfl) ?_
    refine lv_iconst (v := 1) hx hb dL_law_2425 (by decide) ?_
    refine lv_iadd hx hb dL_law_2426 ?_
    refine va_sld hx hb hX hbl hbA hW.2.2 hi1 dL_law_2427 ?_
    refine lv_aload_n hx hb dL_law_2428 rfl (lv_at hl 1 rfl) ?_
    refine lv_iload hx hb dL_law_2429 (lv_at hl 5 rfl) ?_
    refine lv_iconst (v := 2) hx hb dL_law_2431 (by decide) ?_
    refine lv_iadd hx hb dL_law_2432 ?_
    refine va_sld hx hb hX hbl hbA hW.2.2 hi2 dL_law_2433 ?_
    have hW := hW.perm pf3
    refine l_mod (As := [.int (xs (x4 + 1).toNatClampNeg), .int (xs (x4 + 2).toNatClampNeg)]) C0 hW (g_cw (n := 2) hts wm54_14 wm54_15 wm54_16 wm1_5 wm54_17 ⟨rfl, by decide +kernel, by decide +kernel, by decide +kernel⟩ ⟨rfl, rfl⟩ ⟨by decide, by decide⟩) rfl (c_X11_styleFault l D T A am (outc T ao (vp_updL g 0 r.toInt64) ++ (oc_X10 T (ad 0) (bb ad) (K9 0) ++ (wkL T ad K9 L18 ++ []))) M (xs (x4 + 1).toNatClampNeg) (xs (x4 + 2).toNatClampNeg) r M9 q2) rfl hl.1 rfl (Nat.le_of_ble_eq_true rfl) dL_law_2434 (by omega) (by omega) (fun H locs hW => ?_)
    have hW := hW.perm pf3.symm
    refine lv_istore (lv' := [(6, .int r), (5, .int 0), (0, .ref b), (1, .ref (ad 0 0)), (2, .ref (am 0)), (3, .ref ao), (4, .int x4)]) hx hb dL_law_2437 hl (by decide) rfl (fun ls hl => ?_)
    refine lv_aload_n hx hb dL_law_2439 rfl (lv_at hl 4 rfl) ?_
    have hW := hW.perm pf3
    refine l_mod (As := []) C0 hW (g_cw (n := 0) hts wm11_13 wm11_14 wm11_15 wm1_5 wm11_16 ⟨rfl, by decide +kernel, by decide +kernel, by decide +kernel⟩ ⟨rfl, rfl⟩ ⟨by decide, by decide⟩) rfl (c_X11_thrown l D T A am (outc T ao (vp_updL g 0 r.toInt64) ++ (oc_X10 T (ad 0) (bb ad) (K9 0) ++ (wkL T ad K9 L18 ++ []))) M9 0 q3) rfl hl.1 rfl (Nat.le_of_ble_eq_true rfl) dL_law_2440 (by omega) (by omega) (fun H locs hW => ?_)
    have hW := hW.perm pf3.symm
    refine lv_iload hx hb dL_law_2443 (lv_at hl 1 rfl) ?_
    refine lv_icmp_eq (tgt := 2450) hx hb dL_law_2445 (by decide) (fun _ => ?_) (fun c9 => absurd rfl c9)
    refine lv_iload hx hb dL_law_2450 (lv_at hl 1 rfl) ?_
    refine lv_if_ne (tgt := 2467) hx hb dL_law_2452 (by decide) (fun c9 => absurd rfl c9) (fun _ => ?_)
    refine lv_aload_n hx hb dL_law_2455 rfl (lv_at hl 5 rfl) ?_
    refine lv_iconst (v := 0) hx hb dL_law_2456 (by decide) ?_
    refine va_lald hx hb hK hW.1 0 3 rfl rfl (gd_in (by decide)) dL_law_2457 ?_
    rw [show (vp_updL g 0 r.toInt64) (0 : Int32).toNatClampNeg = r.toInt64 from rfl]
    refine lv_iload hx hb dL_law_2458 (lv_at hl 0 rfl) ?_
    refine lv_i2l (v := r.toInt64) hx hb dL_law_2460 rfl ?_
    refine W.lcmp hx hb dL_law_2461 ?_
    rw [lg_cmp_self]
    refine lv_if_eq (tgt := 2467) hx hb dL_law_2462 (by decide) (fun _ => ?_) (fun c9 => absurd rfl c9)
    refine lv_goto (tgt := 2470) hx hb dL_law_2467 (by decide) ?_
    exact kk K9 M9 (vp_updL g 0 r.toInt64) H locs ls hRI hW (lv_sub hl [2, 3, 4, 5, 6] rfl)
  · refine lv_aload_n hx hb dL_law_2402 rfl (lv_at hl 1 rfl) ?_
    refine lv_aload_n hx hb dL_law_2403 rfl (lv_at hl 0 rfl) ?_
    refine lv_iload hx hb dL_law_2404 (lv_at hl 4 rfl) ?_
    refine lv_iconst (v := 1) hx hb dL_law_2406 (by decide) ?_
    refine lv_iadd hx hb dL_law_2407 ?_
    refine va_sld hx hb hX hbl hbA hW.2.2 hi1 dL_law_2408 ?_
    refine lv_aload_n hx hb dL_law_2409 rfl (lv_at hl 0 rfl) ?_
    refine lv_iload hx hb dL_law_2410 (lv_at hl 4 rfl) ?_
    refine lv_iconst (v := 2) hx hb dL_law_2412 (by decide) ?_
    refine lv_iadd hx hb dL_law_2413 ?_
    refine va_sld hx hb hX hbl hbA hW.2.2 hi2 dL_law_2414 ?_
    refine lv_aload_n hx hb dL_law_2415 rfl (lv_at hl 3 rfl) ?_
    refine l_wrap (n := 4) C0 hW (wL_styleFault_1 l hfl D T A ad hok (oc_X11 T am M ++ []) ao g K (xs (x4 + 1).toNatClampNeg) (xs (x4 + 2).toNatClampNeg) r K9 q1) wm54_3 wm54_4 wm9_22 wm54_5 ⟨by decide +kernel, by decide +kernel, by decide +kernel⟩ ⟨by decide, by decide⟩ hc1 hs1 rfl hl.1 rfl (Nat.le_of_ble_eq_true rfl) dL_law_2416 (fun H locs hW => ?_)
    refine lv_istore (lv' := [(5, .int 1), (0, .ref b), (1, .ref (ad 0 0)), (2, .ref (am 0)), (3, .ref ao), (4, .int x4)]) hx hb dL_law_2419 hl (by decide) rfl (fun ls hl => ?_)
    refine lv_aload_n hx hb dL_law_2421 rfl (lv_at hl 3 rfl) ?_
    refine lv_aload_n hx hb dL_law_2422 rfl (lv_at hl 1 rfl) ?_
    refine lv_iload hx hb dL_law_2423 (lv_at hl 5 rfl) ?_
    refine lv_iconst (v := 1) hx hb dL_law_2425 (by decide) ?_
    refine lv_iadd hx hb dL_law_2426 ?_
    refine va_sld hx hb hX hbl hbA hW.2.2 hi1 dL_law_2427 ?_
    refine lv_aload_n hx hb dL_law_2428 rfl (lv_at hl 1 rfl) ?_
    refine lv_iload hx hb dL_law_2429 (lv_at hl 5 rfl) ?_
    refine lv_iconst (v := 2) hx hb dL_law_2431 (by decide) ?_
    refine lv_iadd hx hb dL_law_2432 ?_
    refine va_sld hx hb hX hbl hbA hW.2.2 hi2 dL_law_2433 ?_
    have hW := hW.perm pf3
    refine l_mod (As := [.int (xs (x4 + 1).toNatClampNeg), .int (xs (x4 + 2).toNatClampNeg)]) C0 hW (g_cw (n := 2) hts wm54_14 wm54_15 wm54_16 wm1_5 wm54_17 ⟨rfl, by decide +kernel, by decide +kernel, by decide +kernel⟩ ⟨rfl, rfl⟩ ⟨by decide, by decide⟩) rfl (c_X11_styleFault l D T A am (outc T ao g ++ (oc_X10 T (ad 0) (bb ad) (K9 0) ++ (wkL T ad K9 L18 ++ []))) M (xs (x4 + 1).toNatClampNeg) (xs (x4 + 2).toNatClampNeg) b9 M9 q2) rfl hl.1 rfl (Nat.le_of_ble_eq_true rfl) dL_law_2434 (by omega) (by omega) (fun H locs hW => ?_)
    have hW := hW.perm pf3.symm
    refine lv_istore (lv' := [(6, .int b9), (5, .int 1), (0, .ref b), (1, .ref (ad 0 0)), (2, .ref (am 0)), (3, .ref ao), (4, .int x4)]) hx hb dL_law_2437 hl (by decide) rfl (fun ls hl => ?_)
    refine lv_aload_n hx hb dL_law_2439 rfl (lv_at hl 4 rfl) ?_
    have hW := hW.perm pf3
    refine l_mod (As := []) C0 hW (g_cw (n := 0) hts wm11_13 wm11_14 wm11_15 wm1_5 wm11_16 ⟨rfl, by decide +kernel, by decide +kernel, by decide +kernel⟩ ⟨rfl, rfl⟩ ⟨by decide, by decide⟩) rfl (c_X11_thrown l D T A am (outc T ao g ++ (oc_X10 T (ad 0) (bb ad) (K9 0) ++ (wkL T ad K9 L18 ++ []))) M9 1 q3) rfl hl.1 rfl (Nat.le_of_ble_eq_true rfl) dL_law_2440 (by omega) (by omega) (fun H locs hW => ?_)
    have hW := hW.perm pf3.symm
    refine lv_iload hx hb dL_law_2443 (lv_at hl 1 rfl) ?_
    refine lv_icmp_eq (tgt := 2450) hx hb dL_law_2445 (by decide) (fun _ => ?_) (fun c9 => absurd rfl c9)
    refine lv_iload hx hb dL_law_2450 (lv_at hl 1 rfl) ?_
    refine lv_if_ne (tgt := 2467) hx hb dL_law_2452 (by decide) (fun _ => ?_) (fun c9 => absurd c9 (by decide))
    refine lv_goto (tgt := 2470) hx hb dL_law_2467 (by decide) ?_
    exact kk K9 M9 g H locs ls hRI hW (lv_sub hl [2, 3, 4, 5, 6] rfl)
end LAWCASES
