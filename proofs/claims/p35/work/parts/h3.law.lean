/-! The law's step: its branches. -/
theorem pmLex {X0 X1 X2 X3 X4 X5 X6 X7 X8 X9 X10 X11 X12 X13 X14 X15 Z : va_W} : (X0 ++ (X1 ++ (X2 ++ (X3 ++ (X4 ++ (X5 ++ (X6 ++ (X7 ++ (X8 ++ (X9 ++ (X10 ++ (X11 ++ (X12 ++ (X13 ++ (X14 ++ (X15 ++ Z)))))))))))))))).Perm (X0 ++ (X1 ++ (X2 ++ (X14 ++ (X15 ++ (X3 ++ (X4 ++ (X5 ++ (X6 ++ (X7 ++ (X8 ++ (X9 ++ (X10 ++ (X11 ++ (X12 ++ (X13 ++ Z)))))))))))))))) := pf15.trans (pf15.trans (pf4.trans (pf4.trans (pf4))))
theorem pmGra {X0 X1 X2 X3 X4 X5 X6 X7 X8 X9 X10 X11 X12 X13 X14 X15 Z : va_W} : (X0 ++ (X1 ++ (X2 ++ (X3 ++ (X4 ++ (X5 ++ (X6 ++ (X7 ++ (X8 ++ (X9 ++ (X10 ++ (X11 ++ (X12 ++ (X13 ++ (X14 ++ (X15 ++ Z)))))))))))))))).Perm (X0 ++ (X7 ++ (X8 ++ (X9 ++ (X10 ++ (X14 ++ (X15 ++ (X1 ++ (X2 ++ (X3 ++ (X4 ++ (X5 ++ (X6 ++ (X11 ++ (X12 ++ (X13 ++ Z)))))))))))))))) := pf15.trans (pf15.trans (pf12.trans (pf12.trans (pf12.trans (pf12.trans (pf6))))))
theorem pmTex {X0 X1 X2 X3 X4 X5 X6 X7 X8 X9 X10 X11 X12 X13 X14 X15 Z : va_W} : (X0 ++ (X1 ++ (X2 ++ (X3 ++ (X4 ++ (X5 ++ (X6 ++ (X7 ++ (X8 ++ (X9 ++ (X10 ++ (X11 ++ (X12 ++ (X13 ++ (X14 ++ (X15 ++ Z)))))))))))))))).Perm (X0 ++ (X3 ++ (X14 ++ (X15 ++ (X1 ++ (X2 ++ (X4 ++ (X5 ++ (X6 ++ (X7 ++ (X8 ++ (X9 ++ (X10 ++ (X11 ++ (X12 ++ (X13 ++ Z)))))))))))))))) := pf15.trans (pf15.trans (pf5.trans (pf3)))
theorem pmPat {X0 X1 X2 X3 X4 X5 X6 X7 X8 X9 X10 X11 X12 X13 X14 X15 Z : va_W} : (X0 ++ (X1 ++ (X2 ++ (X3 ++ (X4 ++ (X5 ++ (X6 ++ (X7 ++ (X8 ++ (X9 ++ (X10 ++ (X11 ++ (X12 ++ (X13 ++ (X14 ++ (X15 ++ Z)))))))))))))))).Perm (X0 ++ (X12 ++ (X13 ++ (X14 ++ (X15 ++ (X1 ++ (X2 ++ (X3 ++ (X4 ++ (X5 ++ (X6 ++ (X7 ++ (X8 ++ (X9 ++ (X10 ++ (X11 ++ Z)))))))))))))))) := pf15.trans (pf15.trans (pf15.trans (pf15.trans (pf4))))
def lwd (T : Nat → ClassId) (ad : Nat → Nat → Nat) (am : Nat → Nat) (K : Nat → Ob) (rc rw ru rx rl rf rv rt rg rq rn rh rp rk : Rw) : va_W := oA T 12 (am 2) rc ++ (oA T 24 (am 3) rw ++ (oA T 2 (am 4) ru ++ (oA T 6 (am 5) rx ++ (oA T 6 (am 6) rl ++ (oA T 6 (am 7) rf ++ (oA T 12 (am 8) rv ++ (oA T 20 (am 9) rt ++ (oA T 20 (am 10) rg ++ (oA T 60 (am 11) rq ++ (oA T 5 (am 12) rn ++ (oA T 16 (am 13) rh ++ (oA T 30 (am 14) rp ++ (oA T 6 (am 15) rk ++ (oc_X10 T (ad 0) (bb ad) (K 0) ++ (wkL T ad K L18 ++ [])))))))))))))))
/-- what is known all along in the law's body -/
def LC2 (p : Program) (l : Launch) (s : State) (m : MethodId) (c : Code) (D : va_G) (T : Nat → ClassId) (A : Nat → Prop) (b L : Nat) (xs : Nat → Int32) (ad : Nat → Nat → Nat) : Prop :=
  p.tables.exec = Jvm.exec ∧ c.code = code ∧ c.maxLocals = 21 ∧ s.vm.findClass RL = some m.cls ∧ (∀ w ∈ wsL_law, w.before #[Value.ref b] s = true) ∧ va_X b L xs s s.heap ∧ b < s.heap.size ∧ ¬ A b ∧ L ≤ 260 ∧ va_K D vwCl (tys T) s ∧ NN s ∧ EX A s s.heap ∧ NC s ∧ okad ad ∧ l.stackTraces = false ∧ ∀ q, s.heap.size ≤ q → A q
section LAWB
variable {p : Program} {l : Launch} {e : Env} {s : State} {m : MethodId} {below : List Frame} {meth : Method} {c : Code} {Q : State → Prop} {D : va_G} {T : Nat → ClassId} {A : Nat → Prop} {b L : Nat} {xs : Nat → Int32} {ad : Nat → Nat → Nat} {am : Nat → Nat}
set_option maxHeartbeats 4000000 in
set_option maxRecDepth 100000 in
theorem law_b146 {j N : Nat} {K : Nat → Ob} {M : Ob} {rc rw ru rx rl rf rv rt rg rq rn rh rp rk : Rw} {xi xd yy xk : Int32} {H : Heap} {locs : List Loc} {ls : Array Slot} (C0 : LC2 p l s m c D T A b L xs ad) (hRI : RI j K M) (hj : j < 1000000) (hXX : LX rc rw ru rx rt rg rq rn rh rp rk M) (hee : LXe M) (hNN : N + 4751 ≤ 429000) (hW : Wd D A s.heap (lwd T ad am K rc rw ru rx rl rf rv rt rg rq rn rh rp rk) H locs) (hl : lv_has ls 21 [(0, .ref b), (1, .ref (ad 0 0)), (2, .ref (am 2)), (3, .ref (am 3)), (4, .ref (am 4)), (5, .ref (am 5)), (6, .ref (am 6)), (7, .ref (am 7)), (8, .ref (am 8)), (9, .ref (am 9)), (10, .ref (am 10)), (11, .ref (am 11)), (12, .ref (am 12)), (13, .ref (am 13)), (14, .ref (am 14)), (15, .ref (am 15)), (16, .int xi), (17, .int xd), (18, .int yy), (19, .int xk)])
    (kk : ∀ (K9 : Nat → Ob) (c9 w9 u9 x9 l9 f9 v9 t9 g9 q9 n9 h9 p9 k9 : Rw) (M9 : Ob) (H : Heap) (locs : List Loc), RI (j + 1) K9 M9 → LX c9 w9 u9 x9 t9 g9 q9 n9 h9 p9 k9 M9 → LXe M9 → Wd D A s.heap (lwd T ad am K9 c9 w9 u9 x9 l9 f9 v9 t9 g9 q9 n9 h9 p9 k9) H locs → W p l e room_1 s m #[Value.ref b] below meth c H locs (N + 1) (16 * (N + 1)) Q (F0 m 459 ls [.int 1])) : W p l e room_1 s m #[Value.ref b] below meth c H locs N (16 * N) Q (F0 m 146 ls []) := by
  obtain ⟨hx, hb, hml, hown, hts, hX0, hbl, hbA, hL, hK, hN, hE, hC, hok, hfl, hA⟩ := id C0
  unfold lwd at hW
  obtain ⟨⟨r, K9, c9, w9, u9⟩, ez, z1, y, y1, y2, y3⟩ := L_lexicon hRI hj hXX hee (kd := 0) (by decide) yy
  simp only at z1 y1 y2
  subst z1
  have ez' : f_L_lexicon K rc rw ru 0 yy = some (1, K9, c9, w9, u9) := ez
  refine lv_aload_n hx hb dL_law_146 rfl (lv_at hl 1 rfl) ?_
  refine lv_iconst (v := 0) hx hb dL_law_147 (by decide) ?_
  refine lv_iload hx hb dL_law_148 (lv_at hl 18 rfl) ?_
  refine lv_aload_n hx hb dL_law_150 rfl (lv_at hl 2 rfl) ?_
  refine lv_aload_n hx hb dL_law_151 rfl (lv_at hl 3 rfl) ?_
  refine lv_aload hx hb dL_law_152 (lv_at hl 4 rfl) ?_
  have hW := hW.perm pmLex
  refine cs_L_241 (R := room_1) hx hb hml hown hts hK hN hE hC hA hW (c_L_lexicon l hfl D T A ad hok (am 2) (am 3) (am 4) (oA T 6 (am 5) rx ++ (oA T 6 (am 6) rl ++ (oA T 6 (am 7) rf ++ (oA T 12 (am 8) rv ++ (oA T 20 (am 9) rt ++ (oA T 20 (am 10) rg ++ (oA T 60 (am 11) rq ++ (oA T 5 (am 12) rn ++ (oA T 16 (am 13) rh ++ (oA T 30 (am 14) rp ++ (oA T 6 (am 15) rk ++ []))))))))))) K rc rw ru 0 yy 1 K9 c9 w9 u9 ez') ⟨Nat.le_of_ble_eq_true rfl, Nat.le_of_ble_eq_true rfl⟩ hl.1 rfl (Nat.le_of_ble_eq_true rfl) dL_law_154 ⟨show N + 1 ≤ 600074 by omega, show 16 * (N + 1) ≤ 7301550 by omega⟩ rfl (fun H locs hW => ?_)
  have hW := hW.perm pmLex.symm
  refine lv_goto (tgt := 459) hx hb dL_law_157 (by decide) ?_
  exact kk K9 c9 w9 u9 rx rl rf rv rt rg rq rn rh rp rk y H locs y1 y2 y3 hW
set_option maxHeartbeats 4000000 in
set_option maxRecDepth 100000 in
theorem law_b167 {j N : Nat} {K : Nat → Ob} {M : Ob} {rc rw ru rx rl rf rv rt rg rq rn rh rp rk : Rw} {xi xd yy xk : Int32} {H : Heap} {locs : List Loc} {ls : Array Slot} (C0 : LC2 p l s m c D T A b L xs ad) (hRI : RI j K M) (hj : j < 1000000) (hXX : LX rc rw ru rx rt rg rq rn rh rp rk M) (hee : LXe M) (hNN : N + 4751 ≤ 429000) (hW : Wd D A s.heap (lwd T ad am K rc rw ru rx rl rf rv rt rg rq rn rh rp rk) H locs) (hl : lv_has ls 21 [(0, .ref b), (1, .ref (ad 0 0)), (2, .ref (am 2)), (3, .ref (am 3)), (4, .ref (am 4)), (5, .ref (am 5)), (6, .ref (am 6)), (7, .ref (am 7)), (8, .ref (am 8)), (9, .ref (am 9)), (10, .ref (am 10)), (11, .ref (am 11)), (12, .ref (am 12)), (13, .ref (am 13)), (14, .ref (am 14)), (15, .ref (am 15)), (16, .int xi), (17, .int xd), (18, .int yy), (19, .int xk)])
    (kk : ∀ (K9 : Nat → Ob) (c9 w9 u9 x9 l9 f9 v9 t9 g9 q9 n9 h9 p9 k9 : Rw) (M9 : Ob) (H : Heap) (locs : List Loc), RI (j + 1) K9 M9 → LX c9 w9 u9 x9 t9 g9 q9 n9 h9 p9 k9 M9 → LXe M9 → Wd D A s.heap (lwd T ad am K9 c9 w9 u9 x9 l9 f9 v9 t9 g9 q9 n9 h9 p9 k9) H locs → W p l e room_1 s m #[Value.ref b] below meth c H locs (N + 1) (16 * (N + 1)) Q (F0 m 459 ls [.int 1])) : W p l e room_1 s m #[Value.ref b] below meth c H locs N (16 * N) Q (F0 m 167 ls []) := by
  obtain ⟨hx, hb, hml, hown, hts, hX0, hbl, hbA, hL, hK, hN, hE, hC, hok, hfl, hA⟩ := id C0
  unfold lwd at hW
  obtain ⟨⟨r, K9, c9, w9, u9⟩, ez, z1, y, y1, y2, y3⟩ := L_lexicon hRI hj hXX hee (kd := 1) (by decide) yy
  simp only at z1 y1 y2
  subst z1
  have ez' : f_L_lexicon K rc rw ru 1 yy = some (1, K9, c9, w9, u9) := ez
  refine lv_aload_n hx hb dL_law_167 rfl (lv_at hl 1 rfl) ?_
  refine lv_iconst (v := 1) hx hb dL_law_168 (by decide) ?_
  refine lv_iload hx hb dL_law_169 (lv_at hl 18 rfl) ?_
  refine lv_aload_n hx hb dL_law_171 rfl (lv_at hl 2 rfl) ?_
  refine lv_aload_n hx hb dL_law_172 rfl (lv_at hl 3 rfl) ?_
  refine lv_aload hx hb dL_law_173 (lv_at hl 4 rfl) ?_
  have hW := hW.perm pmLex
  refine cs_L_241 (R := room_1) hx hb hml hown hts hK hN hE hC hA hW (c_L_lexicon l hfl D T A ad hok (am 2) (am 3) (am 4) (oA T 6 (am 5) rx ++ (oA T 6 (am 6) rl ++ (oA T 6 (am 7) rf ++ (oA T 12 (am 8) rv ++ (oA T 20 (am 9) rt ++ (oA T 20 (am 10) rg ++ (oA T 60 (am 11) rq ++ (oA T 5 (am 12) rn ++ (oA T 16 (am 13) rh ++ (oA T 30 (am 14) rp ++ (oA T 6 (am 15) rk ++ []))))))))))) K rc rw ru 1 yy 1 K9 c9 w9 u9 ez') ⟨Nat.le_of_ble_eq_true rfl, Nat.le_of_ble_eq_true rfl⟩ hl.1 rfl (Nat.le_of_ble_eq_true rfl) dL_law_175 ⟨show N + 1 ≤ 600074 by omega, show 16 * (N + 1) ≤ 7301550 by omega⟩ rfl (fun H locs hW => ?_)
  have hW := hW.perm pmLex.symm
  refine lv_goto (tgt := 459) hx hb dL_law_178 (by decide) ?_
  exact kk K9 c9 w9 u9 rx rl rf rv rt rg rq rn rh rp rk y H locs y1 y2 y3 hW
set_option maxHeartbeats 4000000 in
set_option maxRecDepth 100000 in
theorem law_b188 {j N : Nat} {K : Nat → Ob} {M : Ob} {rc rw ru rx rl rf rv rt rg rq rn rh rp rk : Rw} {xi xd yy xk : Int32} {H : Heap} {locs : List Loc} {ls : Array Slot} (C0 : LC2 p l s m c D T A b L xs ad) (hRI : RI j K M) (hj : j < 1000000) (hXX : LX rc rw ru rx rt rg rq rn rh rp rk M) (hee : LXe M) (hNN : N + 4751 ≤ 429000) (hW : Wd D A s.heap (lwd T ad am K rc rw ru rx rl rf rv rt rg rq rn rh rp rk) H locs) (hl : lv_has ls 21 [(0, .ref b), (1, .ref (ad 0 0)), (2, .ref (am 2)), (3, .ref (am 3)), (4, .ref (am 4)), (5, .ref (am 5)), (6, .ref (am 6)), (7, .ref (am 7)), (8, .ref (am 8)), (9, .ref (am 9)), (10, .ref (am 10)), (11, .ref (am 11)), (12, .ref (am 12)), (13, .ref (am 13)), (14, .ref (am 14)), (15, .ref (am 15)), (16, .int xi), (17, .int xd), (18, .int yy), (19, .int xk)])
    (kk : ∀ (K9 : Nat → Ob) (c9 w9 u9 x9 l9 f9 v9 t9 g9 q9 n9 h9 p9 k9 : Rw) (M9 : Ob) (H : Heap) (locs : List Loc), RI (j + 1) K9 M9 → LX c9 w9 u9 x9 t9 g9 q9 n9 h9 p9 k9 M9 → LXe M9 → Wd D A s.heap (lwd T ad am K9 c9 w9 u9 x9 l9 f9 v9 t9 g9 q9 n9 h9 p9 k9) H locs → W p l e room_1 s m #[Value.ref b] below meth c H locs (N + 1) (16 * (N + 1)) Q (F0 m 459 ls [.int 1])) : W p l e room_1 s m #[Value.ref b] below meth c H locs N (16 * N) Q (F0 m 188 ls []) := by
  obtain ⟨hx, hb, hml, hown, hts, hX0, hbl, hbA, hL, hK, hN, hE, hC, hok, hfl, hA⟩ := id C0
  unfold lwd at hW
  obtain ⟨⟨r, K9, c9, t9, g9, q9, n9⟩, ez, z1, y, y1, y2, y3⟩ := L_grammar hRI hj hXX hee (kd := 1) (by decide) yy
  simp only at z1 y1 y2
  subst z1
  have ez' : f_L_grammar K rc rt rg rq rn 1 yy = some (1, K9, c9, t9, g9, q9, n9) := ez
  refine lv_aload_n hx hb dL_law_188 rfl (lv_at hl 1 rfl) ?_
  refine lv_iconst (v := 1) hx hb dL_law_189 (by decide) ?_
  refine lv_iload hx hb dL_law_190 (lv_at hl 18 rfl) ?_
  refine lv_aload_n hx hb dL_law_192 rfl (lv_at hl 2 rfl) ?_
  refine lv_aload hx hb dL_law_193 (lv_at hl 9 rfl) ?_
  refine lv_aload hx hb dL_law_195 (lv_at hl 10 rfl) ?_
  refine lv_aload hx hb dL_law_197 (lv_at hl 11 rfl) ?_
  refine lv_aload hx hb dL_law_199 (lv_at hl 12 rfl) ?_
  have hW := hW.perm pmGra
  refine cs_L_245 (R := room_1) hx hb hml hown hts hK hN hE hC hA hW (c_L_grammar l hfl D T A ad hok (am 2) (am 9) (am 10) (am 11) (am 12) (oA T 24 (am 3) rw ++ (oA T 2 (am 4) ru ++ (oA T 6 (am 5) rx ++ (oA T 6 (am 6) rl ++ (oA T 6 (am 7) rf ++ (oA T 12 (am 8) rv ++ (oA T 16 (am 13) rh ++ (oA T 30 (am 14) rp ++ (oA T 6 (am 15) rk ++ []))))))))) K rc rt rg rq rn 1 yy 1 K9 c9 t9 g9 q9 n9 ez') ⟨Nat.le_of_ble_eq_true rfl, Nat.le_of_ble_eq_true rfl⟩ hl.1 rfl (Nat.le_of_ble_eq_true rfl) dL_law_201 ⟨show N + 1 ≤ 600074 by omega, show 16 * (N + 1) ≤ 7301550 by omega⟩ rfl (fun H locs hW => ?_)
  have hW := hW.perm pmGra.symm
  refine lv_goto (tgt := 459) hx hb dL_law_204 (by decide) ?_
  exact kk K9 c9 rw ru rx rl rf rv t9 g9 q9 n9 rh rp rk y H locs y1 y2 y3 hW
set_option maxHeartbeats 4000000 in
set_option maxRecDepth 100000 in
theorem law_b214 {j N : Nat} {K : Nat → Ob} {M : Ob} {rc rw ru rx rl rf rv rt rg rq rn rh rp rk : Rw} {xi xd yy xk : Int32} {H : Heap} {locs : List Loc} {ls : Array Slot} (C0 : LC2 p l s m c D T A b L xs ad) (hRI : RI j K M) (hj : j < 1000000) (hXX : LX rc rw ru rx rt rg rq rn rh rp rk M) (hee : LXe M) (hNN : N + 4751 ≤ 429000) (hW : Wd D A s.heap (lwd T ad am K rc rw ru rx rl rf rv rt rg rq rn rh rp rk) H locs) (hl : lv_has ls 21 [(0, .ref b), (1, .ref (ad 0 0)), (2, .ref (am 2)), (3, .ref (am 3)), (4, .ref (am 4)), (5, .ref (am 5)), (6, .ref (am 6)), (7, .ref (am 7)), (8, .ref (am 8)), (9, .ref (am 9)), (10, .ref (am 10)), (11, .ref (am 11)), (12, .ref (am 12)), (13, .ref (am 13)), (14, .ref (am 14)), (15, .ref (am 15)), (16, .int xi), (17, .int xd), (18, .int yy), (19, .int xk)])
    (kk : ∀ (K9 : Nat → Ob) (c9 w9 u9 x9 l9 f9 v9 t9 g9 q9 n9 h9 p9 k9 : Rw) (M9 : Ob) (H : Heap) (locs : List Loc), RI (j + 1) K9 M9 → LX c9 w9 u9 x9 t9 g9 q9 n9 h9 p9 k9 M9 → LXe M9 → Wd D A s.heap (lwd T ad am K9 c9 w9 u9 x9 l9 f9 v9 t9 g9 q9 n9 h9 p9 k9) H locs → W p l e room_1 s m #[Value.ref b] below meth c H locs (N + 1) (16 * (N + 1)) Q (F0 m 459 ls [.int 1])) : W p l e room_1 s m #[Value.ref b] below meth c H locs N (16 * N) Q (F0 m 214 ls []) := by
  obtain ⟨hx, hb, hml, hown, hts, hX0, hbl, hbA, hL, hK, hN, hE, hC, hok, hfl, hA⟩ := id C0
  unfold lwd at hW
  obtain ⟨⟨r, K9, c9, x9⟩, ez, z1, y, y1, y2, y3⟩ := L_texts hRI hj hXX hee (kd := 0) (by decide) yy
  simp only at z1 y1 y2
  subst z1
  have ez' : f_L_texts K rc rx 0 yy = some (1, K9, c9, x9) := ez
  refine lv_aload_n hx hb dL_law_214 rfl (lv_at hl 1 rfl) ?_
  refine lv_iconst (v := 0) hx hb dL_law_215 (by decide) ?_
  refine lv_iload hx hb dL_law_216 (lv_at hl 18 rfl) ?_
  refine lv_aload_n hx hb dL_law_218 rfl (lv_at hl 2 rfl) ?_
  refine lv_aload hx hb dL_law_219 (lv_at hl 5 rfl) ?_
  have hW := hW.perm pmTex
  refine cs_L_249 (R := room_1) hx hb hml hown hts hK hN hE hC hA hW (c_L_texts l hfl D T A ad hok (am 2) (am 5) (oA T 24 (am 3) rw ++ (oA T 2 (am 4) ru ++ (oA T 6 (am 6) rl ++ (oA T 6 (am 7) rf ++ (oA T 12 (am 8) rv ++ (oA T 20 (am 9) rt ++ (oA T 20 (am 10) rg ++ (oA T 60 (am 11) rq ++ (oA T 5 (am 12) rn ++ (oA T 16 (am 13) rh ++ (oA T 30 (am 14) rp ++ (oA T 6 (am 15) rk ++ [])))))))))))) K rc rx 0 yy 1 K9 c9 x9 ez') ⟨Nat.le_of_ble_eq_true rfl, Nat.le_of_ble_eq_true rfl⟩ hl.1 rfl (Nat.le_of_ble_eq_true rfl) dL_law_221 ⟨show N + 1 ≤ 600074 by omega, show 16 * (N + 1) ≤ 7301550 by omega⟩ rfl (fun H locs hW => ?_)
  have hW := hW.perm pmTex.symm
  refine lv_goto (tgt := 459) hx hb dL_law_224 (by decide) ?_
  exact kk K9 c9 rw ru x9 rl rf rv rt rg rq rn rh rp rk y H locs y1 y2 y3 hW
set_option maxHeartbeats 4000000 in
set_option maxRecDepth 100000 in
theorem law_b233 {j N : Nat} {K : Nat → Ob} {M : Ob} {rc rw ru rx rl rf rv rt rg rq rn rh rp rk : Rw} {xi xd yy xk : Int32} {H : Heap} {locs : List Loc} {ls : Array Slot} (C0 : LC2 p l s m c D T A b L xs ad) (hRI : RI j K M) (hj : j < 1000000) (hXX : LX rc rw ru rx rt rg rq rn rh rp rk M) (hee : LXe M) (hNN : N + 4751 ≤ 429000) (hW : Wd D A s.heap (lwd T ad am K rc rw ru rx rl rf rv rt rg rq rn rh rp rk) H locs) (hl : lv_has ls 21 [(0, .ref b), (1, .ref (ad 0 0)), (2, .ref (am 2)), (3, .ref (am 3)), (4, .ref (am 4)), (5, .ref (am 5)), (6, .ref (am 6)), (7, .ref (am 7)), (8, .ref (am 8)), (9, .ref (am 9)), (10, .ref (am 10)), (11, .ref (am 11)), (12, .ref (am 12)), (13, .ref (am 13)), (14, .ref (am 14)), (15, .ref (am 15)), (16, .int xi), (17, .int xd), (18, .int yy), (19, .int xk)])
    (kk : ∀ (K9 : Nat → Ob) (c9 w9 u9 x9 l9 f9 v9 t9 g9 q9 n9 h9 p9 k9 : Rw) (M9 : Ob) (H : Heap) (locs : List Loc), RI (j + 1) K9 M9 → LX c9 w9 u9 x9 t9 g9 q9 n9 h9 p9 k9 M9 → LXe M9 → Wd D A s.heap (lwd T ad am K9 c9 w9 u9 x9 l9 f9 v9 t9 g9 q9 n9 h9 p9 k9) H locs → W p l e room_1 s m #[Value.ref b] below meth c H locs (N + 1) (16 * (N + 1)) Q (F0 m 459 ls [.int 1])) : W p l e room_1 s m #[Value.ref b] below meth c H locs N (16 * N) Q (F0 m 233 ls []) := by
  obtain ⟨hx, hb, hml, hown, hts, hX0, hbl, hbA, hL, hK, hN, hE, hC, hok, hfl, hA⟩ := id C0
  unfold lwd at hW
  obtain ⟨⟨r, K9, c9, w9, u9⟩, ez, z1, y, y1, y2, y3⟩ := L_lexicon hRI hj hXX hee (kd := 0) (by decide) yy
  simp only at z1 y1 y2
  subst z1
  have ez' : f_L_lexicon K rc rw ru 0 yy = some (1, K9, c9, w9, u9) := ez
  refine lv_aload_n hx hb dL_law_233 rfl (lv_at hl 1 rfl) ?_
  refine lv_iconst (v := 0) hx hb dL_law_234 (by decide) ?_
  refine lv_iload hx hb dL_law_235 (lv_at hl 18 rfl) ?_
  refine lv_aload_n hx hb dL_law_237 rfl (lv_at hl 2 rfl) ?_
  refine lv_aload_n hx hb dL_law_238 rfl (lv_at hl 3 rfl) ?_
  refine lv_aload hx hb dL_law_239 (lv_at hl 4 rfl) ?_
  have hW := hW.perm pmLex
  refine cs_L_241 (R := room_1) hx hb hml hown hts hK hN hE hC hA hW (c_L_lexicon l hfl D T A ad hok (am 2) (am 3) (am 4) (oA T 6 (am 5) rx ++ (oA T 6 (am 6) rl ++ (oA T 6 (am 7) rf ++ (oA T 12 (am 8) rv ++ (oA T 20 (am 9) rt ++ (oA T 20 (am 10) rg ++ (oA T 60 (am 11) rq ++ (oA T 5 (am 12) rn ++ (oA T 16 (am 13) rh ++ (oA T 30 (am 14) rp ++ (oA T 6 (am 15) rk ++ []))))))))))) K rc rw ru 0 yy 1 K9 c9 w9 u9 ez') ⟨Nat.le_of_ble_eq_true rfl, Nat.le_of_ble_eq_true rfl⟩ hl.1 rfl (Nat.le_of_ble_eq_true rfl) dL_law_241 ⟨show N + 1 ≤ 600074 by omega, show 16 * (N + 1) ≤ 7301550 by omega⟩ rfl (fun H locs hW => ?_)
  have hW := hW.perm pmLex.symm
  refine lv_goto (tgt := 459) hx hb dL_law_244 (by decide) ?_
  exact kk K9 c9 w9 u9 rx rl rf rv rt rg rq rn rh rp rk y H locs y1 y2 y3 hW
set_option maxHeartbeats 4000000 in
set_option maxRecDepth 100000 in
theorem law_b253 {j N : Nat} {K : Nat → Ob} {M : Ob} {rc rw ru rx rl rf rv rt rg rq rn rh rp rk : Rw} {xi xd yy xk : Int32} {H : Heap} {locs : List Loc} {ls : Array Slot} (C0 : LC2 p l s m c D T A b L xs ad) (hRI : RI j K M) (hj : j < 1000000) (hXX : LX rc rw ru rx rt rg rq rn rh rp rk M) (hee : LXe M) (hNN : N + 4751 ≤ 429000) (hW : Wd D A s.heap (lwd T ad am K rc rw ru rx rl rf rv rt rg rq rn rh rp rk) H locs) (hl : lv_has ls 21 [(0, .ref b), (1, .ref (ad 0 0)), (2, .ref (am 2)), (3, .ref (am 3)), (4, .ref (am 4)), (5, .ref (am 5)), (6, .ref (am 6)), (7, .ref (am 7)), (8, .ref (am 8)), (9, .ref (am 9)), (10, .ref (am 10)), (11, .ref (am 11)), (12, .ref (am 12)), (13, .ref (am 13)), (14, .ref (am 14)), (15, .ref (am 15)), (16, .int xi), (17, .int xd), (18, .int yy), (19, .int xk)])
    (kk : ∀ (K9 : Nat → Ob) (c9 w9 u9 x9 l9 f9 v9 t9 g9 q9 n9 h9 p9 k9 : Rw) (M9 : Ob) (H : Heap) (locs : List Loc), RI (j + 1) K9 M9 → LX c9 w9 u9 x9 t9 g9 q9 n9 h9 p9 k9 M9 → LXe M9 → Wd D A s.heap (lwd T ad am K9 c9 w9 u9 x9 l9 f9 v9 t9 g9 q9 n9 h9 p9 k9) H locs → W p l e room_1 s m #[Value.ref b] below meth c H locs (N + 1) (16 * (N + 1)) Q (F0 m 459 ls [.int 1])) : W p l e room_1 s m #[Value.ref b] below meth c H locs N (16 * N) Q (F0 m 253 ls []) := by
  obtain ⟨hx, hb, hml, hown, hts, hX0, hbl, hbA, hL, hK, hN, hE, hC, hok, hfl, hA⟩ := id C0
  unfold lwd at hW
  obtain ⟨⟨r, K9, c9, w9, u9⟩, ez, z1, y, y1, y2, y3⟩ := L_lexicon hRI hj hXX hee (kd := 1) (by decide) yy
  simp only at z1 y1 y2
  subst z1
  have ez' : f_L_lexicon K rc rw ru 1 yy = some (1, K9, c9, w9, u9) := ez
  refine lv_aload_n hx hb dL_law_253 rfl (lv_at hl 1 rfl) ?_
  refine lv_iconst (v := 1) hx hb dL_law_254 (by decide) ?_
  refine lv_iload hx hb dL_law_255 (lv_at hl 18 rfl) ?_
  refine lv_aload_n hx hb dL_law_257 rfl (lv_at hl 2 rfl) ?_
  refine lv_aload_n hx hb dL_law_258 rfl (lv_at hl 3 rfl) ?_
  refine lv_aload hx hb dL_law_259 (lv_at hl 4 rfl) ?_
  have hW := hW.perm pmLex
  refine cs_L_241 (R := room_1) hx hb hml hown hts hK hN hE hC hA hW (c_L_lexicon l hfl D T A ad hok (am 2) (am 3) (am 4) (oA T 6 (am 5) rx ++ (oA T 6 (am 6) rl ++ (oA T 6 (am 7) rf ++ (oA T 12 (am 8) rv ++ (oA T 20 (am 9) rt ++ (oA T 20 (am 10) rg ++ (oA T 60 (am 11) rq ++ (oA T 5 (am 12) rn ++ (oA T 16 (am 13) rh ++ (oA T 30 (am 14) rp ++ (oA T 6 (am 15) rk ++ []))))))))))) K rc rw ru 1 yy 1 K9 c9 w9 u9 ez') ⟨Nat.le_of_ble_eq_true rfl, Nat.le_of_ble_eq_true rfl⟩ hl.1 rfl (Nat.le_of_ble_eq_true rfl) dL_law_261 ⟨show N + 1 ≤ 600074 by omega, show 16 * (N + 1) ≤ 7301550 by omega⟩ rfl (fun H locs hW => ?_)
  have hW := hW.perm pmLex.symm
  refine lv_goto (tgt := 459) hx hb dL_law_264 (by decide) ?_
  exact kk K9 c9 w9 u9 rx rl rf rv rt rg rq rn rh rp rk y H locs y1 y2 y3 hW
set_option maxHeartbeats 4000000 in
set_option maxRecDepth 100000 in
theorem law_b273 {j N : Nat} {K : Nat → Ob} {M : Ob} {rc rw ru rx rl rf rv rt rg rq rn rh rp rk : Rw} {xi xd yy xk : Int32} {H : Heap} {locs : List Loc} {ls : Array Slot} (C0 : LC2 p l s m c D T A b L xs ad) (hRI : RI j K M) (hj : j < 1000000) (hXX : LX rc rw ru rx rt rg rq rn rh rp rk M) (hee : LXe M) (hNN : N + 4751 ≤ 429000) (hW : Wd D A s.heap (lwd T ad am K rc rw ru rx rl rf rv rt rg rq rn rh rp rk) H locs) (hl : lv_has ls 21 [(0, .ref b), (1, .ref (ad 0 0)), (2, .ref (am 2)), (3, .ref (am 3)), (4, .ref (am 4)), (5, .ref (am 5)), (6, .ref (am 6)), (7, .ref (am 7)), (8, .ref (am 8)), (9, .ref (am 9)), (10, .ref (am 10)), (11, .ref (am 11)), (12, .ref (am 12)), (13, .ref (am 13)), (14, .ref (am 14)), (15, .ref (am 15)), (16, .int xi), (17, .int xd), (18, .int yy), (19, .int xk)])
    (kk : ∀ (K9 : Nat → Ob) (c9 w9 u9 x9 l9 f9 v9 t9 g9 q9 n9 h9 p9 k9 : Rw) (M9 : Ob) (H : Heap) (locs : List Loc), RI (j + 1) K9 M9 → LX c9 w9 u9 x9 t9 g9 q9 n9 h9 p9 k9 M9 → LXe M9 → Wd D A s.heap (lwd T ad am K9 c9 w9 u9 x9 l9 f9 v9 t9 g9 q9 n9 h9 p9 k9) H locs → W p l e room_1 s m #[Value.ref b] below meth c H locs (N + 1) (16 * (N + 1)) Q (F0 m 459 ls [.int 1])) : W p l e room_1 s m #[Value.ref b] below meth c H locs N (16 * N) Q (F0 m 273 ls []) := by
  obtain ⟨hx, hb, hml, hown, hts, hX0, hbl, hbA, hL, hK, hN, hE, hC, hok, hfl, hA⟩ := id C0
  unfold lwd at hW
  obtain ⟨⟨r, K9, c9, w9, u9⟩, ez, z1, y, y1, y2, y3⟩ := L_lexicon hRI hj hXX hee (kd := 2) (by decide) yy
  simp only at z1 y1 y2
  subst z1
  have ez' : f_L_lexicon K rc rw ru 2 yy = some (1, K9, c9, w9, u9) := ez
  refine lv_aload_n hx hb dL_law_273 rfl (lv_at hl 1 rfl) ?_
  refine lv_iconst (v := 2) hx hb dL_law_274 (by decide) ?_
  refine lv_iload hx hb dL_law_275 (lv_at hl 18 rfl) ?_
  refine lv_aload_n hx hb dL_law_277 rfl (lv_at hl 2 rfl) ?_
  refine lv_aload_n hx hb dL_law_278 rfl (lv_at hl 3 rfl) ?_
  refine lv_aload hx hb dL_law_279 (lv_at hl 4 rfl) ?_
  have hW := hW.perm pmLex
  refine cs_L_241 (R := room_1) hx hb hml hown hts hK hN hE hC hA hW (c_L_lexicon l hfl D T A ad hok (am 2) (am 3) (am 4) (oA T 6 (am 5) rx ++ (oA T 6 (am 6) rl ++ (oA T 6 (am 7) rf ++ (oA T 12 (am 8) rv ++ (oA T 20 (am 9) rt ++ (oA T 20 (am 10) rg ++ (oA T 60 (am 11) rq ++ (oA T 5 (am 12) rn ++ (oA T 16 (am 13) rh ++ (oA T 30 (am 14) rp ++ (oA T 6 (am 15) rk ++ []))))))))))) K rc rw ru 2 yy 1 K9 c9 w9 u9 ez') ⟨Nat.le_of_ble_eq_true rfl, Nat.le_of_ble_eq_true rfl⟩ hl.1 rfl (Nat.le_of_ble_eq_true rfl) dL_law_281 ⟨show N + 1 ≤ 600074 by omega, show 16 * (N + 1) ≤ 7301550 by omega⟩ rfl (fun H locs hW => ?_)
  have hW := hW.perm pmLex.symm
  refine lv_goto (tgt := 459) hx hb dL_law_284 (by decide) ?_
  exact kk K9 c9 w9 u9 rx rl rf rv rt rg rq rn rh rp rk y H locs y1 y2 y3 hW
set_option maxHeartbeats 4000000 in
set_option maxRecDepth 100000 in
theorem law_b294 {j N : Nat} {K : Nat → Ob} {M : Ob} {rc rw ru rx rl rf rv rt rg rq rn rh rp rk : Rw} {xi xd yy xk : Int32} {H : Heap} {locs : List Loc} {ls : Array Slot} (C0 : LC2 p l s m c D T A b L xs ad) (hRI : RI j K M) (hj : j < 1000000) (hXX : LX rc rw ru rx rt rg rq rn rh rp rk M) (hee : LXe M) (hNN : N + 4751 ≤ 429000) (hW : Wd D A s.heap (lwd T ad am K rc rw ru rx rl rf rv rt rg rq rn rh rp rk) H locs) (hl : lv_has ls 21 [(0, .ref b), (1, .ref (ad 0 0)), (2, .ref (am 2)), (3, .ref (am 3)), (4, .ref (am 4)), (5, .ref (am 5)), (6, .ref (am 6)), (7, .ref (am 7)), (8, .ref (am 8)), (9, .ref (am 9)), (10, .ref (am 10)), (11, .ref (am 11)), (12, .ref (am 12)), (13, .ref (am 13)), (14, .ref (am 14)), (15, .ref (am 15)), (16, .int xi), (17, .int xd), (18, .int yy), (19, .int xk)])
    (kk : ∀ (K9 : Nat → Ob) (c9 w9 u9 x9 l9 f9 v9 t9 g9 q9 n9 h9 p9 k9 : Rw) (M9 : Ob) (H : Heap) (locs : List Loc), RI (j + 1) K9 M9 → LX c9 w9 u9 x9 t9 g9 q9 n9 h9 p9 k9 M9 → LXe M9 → Wd D A s.heap (lwd T ad am K9 c9 w9 u9 x9 l9 f9 v9 t9 g9 q9 n9 h9 p9 k9) H locs → W p l e room_1 s m #[Value.ref b] below meth c H locs (N + 1) (16 * (N + 1)) Q (F0 m 459 ls [.int 1])) : W p l e room_1 s m #[Value.ref b] below meth c H locs N (16 * N) Q (F0 m 294 ls []) := by
  obtain ⟨hx, hb, hml, hown, hts, hX0, hbl, hbA, hL, hK, hN, hE, hC, hok, hfl, hA⟩ := id C0
  unfold lwd at hW
  obtain ⟨⟨r, K9, c9, t9, g9, q9, n9⟩, ez, z1, y, y1, y2, y3⟩ := L_grammar hRI hj hXX hee (kd := 0) (by decide) yy
  simp only at z1 y1 y2
  subst z1
  have ez' : f_L_grammar K rc rt rg rq rn 0 yy = some (1, K9, c9, t9, g9, q9, n9) := ez
  refine lv_aload_n hx hb dL_law_294 rfl (lv_at hl 1 rfl) ?_
  refine lv_iconst (v := 0) hx hb dL_law_295 (by decide) ?_
  refine lv_iload hx hb dL_law_296 (lv_at hl 18 rfl) ?_
  refine lv_aload_n hx hb dL_law_298 rfl (lv_at hl 2 rfl) ?_
  refine lv_aload hx hb dL_law_299 (lv_at hl 9 rfl) ?_
  refine lv_aload hx hb dL_law_301 (lv_at hl 10 rfl) ?_
  refine lv_aload hx hb dL_law_303 (lv_at hl 11 rfl) ?_
  refine lv_aload hx hb dL_law_305 (lv_at hl 12 rfl) ?_
  have hW := hW.perm pmGra
  refine cs_L_245 (R := room_1) hx hb hml hown hts hK hN hE hC hA hW (c_L_grammar l hfl D T A ad hok (am 2) (am 9) (am 10) (am 11) (am 12) (oA T 24 (am 3) rw ++ (oA T 2 (am 4) ru ++ (oA T 6 (am 5) rx ++ (oA T 6 (am 6) rl ++ (oA T 6 (am 7) rf ++ (oA T 12 (am 8) rv ++ (oA T 16 (am 13) rh ++ (oA T 30 (am 14) rp ++ (oA T 6 (am 15) rk ++ []))))))))) K rc rt rg rq rn 0 yy 1 K9 c9 t9 g9 q9 n9 ez') ⟨Nat.le_of_ble_eq_true rfl, Nat.le_of_ble_eq_true rfl⟩ hl.1 rfl (Nat.le_of_ble_eq_true rfl) dL_law_307 ⟨show N + 1 ≤ 600074 by omega, show 16 * (N + 1) ≤ 7301550 by omega⟩ rfl (fun H locs hW => ?_)
  have hW := hW.perm pmGra.symm
  refine lv_goto (tgt := 459) hx hb dL_law_310 (by decide) ?_
  exact kk K9 c9 rw ru rx rl rf rv t9 g9 q9 n9 rh rp rk y H locs y1 y2 y3 hW
set_option maxHeartbeats 4000000 in
set_option maxRecDepth 100000 in
theorem law_b320 {j N : Nat} {K : Nat → Ob} {M : Ob} {rc rw ru rx rl rf rv rt rg rq rn rh rp rk : Rw} {xi xd yy xk : Int32} {H : Heap} {locs : List Loc} {ls : Array Slot} (C0 : LC2 p l s m c D T A b L xs ad) (hRI : RI j K M) (hj : j < 1000000) (hXX : LX rc rw ru rx rt rg rq rn rh rp rk M) (hee : LXe M) (hNN : N + 4751 ≤ 429000) (hW : Wd D A s.heap (lwd T ad am K rc rw ru rx rl rf rv rt rg rq rn rh rp rk) H locs) (hl : lv_has ls 21 [(0, .ref b), (1, .ref (ad 0 0)), (2, .ref (am 2)), (3, .ref (am 3)), (4, .ref (am 4)), (5, .ref (am 5)), (6, .ref (am 6)), (7, .ref (am 7)), (8, .ref (am 8)), (9, .ref (am 9)), (10, .ref (am 10)), (11, .ref (am 11)), (12, .ref (am 12)), (13, .ref (am 13)), (14, .ref (am 14)), (15, .ref (am 15)), (16, .int xi), (17, .int xd), (18, .int yy), (19, .int xk)])
    (kk : ∀ (K9 : Nat → Ob) (c9 w9 u9 x9 l9 f9 v9 t9 g9 q9 n9 h9 p9 k9 : Rw) (M9 : Ob) (H : Heap) (locs : List Loc), RI (j + 1) K9 M9 → LX c9 w9 u9 x9 t9 g9 q9 n9 h9 p9 k9 M9 → LXe M9 → Wd D A s.heap (lwd T ad am K9 c9 w9 u9 x9 l9 f9 v9 t9 g9 q9 n9 h9 p9 k9) H locs → W p l e room_1 s m #[Value.ref b] below meth c H locs (N + 1) (16 * (N + 1)) Q (F0 m 459 ls [.int 1])) : W p l e room_1 s m #[Value.ref b] below meth c H locs N (16 * N) Q (F0 m 320 ls []) := by
  obtain ⟨hx, hb, hml, hown, hts, hX0, hbl, hbA, hL, hK, hN, hE, hC, hok, hfl, hA⟩ := id C0
  unfold lwd at hW
  obtain ⟨⟨r, K9, c9, t9, g9, q9, n9⟩, ez, z1, y, y1, y2, y3⟩ := L_grammar hRI hj hXX hee (kd := 1) (by decide) yy
  simp only at z1 y1 y2
  subst z1
  have ez' : f_L_grammar K rc rt rg rq rn 1 yy = some (1, K9, c9, t9, g9, q9, n9) := ez
  refine lv_aload_n hx hb dL_law_320 rfl (lv_at hl 1 rfl) ?_
  refine lv_iconst (v := 1) hx hb dL_law_321 (by decide) ?_
  refine lv_iload hx hb dL_law_322 (lv_at hl 18 rfl) ?_
  refine lv_aload_n hx hb dL_law_324 rfl (lv_at hl 2 rfl) ?_
  refine lv_aload hx hb dL_law_325 (lv_at hl 9 rfl) ?_
  refine lv_aload hx hb dL_law_327 (lv_at hl 10 rfl) ?_
  refine lv_aload hx hb dL_law_329 (lv_at hl 11 rfl) ?_
  refine lv_aload hx hb dL_law_331 (lv_at hl 12 rfl) ?_
  have hW := hW.perm pmGra
  refine cs_L_245 (R := room_1) hx hb hml hown hts hK hN hE hC hA hW (c_L_grammar l hfl D T A ad hok (am 2) (am 9) (am 10) (am 11) (am 12) (oA T 24 (am 3) rw ++ (oA T 2 (am 4) ru ++ (oA T 6 (am 5) rx ++ (oA T 6 (am 6) rl ++ (oA T 6 (am 7) rf ++ (oA T 12 (am 8) rv ++ (oA T 16 (am 13) rh ++ (oA T 30 (am 14) rp ++ (oA T 6 (am 15) rk ++ []))))))))) K rc rt rg rq rn 1 yy 1 K9 c9 t9 g9 q9 n9 ez') ⟨Nat.le_of_ble_eq_true rfl, Nat.le_of_ble_eq_true rfl⟩ hl.1 rfl (Nat.le_of_ble_eq_true rfl) dL_law_333 ⟨show N + 1 ≤ 600074 by omega, show 16 * (N + 1) ≤ 7301550 by omega⟩ rfl (fun H locs hW => ?_)
  have hW := hW.perm pmGra.symm
  refine lv_goto (tgt := 459) hx hb dL_law_336 (by decide) ?_
  exact kk K9 c9 rw ru rx rl rf rv t9 g9 q9 n9 rh rp rk y H locs y1 y2 y3 hW
set_option maxHeartbeats 4000000 in
set_option maxRecDepth 100000 in
theorem law_b346 {j N : Nat} {K : Nat → Ob} {M : Ob} {rc rw ru rx rl rf rv rt rg rq rn rh rp rk : Rw} {xi xd yy xk : Int32} {H : Heap} {locs : List Loc} {ls : Array Slot} (C0 : LC2 p l s m c D T A b L xs ad) (hRI : RI j K M) (hj : j < 1000000) (hXX : LX rc rw ru rx rt rg rq rn rh rp rk M) (hee : LXe M) (hNN : N + 4751 ≤ 429000) (hW : Wd D A s.heap (lwd T ad am K rc rw ru rx rl rf rv rt rg rq rn rh rp rk) H locs) (hl : lv_has ls 21 [(0, .ref b), (1, .ref (ad 0 0)), (2, .ref (am 2)), (3, .ref (am 3)), (4, .ref (am 4)), (5, .ref (am 5)), (6, .ref (am 6)), (7, .ref (am 7)), (8, .ref (am 8)), (9, .ref (am 9)), (10, .ref (am 10)), (11, .ref (am 11)), (12, .ref (am 12)), (13, .ref (am 13)), (14, .ref (am 14)), (15, .ref (am 15)), (16, .int xi), (17, .int xd), (18, .int yy), (19, .int xk)])
    (kk : ∀ (K9 : Nat → Ob) (c9 w9 u9 x9 l9 f9 v9 t9 g9 q9 n9 h9 p9 k9 : Rw) (M9 : Ob) (H : Heap) (locs : List Loc), RI (j + 1) K9 M9 → LX c9 w9 u9 x9 t9 g9 q9 n9 h9 p9 k9 M9 → LXe M9 → Wd D A s.heap (lwd T ad am K9 c9 w9 u9 x9 l9 f9 v9 t9 g9 q9 n9 h9 p9 k9) H locs → W p l e room_1 s m #[Value.ref b] below meth c H locs (N + 1) (16 * (N + 1)) Q (F0 m 459 ls [.int 1])) : W p l e room_1 s m #[Value.ref b] below meth c H locs N (16 * N) Q (F0 m 346 ls []) := by
  obtain ⟨hx, hb, hml, hown, hts, hX0, hbl, hbA, hL, hK, hN, hE, hC, hok, hfl, hA⟩ := id C0
  unfold lwd at hW
  obtain ⟨⟨r, K9, c9, t9, g9, q9, n9⟩, ez, z1, y, y1, y2, y3⟩ := L_grammar hRI hj hXX hee (kd := 2) (by decide) yy
  simp only at z1 y1 y2
  subst z1
  have ez' : f_L_grammar K rc rt rg rq rn 2 yy = some (1, K9, c9, t9, g9, q9, n9) := ez
  refine lv_aload_n hx hb dL_law_346 rfl (lv_at hl 1 rfl) ?_
  refine lv_iconst (v := 2) hx hb dL_law_347 (by decide) ?_
  refine lv_iload hx hb dL_law_348 (lv_at hl 18 rfl) ?_
  refine lv_aload_n hx hb dL_law_350 rfl (lv_at hl 2 rfl) ?_
  refine lv_aload hx hb dL_law_351 (lv_at hl 9 rfl) ?_
  refine lv_aload hx hb dL_law_353 (lv_at hl 10 rfl) ?_
  refine lv_aload hx hb dL_law_355 (lv_at hl 11 rfl) ?_
  refine lv_aload hx hb dL_law_357 (lv_at hl 12 rfl) ?_
  have hW := hW.perm pmGra
  refine cs_L_245 (R := room_1) hx hb hml hown hts hK hN hE hC hA hW (c_L_grammar l hfl D T A ad hok (am 2) (am 9) (am 10) (am 11) (am 12) (oA T 24 (am 3) rw ++ (oA T 2 (am 4) ru ++ (oA T 6 (am 5) rx ++ (oA T 6 (am 6) rl ++ (oA T 6 (am 7) rf ++ (oA T 12 (am 8) rv ++ (oA T 16 (am 13) rh ++ (oA T 30 (am 14) rp ++ (oA T 6 (am 15) rk ++ []))))))))) K rc rt rg rq rn 2 yy 1 K9 c9 t9 g9 q9 n9 ez') ⟨Nat.le_of_ble_eq_true rfl, Nat.le_of_ble_eq_true rfl⟩ hl.1 rfl (Nat.le_of_ble_eq_true rfl) dL_law_359 ⟨show N + 1 ≤ 600074 by omega, show 16 * (N + 1) ≤ 7301550 by omega⟩ rfl (fun H locs hW => ?_)
  have hW := hW.perm pmGra.symm
  refine lv_goto (tgt := 459) hx hb dL_law_362 (by decide) ?_
  exact kk K9 c9 rw ru rx rl rf rv t9 g9 q9 n9 rh rp rk y H locs y1 y2 y3 hW
set_option maxHeartbeats 4000000 in
set_option maxRecDepth 100000 in
theorem law_b372 {j N : Nat} {K : Nat → Ob} {M : Ob} {rc rw ru rx rl rf rv rt rg rq rn rh rp rk : Rw} {xi xd yy xk : Int32} {H : Heap} {locs : List Loc} {ls : Array Slot} (C0 : LC2 p l s m c D T A b L xs ad) (hRI : RI j K M) (hj : j < 1000000) (hXX : LX rc rw ru rx rt rg rq rn rh rp rk M) (hee : LXe M) (hNN : N + 4751 ≤ 429000) (hW : Wd D A s.heap (lwd T ad am K rc rw ru rx rl rf rv rt rg rq rn rh rp rk) H locs) (hl : lv_has ls 21 [(0, .ref b), (1, .ref (ad 0 0)), (2, .ref (am 2)), (3, .ref (am 3)), (4, .ref (am 4)), (5, .ref (am 5)), (6, .ref (am 6)), (7, .ref (am 7)), (8, .ref (am 8)), (9, .ref (am 9)), (10, .ref (am 10)), (11, .ref (am 11)), (12, .ref (am 12)), (13, .ref (am 13)), (14, .ref (am 14)), (15, .ref (am 15)), (16, .int xi), (17, .int xd), (18, .int yy), (19, .int xk)])
    (kk : ∀ (K9 : Nat → Ob) (c9 w9 u9 x9 l9 f9 v9 t9 g9 q9 n9 h9 p9 k9 : Rw) (M9 : Ob) (H : Heap) (locs : List Loc), RI (j + 1) K9 M9 → LX c9 w9 u9 x9 t9 g9 q9 n9 h9 p9 k9 M9 → LXe M9 → Wd D A s.heap (lwd T ad am K9 c9 w9 u9 x9 l9 f9 v9 t9 g9 q9 n9 h9 p9 k9) H locs → W p l e room_1 s m #[Value.ref b] below meth c H locs (N + 1) (16 * (N + 1)) Q (F0 m 459 ls [.int 1])) : W p l e room_1 s m #[Value.ref b] below meth c H locs N (16 * N) Q (F0 m 372 ls []) := by
  obtain ⟨hx, hb, hml, hown, hts, hX0, hbl, hbA, hL, hK, hN, hE, hC, hok, hfl, hA⟩ := id C0
  unfold lwd at hW
  obtain ⟨⟨r, K9, c9, x9⟩, ez, z1, y, y1, y2, y3⟩ := L_texts hRI hj hXX hee (kd := 0) (by decide) yy
  simp only at z1 y1 y2
  subst z1
  have ez' : f_L_texts K rc rx 0 yy = some (1, K9, c9, x9) := ez
  refine lv_aload_n hx hb dL_law_372 rfl (lv_at hl 1 rfl) ?_
  refine lv_iconst (v := 0) hx hb dL_law_373 (by decide) ?_
  refine lv_iload hx hb dL_law_374 (lv_at hl 18 rfl) ?_
  refine lv_aload_n hx hb dL_law_376 rfl (lv_at hl 2 rfl) ?_
  refine lv_aload hx hb dL_law_377 (lv_at hl 5 rfl) ?_
  have hW := hW.perm pmTex
  refine cs_L_249 (R := room_1) hx hb hml hown hts hK hN hE hC hA hW (c_L_texts l hfl D T A ad hok (am 2) (am 5) (oA T 24 (am 3) rw ++ (oA T 2 (am 4) ru ++ (oA T 6 (am 6) rl ++ (oA T 6 (am 7) rf ++ (oA T 12 (am 8) rv ++ (oA T 20 (am 9) rt ++ (oA T 20 (am 10) rg ++ (oA T 60 (am 11) rq ++ (oA T 5 (am 12) rn ++ (oA T 16 (am 13) rh ++ (oA T 30 (am 14) rp ++ (oA T 6 (am 15) rk ++ [])))))))))))) K rc rx 0 yy 1 K9 c9 x9 ez') ⟨Nat.le_of_ble_eq_true rfl, Nat.le_of_ble_eq_true rfl⟩ hl.1 rfl (Nat.le_of_ble_eq_true rfl) dL_law_379 ⟨show N + 1 ≤ 600074 by omega, show 16 * (N + 1) ≤ 7301550 by omega⟩ rfl (fun H locs hW => ?_)
  have hW := hW.perm pmTex.symm
  refine lv_goto (tgt := 459) hx hb dL_law_382 (by decide) ?_
  exact kk K9 c9 rw ru x9 rl rf rv rt rg rq rn rh rp rk y H locs y1 y2 y3 hW
set_option maxHeartbeats 4000000 in
set_option maxRecDepth 100000 in
theorem law_b392 {j N : Nat} {K : Nat → Ob} {M : Ob} {rc rw ru rx rl rf rv rt rg rq rn rh rp rk : Rw} {xi xd yy xk : Int32} {H : Heap} {locs : List Loc} {ls : Array Slot} (C0 : LC2 p l s m c D T A b L xs ad) (hRI : RI j K M) (hj : j < 1000000) (hXX : LX rc rw ru rx rt rg rq rn rh rp rk M) (hee : LXe M) (hNN : N + 4751 ≤ 429000) (hW : Wd D A s.heap (lwd T ad am K rc rw ru rx rl rf rv rt rg rq rn rh rp rk) H locs) (hl : lv_has ls 21 [(0, .ref b), (1, .ref (ad 0 0)), (2, .ref (am 2)), (3, .ref (am 3)), (4, .ref (am 4)), (5, .ref (am 5)), (6, .ref (am 6)), (7, .ref (am 7)), (8, .ref (am 8)), (9, .ref (am 9)), (10, .ref (am 10)), (11, .ref (am 11)), (12, .ref (am 12)), (13, .ref (am 13)), (14, .ref (am 14)), (15, .ref (am 15)), (16, .int xi), (17, .int xd), (18, .int yy), (19, .int xk)])
    (kk : ∀ (K9 : Nat → Ob) (c9 w9 u9 x9 l9 f9 v9 t9 g9 q9 n9 h9 p9 k9 : Rw) (M9 : Ob) (H : Heap) (locs : List Loc), RI (j + 1) K9 M9 → LX c9 w9 u9 x9 t9 g9 q9 n9 h9 p9 k9 M9 → LXe M9 → Wd D A s.heap (lwd T ad am K9 c9 w9 u9 x9 l9 f9 v9 t9 g9 q9 n9 h9 p9 k9) H locs → W p l e room_1 s m #[Value.ref b] below meth c H locs (N + 1) (16 * (N + 1)) Q (F0 m 459 ls [.int 1])) : W p l e room_1 s m #[Value.ref b] below meth c H locs N (16 * N) Q (F0 m 392 ls []) := by
  obtain ⟨hx, hb, hml, hown, hts, hX0, hbl, hbA, hL, hK, hN, hE, hC, hok, hfl, hA⟩ := id C0
  unfold lwd at hW
  obtain ⟨⟨r, K9, c9, x9⟩, ez, z1, y, y1, y2, y3⟩ := L_texts hRI hj hXX hee (kd := 1) (by decide) yy
  simp only at z1 y1 y2
  subst z1
  have ez' : f_L_texts K rc rx 1 yy = some (1, K9, c9, x9) := ez
  refine lv_aload_n hx hb dL_law_392 rfl (lv_at hl 1 rfl) ?_
  refine lv_iconst (v := 1) hx hb dL_law_393 (by decide) ?_
  refine lv_iload hx hb dL_law_394 (lv_at hl 18 rfl) ?_
  refine lv_aload_n hx hb dL_law_396 rfl (lv_at hl 2 rfl) ?_
  refine lv_aload hx hb dL_law_397 (lv_at hl 5 rfl) ?_
  have hW := hW.perm pmTex
  refine cs_L_249 (R := room_1) hx hb hml hown hts hK hN hE hC hA hW (c_L_texts l hfl D T A ad hok (am 2) (am 5) (oA T 24 (am 3) rw ++ (oA T 2 (am 4) ru ++ (oA T 6 (am 6) rl ++ (oA T 6 (am 7) rf ++ (oA T 12 (am 8) rv ++ (oA T 20 (am 9) rt ++ (oA T 20 (am 10) rg ++ (oA T 60 (am 11) rq ++ (oA T 5 (am 12) rn ++ (oA T 16 (am 13) rh ++ (oA T 30 (am 14) rp ++ (oA T 6 (am 15) rk ++ [])))))))))))) K rc rx 1 yy 1 K9 c9 x9 ez') ⟨Nat.le_of_ble_eq_true rfl, Nat.le_of_ble_eq_true rfl⟩ hl.1 rfl (Nat.le_of_ble_eq_true rfl) dL_law_399 ⟨show N + 1 ≤ 600074 by omega, show 16 * (N + 1) ≤ 7301550 by omega⟩ rfl (fun H locs hW => ?_)
  have hW := hW.perm pmTex.symm
  refine lv_goto (tgt := 459) hx hb dL_law_402 (by decide) ?_
  exact kk K9 c9 rw ru x9 rl rf rv rt rg rq rn rh rp rk y H locs y1 y2 y3 hW
set_option maxHeartbeats 4000000 in
set_option maxRecDepth 100000 in
theorem law_b412 {j N : Nat} {K : Nat → Ob} {M : Ob} {rc rw ru rx rl rf rv rt rg rq rn rh rp rk : Rw} {xi xd yy xk : Int32} {H : Heap} {locs : List Loc} {ls : Array Slot} (C0 : LC2 p l s m c D T A b L xs ad) (hRI : RI j K M) (hj : j < 1000000) (hXX : LX rc rw ru rx rt rg rq rn rh rp rk M) (hee : LXe M) (hNN : N + 4751 ≤ 429000) (hW : Wd D A s.heap (lwd T ad am K rc rw ru rx rl rf rv rt rg rq rn rh rp rk) H locs) (hl : lv_has ls 21 [(0, .ref b), (1, .ref (ad 0 0)), (2, .ref (am 2)), (3, .ref (am 3)), (4, .ref (am 4)), (5, .ref (am 5)), (6, .ref (am 6)), (7, .ref (am 7)), (8, .ref (am 8)), (9, .ref (am 9)), (10, .ref (am 10)), (11, .ref (am 11)), (12, .ref (am 12)), (13, .ref (am 13)), (14, .ref (am 14)), (15, .ref (am 15)), (16, .int xi), (17, .int xd), (18, .int yy), (19, .int xk)])
    (kk : ∀ (K9 : Nat → Ob) (c9 w9 u9 x9 l9 f9 v9 t9 g9 q9 n9 h9 p9 k9 : Rw) (M9 : Ob) (H : Heap) (locs : List Loc), RI (j + 1) K9 M9 → LX c9 w9 u9 x9 t9 g9 q9 n9 h9 p9 k9 M9 → LXe M9 → Wd D A s.heap (lwd T ad am K9 c9 w9 u9 x9 l9 f9 v9 t9 g9 q9 n9 h9 p9 k9) H locs → W p l e room_1 s m #[Value.ref b] below meth c H locs (N + 1) (16 * (N + 1)) Q (F0 m 459 ls [.int 1])) : W p l e room_1 s m #[Value.ref b] below meth c H locs N (16 * N) Q (F0 m 412 ls []) := by
  obtain ⟨hx, hb, hml, hown, hts, hX0, hbl, hbA, hL, hK, hN, hE, hC, hok, hfl, hA⟩ := id C0
  unfold lwd at hW
  obtain ⟨⟨r, K9, c9, x9⟩, ez, z1, y, y1, y2, y3⟩ := L_texts hRI hj hXX hee (kd := 2) (by decide) yy
  simp only at z1 y1 y2
  subst z1
  have ez' : f_L_texts K rc rx 2 yy = some (1, K9, c9, x9) := ez
  refine lv_aload_n hx hb dL_law_412 rfl (lv_at hl 1 rfl) ?_
  refine lv_iconst (v := 2) hx hb dL_law_413 (by decide) ?_
  refine lv_iload hx hb dL_law_414 (lv_at hl 18 rfl) ?_
  refine lv_aload_n hx hb dL_law_416 rfl (lv_at hl 2 rfl) ?_
  refine lv_aload hx hb dL_law_417 (lv_at hl 5 rfl) ?_
  have hW := hW.perm pmTex
  refine cs_L_249 (R := room_1) hx hb hml hown hts hK hN hE hC hA hW (c_L_texts l hfl D T A ad hok (am 2) (am 5) (oA T 24 (am 3) rw ++ (oA T 2 (am 4) ru ++ (oA T 6 (am 6) rl ++ (oA T 6 (am 7) rf ++ (oA T 12 (am 8) rv ++ (oA T 20 (am 9) rt ++ (oA T 20 (am 10) rg ++ (oA T 60 (am 11) rq ++ (oA T 5 (am 12) rn ++ (oA T 16 (am 13) rh ++ (oA T 30 (am 14) rp ++ (oA T 6 (am 15) rk ++ [])))))))))))) K rc rx 2 yy 1 K9 c9 x9 ez') ⟨Nat.le_of_ble_eq_true rfl, Nat.le_of_ble_eq_true rfl⟩ hl.1 rfl (Nat.le_of_ble_eq_true rfl) dL_law_419 ⟨show N + 1 ≤ 600074 by omega, show 16 * (N + 1) ≤ 7301550 by omega⟩ rfl (fun H locs hW => ?_)
  have hW := hW.perm pmTex.symm
  refine lv_goto (tgt := 459) hx hb dL_law_422 (by decide) ?_
  exact kk K9 c9 rw ru x9 rl rf rv rt rg rq rn rh rp rk y H locs y1 y2 y3 hW
set_option maxHeartbeats 4000000 in
set_option maxRecDepth 100000 in
theorem law_b432 {j N : Nat} {K : Nat → Ob} {M : Ob} {rc rw ru rx rl rf rv rt rg rq rn rh rp rk : Rw} {xi xd yy xk : Int32} {H : Heap} {locs : List Loc} {ls : Array Slot} (C0 : LC2 p l s m c D T A b L xs ad) (hRI : RI j K M) (hj : j < 1000000) (hXX : LX rc rw ru rx rt rg rq rn rh rp rk M) (hee : LXe M) (hNN : N + 4751 ≤ 429000) (hW : Wd D A s.heap (lwd T ad am K rc rw ru rx rl rf rv rt rg rq rn rh rp rk) H locs) (hl : lv_has ls 21 [(0, .ref b), (1, .ref (ad 0 0)), (2, .ref (am 2)), (3, .ref (am 3)), (4, .ref (am 4)), (5, .ref (am 5)), (6, .ref (am 6)), (7, .ref (am 7)), (8, .ref (am 8)), (9, .ref (am 9)), (10, .ref (am 10)), (11, .ref (am 11)), (12, .ref (am 12)), (13, .ref (am 13)), (14, .ref (am 14)), (15, .ref (am 15)), (16, .int xi), (17, .int xd), (18, .int yy), (19, .int xk)])
    (kk : ∀ (K9 : Nat → Ob) (c9 w9 u9 x9 l9 f9 v9 t9 g9 q9 n9 h9 p9 k9 : Rw) (M9 : Ob) (H : Heap) (locs : List Loc), RI (j + 1) K9 M9 → LX c9 w9 u9 x9 t9 g9 q9 n9 h9 p9 k9 M9 → LXe M9 → Wd D A s.heap (lwd T ad am K9 c9 w9 u9 x9 l9 f9 v9 t9 g9 q9 n9 h9 p9 k9) H locs → W p l e room_1 s m #[Value.ref b] below meth c H locs (N + 1) (16 * (N + 1)) Q (F0 m 459 ls [.int 1])) : W p l e room_1 s m #[Value.ref b] below meth c H locs N (16 * N) Q (F0 m 432 ls []) := by
  obtain ⟨hx, hb, hml, hown, hts, hX0, hbl, hbA, hL, hK, hN, hE, hC, hok, hfl, hA⟩ := id C0
  unfold lwd at hW
  obtain ⟨⟨r, K9, c9, p9, k9⟩, ez, z1, y, y1, y2, y3⟩ := L_patterns hRI hXX hee (kd := 0) (by decide) yy
  simp only at z1 y1 y2
  subst z1
  have ez' : f_L_patterns K rc rp rk 0 yy = some (1, K9, c9, p9, k9) := ez
  refine lv_aload_n hx hb dL_law_432 rfl (lv_at hl 1 rfl) ?_
  refine lv_iconst (v := 0) hx hb dL_law_433 (by decide) ?_
  refine lv_iload hx hb dL_law_434 (lv_at hl 18 rfl) ?_
  refine lv_aload_n hx hb dL_law_436 rfl (lv_at hl 2 rfl) ?_
  refine lv_aload hx hb dL_law_437 (lv_at hl 14 rfl) ?_
  refine lv_aload hx hb dL_law_439 (lv_at hl 15 rfl) ?_
  have hW := hW.perm pmPat
  refine cs_L_253 (R := room_1) hx hb hml hown hts hK hN hE hC hA hW (c_L_patterns l hfl D T A ad hok (am 2) (am 14) (am 15) (oA T 24 (am 3) rw ++ (oA T 2 (am 4) ru ++ (oA T 6 (am 5) rx ++ (oA T 6 (am 6) rl ++ (oA T 6 (am 7) rf ++ (oA T 12 (am 8) rv ++ (oA T 20 (am 9) rt ++ (oA T 20 (am 10) rg ++ (oA T 60 (am 11) rq ++ (oA T 5 (am 12) rn ++ (oA T 16 (am 13) rh ++ []))))))))))) K rc rp rk 0 yy 1 K9 c9 p9 k9 ez') ⟨Nat.le_of_ble_eq_true rfl, Nat.le_of_ble_eq_true rfl⟩ hl.1 rfl (Nat.le_of_ble_eq_true rfl) dL_law_441 ⟨show N + 1 ≤ 600074 by omega, show 16 * (N + 1) ≤ 7301550 by omega⟩ rfl (fun H locs hW => ?_)
  have hW := hW.perm pmPat.symm
  refine lv_goto (tgt := 459) hx hb dL_law_444 (by decide) ?_
  exact kk K9 c9 rw ru rx rl rf rv rt rg rq rn rh p9 k9 y H locs y1 y2 y3 hW
set_option maxHeartbeats 4000000 in
set_option maxRecDepth 100000 in
theorem law_b447 {j N : Nat} {K : Nat → Ob} {M : Ob} {rc rw ru rx rl rf rv rt rg rq rn rh rp rk : Rw} {xi xd yy xk : Int32} {H : Heap} {locs : List Loc} {ls : Array Slot} (C0 : LC2 p l s m c D T A b L xs ad) (hRI : RI j K M) (hj : j < 1000000) (hXX : LX rc rw ru rx rt rg rq rn rh rp rk M) (hee : LXe M) (hNN : N + 4751 ≤ 429000) (hW : Wd D A s.heap (lwd T ad am K rc rw ru rx rl rf rv rt rg rq rn rh rp rk) H locs) (hl : lv_has ls 21 [(0, .ref b), (1, .ref (ad 0 0)), (2, .ref (am 2)), (3, .ref (am 3)), (4, .ref (am 4)), (5, .ref (am 5)), (6, .ref (am 6)), (7, .ref (am 7)), (8, .ref (am 8)), (9, .ref (am 9)), (10, .ref (am 10)), (11, .ref (am 11)), (12, .ref (am 12)), (13, .ref (am 13)), (14, .ref (am 14)), (15, .ref (am 15)), (16, .int xi), (17, .int xd), (18, .int yy), (19, .int xk)])
    (kk : ∀ (K9 : Nat → Ob) (c9 w9 u9 x9 l9 f9 v9 t9 g9 q9 n9 h9 p9 k9 : Rw) (M9 : Ob) (H : Heap) (locs : List Loc), RI (j + 1) K9 M9 → LX c9 w9 u9 x9 t9 g9 q9 n9 h9 p9 k9 M9 → LXe M9 → Wd D A s.heap (lwd T ad am K9 c9 w9 u9 x9 l9 f9 v9 t9 g9 q9 n9 h9 p9 k9) H locs → W p l e room_1 s m #[Value.ref b] below meth c H locs (N + 1) (16 * (N + 1)) Q (F0 m 459 ls [.int 1])) : W p l e room_1 s m #[Value.ref b] below meth c H locs N (16 * N) Q (F0 m 447 ls []) := by
  obtain ⟨hx, hb, hml, hown, hts, hX0, hbl, hbA, hL, hK, hN, hE, hC, hok, hfl, hA⟩ := id C0
  unfold lwd at hW
  obtain ⟨⟨r, K9, c9, p9, k9⟩, ez, z1, y, y1, y2, y3⟩ := L_patterns hRI hXX hee (kd := 1) (by decide) yy
  simp only at z1 y1 y2
  subst z1
  have ez' : f_L_patterns K rc rp rk 1 yy = some (1, K9, c9, p9, k9) := ez
  refine lv_aload_n hx hb dL_law_447 rfl (lv_at hl 1 rfl) ?_
  refine lv_iconst (v := 1) hx hb dL_law_448 (by decide) ?_
  refine lv_iload hx hb dL_law_449 (lv_at hl 18 rfl) ?_
  refine lv_aload_n hx hb dL_law_451 rfl (lv_at hl 2 rfl) ?_
  refine lv_aload hx hb dL_law_452 (lv_at hl 14 rfl) ?_
  refine lv_aload hx hb dL_law_454 (lv_at hl 15 rfl) ?_
  have hW := hW.perm pmPat
  refine cs_L_253 (R := room_1) hx hb hml hown hts hK hN hE hC hA hW (c_L_patterns l hfl D T A ad hok (am 2) (am 14) (am 15) (oA T 24 (am 3) rw ++ (oA T 2 (am 4) ru ++ (oA T 6 (am 5) rx ++ (oA T 6 (am 6) rl ++ (oA T 6 (am 7) rf ++ (oA T 12 (am 8) rv ++ (oA T 20 (am 9) rt ++ (oA T 20 (am 10) rg ++ (oA T 60 (am 11) rq ++ (oA T 5 (am 12) rn ++ (oA T 16 (am 13) rh ++ []))))))))))) K rc rp rk 1 yy 1 K9 c9 p9 k9 ez') ⟨Nat.le_of_ble_eq_true rfl, Nat.le_of_ble_eq_true rfl⟩ hl.1 rfl (Nat.le_of_ble_eq_true rfl) dL_law_456 ⟨show N + 1 ≤ 600074 by omega, show 16 * (N + 1) ≤ 7301550 by omega⟩ rfl (fun H locs hW => ?_)
  have hW := hW.perm pmPat.symm
  exact kk K9 c9 rw ru rx rl rf rv rt rg rq rn rh p9 k9 y H locs y1 y2 y3 hW
end LAWB
