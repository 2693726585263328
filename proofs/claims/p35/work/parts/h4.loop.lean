/-! The law's loop. -/
theorem rem83 : ∀ i : Nat, i < 90 → iN i - iN i / 83 * 83 = iN (i % 83) := by decide +kernel
section LAWLOOP
variable {p : Program} {l : Launch} {e : Env} {s : State} {m : MethodId} {below : List Frame} {meth : Method} {c : Code} {Q : State → Prop} {D : va_G} {T : Nat → ClassId} {A : Nat → Prop} {b L : Nat} {xs : Nat → Int32} {ad : Nat → Nat → Nat} {am : Nat → Nat}
set_option maxHeartbeats 8000000 in
set_option maxRecDepth 100000 in
theorem law_asks {j N : Nat} {K : Nat → Ob} {M : Ob} {rc rw ru rx rl rf rv rt rg rq rn rh rp rk : Rw} {xi xd yy xk : Int32} {H : Heap} {locs : List Loc} {ls : Array Slot} (C0 : LC2 p l s m c D T A b L xs ad) (hRI : RI j K M) (hXX : LX rc rw ru rx rt rg rq rn rh rp rk M) (hee : LXe M) (hNN : N + 4750 ≤ 429000) (hW : Wd D A s.heap (lwd T ad am K rc rw ru rx rl rf rv rt rg rq rn rh rp rk) H locs) (hl : lv_has ls 21 [(0, .ref b), (1, .ref (ad 0 0)), (2, .ref (am 2)), (3, .ref (am 3)), (4, .ref (am 4)), (5, .ref (am 5)), (6, .ref (am 6)), (7, .ref (am 7)), (8, .ref (am 8)), (9, .ref (am 9)), (10, .ref (am 10)), (11, .ref (am 11)), (12, .ref (am 12)), (13, .ref (am 13)), (14, .ref (am 14)), (15, .ref (am 15)), (16, .int xi), (17, .int xd), (18, .int yy), (19, .int xk)])
    (kk : ∀ (K9 : Nat → Ob) (c9 w9 u9 x9 l9 f9 v9 t9 g9 q9 n9 h9 p9 k9 : Rw) (M9 : Ob) (H : Heap) (locs : List Loc) (ls : Array Slot), RI j K9 M9 → LX c9 w9 u9 x9 t9 g9 q9 n9 h9 p9 k9 M9 → LXe M9 → Wd D A s.heap (lwd T ad am K9 c9 w9 u9 x9 l9 f9 v9 t9 g9 q9 n9 h9 p9 k9) H locs → lv_has ls 21 [(0, .ref b), (1, .ref (ad 0 0)), (2, .ref (am 2)), (3, .ref (am 3)), (4, .ref (am 4)), (5, .ref (am 5)), (6, .ref (am 6)), (7, .ref (am 7)), (8, .ref (am 8)), (9, .ref (am 9)), (10, .ref (am 10)), (11, .ref (am 11)), (12, .ref (am 12)), (13, .ref (am 13)), (14, .ref (am 14)), (15, .ref (am 15)), (16, .int (xi + 1))] → W p l e room_1 s m #[Value.ref b] below meth c H locs (N + 4750) (16 * (N + 4750)) Q (F0 m 101 ls [])) : W p l e room_1 s m #[Value.ref b] below meth c H locs N (16 * N) Q (F0 m 459 ls [.int 1]) := by
  obtain ⟨hx, hb, hml, hown, hts, hX0, hbl, hbA, hL, hK, hN, hE, hC, hok, hfl, hA⟩ := id C0
  unfold lwd at hW
  obtain ⟨⟨r, K9, c9, l9, f9, v9, h9⟩, ez, z1, y, y1, y2, y3⟩ := L_asks (l := rl) (f := rf) (v := rv) hRI hXX hee yy
  simp only at z1 y1 y2
  subst z1
  have ez' : f_L_asks K rc rw ru rx rl rf rv rt rg rq rn rh rp rk yy = some (1, K9, c9, l9, f9, v9, h9) := ez
  refine lv_istore (lv' := [(20, .int 1), (0, .ref b), (1, .ref (ad 0 0)), (2, .ref (am 2)), (3, .ref (am 3)), (4, .ref (am 4)), (5, .ref (am 5)), (6, .ref (am 6)), (7, .ref (am 7)), (8, .ref (am 8)), (9, .ref (am 9)), (10, .ref (am 10)), (11, .ref (am 11)), (12, .ref (am 12)), (13, .ref (am 13)), (14, .ref (am 14)), (15, .ref (am 15)), (16, .int xi), (17, .int xd), (18, .int yy), (19, .int xk)]) hx hb dL_law_459 hl (by decide) rfl (fun ls hl => ?_)
  refine lv_iload hx hb dL_law_461 (lv_at hl 0 rfl) ?_
  refine lv_if_eq (tgt := 501) hx hb dL_law_463 (by decide) (fun c9 => absurd c9 (by decide)) (fun _ => ?_)
  have hl : lv_has ls 21 [(0, .ref b), (1, .ref (ad 0 0)), (2, .ref (am 2)), (3, .ref (am 3)), (4, .ref (am 4)), (5, .ref (am 5)), (6, .ref (am 6)), (7, .ref (am 7)), (8, .ref (am 8)), (9, .ref (am 9)), (10, .ref (am 10)), (11, .ref (am 11)), (12, .ref (am 12)), (13, .ref (am 13)), (14, .ref (am 14)), (15, .ref (am 15)), (16, .int xi), (17, .int xd), (18, .int yy), (19, .int xk)] := lv_sub hl [1, 2, 3, 4, 5, 6, 7, 8, 9, 10, 11, 12, 13, 14, 15, 16, 17, 18, 19, 20] rfl
  refine lv_aload_n hx hb dL_law_466 rfl (lv_at hl 1 rfl) ?_
  refine lv_iload hx hb dL_law_467 (lv_at hl 18 rfl) ?_
  refine lv_aload_n hx hb dL_law_469 rfl (lv_at hl 2 rfl) ?_
  refine lv_aload_n hx hb dL_law_470 rfl (lv_at hl 3 rfl) ?_
  refine lv_aload hx hb dL_law_471 (lv_at hl 4 rfl) ?_
  refine lv_aload hx hb dL_law_473 (lv_at hl 5 rfl) ?_
  refine lv_aload hx hb dL_law_475 (lv_at hl 6 rfl) ?_
  refine lv_aload hx hb dL_law_477 (lv_at hl 7 rfl) ?_
  refine lv_aload hx hb dL_law_479 (lv_at hl 8 rfl) ?_
  refine lv_aload hx hb dL_law_481 (lv_at hl 9 rfl) ?_
  refine lv_aload hx hb dL_law_483 (lv_at hl 10 rfl) ?_
  refine lv_aload hx hb dL_law_485 (lv_at hl 11 rfl) ?_
  refine lv_aload hx hb dL_law_487 (lv_at hl 12 rfl) ?_
  refine lv_aload hx hb dL_law_489 (lv_at hl 13 rfl) ?_
  refine lv_aload hx hb dL_law_491 (lv_at hl 14 rfl) ?_
  refine lv_aload hx hb dL_law_493 (lv_at hl 15 rfl) ?_
  refine cs_L_256 (R := room_1) hx hb hml hown hts hK hN hE hC hA hW (c_L_asks l hfl D T A ad hok (am 2) (am 3) (am 4) (am 5) (am 6) (am 7) (am 8) (am 9) (am 10) (am 11) (am 12) (am 13) (am 14) (am 15) [] K rc rw ru rx rl rf rv rt rg rq rn rh rp rk yy 1 K9 c9 l9 f9 v9 h9 ez') ⟨Nat.le_of_ble_eq_true rfl, Nat.le_of_ble_eq_true rfl⟩ hl.1 rfl (Nat.le_of_ble_eq_true rfl) dL_law_495 ⟨show N + 4750 ≤ 600074 by omega, show 16 * (N + 4750) ≤ 7301550 by omega⟩ rfl (fun H locs hW => ?_)
  refine lv_if_ne (tgt := 503) hx hb dL_law_498 (by decide) (fun _ => ?_) (fun c9 => absurd c9 (by decide))
  obtain ⟨x9, ex9⟩ : ∃ z : Int32, z = xi + 1 := ⟨_, rfl⟩
  refine lv_iinc (v := x9) (lv' := [(16, .int x9), (0, .ref b), (1, .ref (ad 0 0)), (2, .ref (am 2)), (3, .ref (am 3)), (4, .ref (am 4)), (5, .ref (am 5)), (6, .ref (am 6)), (7, .ref (am 7)), (8, .ref (am 8)), (9, .ref (am 9)), (10, .ref (am 10)), (11, .ref (am 11)), (12, .ref (am 12)), (13, .ref (am 13)), (14, .ref (am 14)), (15, .ref (am 15)), (17, .int xd), (18, .int yy), (19, .int xk)]) hx hb dL_law_503 hl (k := 16) rfl (by rw [ex9]; rfl) (by decide) rfl (fun ls hl => ?_)
  refine lv_goto (tgt := 101) hx hb dL_law_506 (by decide) ?_
  subst ex9
  exact kk K9 c9 rw ru rx l9 f9 v9 rt rg rq rn h9 rp rk y H locs ls y1 y2 y3 hW (lv_sub hl [1, 2, 3, 4, 5, 6, 7, 8, 9, 10, 11, 12, 13, 14, 15, 16, 0] rfl)
set_option maxHeartbeats 8000000 in
set_option maxRecDepth 100000 in
theorem law_loop (C0 : LC2 p l s m c D T A b L xs ad)
    (hend : ∀ (H : Heap) (locs : List Loc) (N : Nat) (ls : Array Slot) (ws : va_W), Wd D A s.heap ws H locs → N ≤ 429000 → W p l e room_1 s m #[Value.ref b] below meth c H locs N (16 * N) Q (F0 m 510 ls [.int 1])) :
    ∀ (n i N : Nat) (xi : Int32) (K : Nat → Ob) (M : Ob) (rc rw ru rx rl rf rv rt rg rq rn rh rp rk : Rw) (H : Heap) (locs : List Loc) (ls : Array Slot), i + n = 90 → xi = iN i → RI i K M → LX rc rw ru rx rt rg rq rn rh rp rk M → LXe M → N ≤ 1021 + 4751 * i → Wd D A s.heap (lwd T ad am K rc rw ru rx rl rf rv rt rg rq rn rh rp rk) H locs → lv_has ls 21 [(0, .ref b), (1, .ref (ad 0 0)), (2, .ref (am 2)), (3, .ref (am 3)), (4, .ref (am 4)), (5, .ref (am 5)), (6, .ref (am 6)), (7, .ref (am 7)), (8, .ref (am 8)), (9, .ref (am 9)), (10, .ref (am 10)), (11, .ref (am 11)), (12, .ref (am 12)), (13, .ref (am 13)), (14, .ref (am 14)), (15, .ref (am 15)), (16, .int xi)] → W p l e room_1 s m #[Value.ref b] below meth c H locs N (16 * N) Q (F0 m 101 ls []) := by
  obtain ⟨hx, hb, hml, hown, hts, hX0, hbl, hbA, hL, hK, hN, hE, hC, hok, hfl, hA⟩ := id C0
  intro n
  induction n with
  | zero =>
    intro i N xi K M rc rw ru rx rl rf rv rt rg rq rn rh rp rk H locs ls hin exi hRI hXX hee hNN hW hl
    refine lv_iload hx hb dL_law_101 (lv_at hl 16 rfl) ?_
    refine lv_bipush (v := 90) hx hb dL_law_103 (by decide) ?_
    refine lv_icmp_ge (tgt := 509) hx hb dL_law_105 (by decide) (fun _ => ?_) (fun c1 => ?_)
    · refine lv_iconst (v := 1) hx hb dL_law_509 (by decide) ?_
      exact hend H locs N ls _ hW (by omega)
    · exfalso
      rw [exi, show (90 : Int32) = iN 90 from rfl, iN_le (by omega) (by omega)] at c1
      omega
  | succ n ih =>
    intro i N xi K M rc rw ru rx rl rf rv rt rg rq rn rh rp rk H locs ls hin exi hRI hXX hee hNN hW hl
    have hj : i < 1000000 := by omega
    refine lv_iload hx hb dL_law_101 (lv_at hl 16 rfl) ?_
    refine lv_bipush (v := 90) hx hb dL_law_103 (by decide) ?_
    refine lv_icmp_ge (tgt := 509) hx hb dL_law_105 (by decide) (fun c1 => ?_) (fun _ => ?_)
    · exfalso
      rw [exi, show (90 : Int32) = iN 90 from rfl, iN_le (by omega) (by omega)] at c1
      omega
    · have erem : xi - xi / 83 * 83 = iN (i % 83) := by rw [exi]; exact rem83 i (by omega)
      refine lv_aload_n hx hb dL_law_108 rfl (lv_at hl 0 rfl) ?_
      refine lv_iload hx hb dL_law_109 (lv_at hl 16 rfl) ?_
      refine lv_bipush (v := 83) hx hb dL_law_111 (by decide) ?_
      refine lv_irem hx hb dL_law_113 (by decide) ?_
      rw [erem]
      refine l_cell (R := room_1) (k := i % 83) hx hb hml hown hts hW hX0 hbl hbA (Nat.mod_lt _ (by decide)) hL ⟨Nat.le_of_ble_eq_true rfl, Nat.le_of_ble_eq_true rfl⟩ hl.1 rfl (Nat.le_of_ble_eq_true rfl) dL_law_114 ⟨show N ≤ 600074 by omega, show 16 * N ≤ 7301550 by omega⟩ (fun H locs hW => ?_)
      refine lv_iload hx hb dL_law_117 (lv_at hl 16 rfl) ?_
      refine lv_ldc (v := 15485863) hx hb hown (hts _ wm1_4) dL_law_119 ?_
      refine lv_imul hx hb dL_law_121 ?_
      refine lv_ixor hx hb dL_law_122 ?_
      generalize cellF L xs (iN (i % 83)) ^^^ (xi * 15485863) = xd
      refine lv_istore (lv' := [(17, .int xd), (0, .ref b), (1, .ref (ad 0 0)), (2, .ref (am 2)), (3, .ref (am 3)), (4, .ref (am 4)), (5, .ref (am 5)), (6, .ref (am 6)), (7, .ref (am 7)), (8, .ref (am 8)), (9, .ref (am 9)), (10, .ref (am 10)), (11, .ref (am 11)), (12, .ref (am 12)), (13, .ref (am 13)), (14, .ref (am 14)), (15, .ref (am 15)), (16, .int xi)]) hx hb dL_law_123 hl (by decide) rfl (fun ls hl => ?_)
      refine lv_iload hx hb dL_law_125 (lv_at hl 0 rfl) ?_
      refine lv_iconst (v := 4) hx hb dL_law_127 (by decide) ?_
      refine lv_ishr hx hb dL_law_128 ?_
      generalize xd >>> ((4 : Int32) &&& 31) = yy
      refine lv_istore (lv' := [(18, .int yy), (17, .int xd), (0, .ref b), (1, .ref (ad 0 0)), (2, .ref (am 2)), (3, .ref (am 3)), (4, .ref (am 4)), (5, .ref (am 5)), (6, .ref (am 6)), (7, .ref (am 7)), (8, .ref (am 8)), (9, .ref (am 9)), (10, .ref (am 10)), (11, .ref (am 11)), (12, .ref (am 12)), (13, .ref (am 13)), (14, .ref (am 14)), (15, .ref (am 15)), (16, .int xi)]) hx hb dL_law_129 hl (by decide) rfl (fun ls hl => ?_)
      refine lv_iload hx hb dL_law_131 (lv_at hl 1 rfl) ?_
      refine lv_bipush (v := 30) hx hb dL_law_133 (by decide) ?_
      obtain ⟨rk9, hrk9, erk⟩ : ∃ r, r < 30 ∧ f_L_some xd 30 = some (iN r) := some_lt _ (by decide) (by decide)
      refine cs_L_171 (R := room_1) hx hb hml hown hts hK hN hE hC hA hW (c_L_some l D T A _ xd 30 (iN rk9) erk) ⟨Nat.le_of_ble_eq_true rfl, Nat.le_of_ble_eq_true rfl⟩ hl.1 rfl (Nat.le_of_ble_eq_true rfl) dL_law_135 ⟨show N ≤ 600074 by omega, show 16 * N ≤ 7301550 by omega⟩ rfl (fun H locs hW => ?_)
      refine lv_istore (lv' := [(19, .int (iN rk9)), (18, .int yy), (17, .int xd), (0, .ref b), (1, .ref (ad 0 0)), (2, .ref (am 2)), (3, .ref (am 3)), (4, .ref (am 4)), (5, .ref (am 5)), (6, .ref (am 6)), (7, .ref (am 7)), (8, .ref (am 8)), (9, .ref (am 9)), (10, .ref (am 10)), (11, .ref (am 11)), (12, .ref (am 12)), (13, .ref (am 13)), (14, .ref (am 14)), (15, .ref (am 15)), (16, .int xi)]) hx hb dL_law_138 hl (by decide) rfl (fun ls hl => ?_)
      generalize iN rk9 = xk at hl
      have hl : lv_has ls 21 [(0, .ref b), (1, .ref (ad 0 0)), (2, .ref (am 2)), (3, .ref (am 3)), (4, .ref (am 4)), (5, .ref (am 5)), (6, .ref (am 6)), (7, .ref (am 7)), (8, .ref (am 8)), (9, .ref (am 9)), (10, .ref (am 10)), (11, .ref (am 11)), (12, .ref (am 12)), (13, .ref (am 13)), (14, .ref (am 14)), (15, .ref (am 15)), (16, .int xi), (17, .int xd), (18, .int yy), (19, .int xk)] := lv_sub hl [3, 4, 5, 6, 7, 8, 9, 10, 11, 12, 13, 14, 15, 16, 17, 18, 19, 2, 1, 0] rfl
      have kk : ∀ (K9 : Nat → Ob) (c9 w9 u9 x9 l9 f9 v9 t9 g9 q9 n9 h9 p9 k9 : Rw) (M9 : Ob) (H : Heap) (locs : List Loc), RI (i + 1) K9 M9 → LX c9 w9 u9 x9 t9 g9 q9 n9 h9 p9 k9 M9 → LXe M9 → Wd D A s.heap (lwd T ad am K9 c9 w9 u9 x9 l9 f9 v9 t9 g9 q9 n9 h9 p9 k9) H locs → W p l e room_1 s m #[Value.ref b] below meth c H locs (N + 1) (16 * (N + 1)) Q (F0 m 459 ls [.int 1]) := by
        intro K9 c9 w9 u9 x9 l9 f9 v9 t9 g9 q9 n9 h9 p9 k9 M9 H locs h1 h2 h3 hW
        refine law_asks C0 h1 h2 h3 (by omega) hW hl ?_
        intro K8 c8 w8 u8 x8 l8 f8 v8 t8 g8 q8 n8 h8 p8 k8 M8 H locs ls g1 g2 g3 hW hl
        exact ih (i + 1) (N + 1 + 4750) (xi + 1) K8 M8 c8 w8 u8 x8 l8 f8 v8 t8 g8 q8 n8 h8 p8 k8 H locs ls (by omega) (by rw [exi]; exact iN_add i 1) g1 g2 g3 (by omega) hW hl
      have hN1 : N + 4751 ≤ 429000 := by omega
      refine lv_iload hx hb dL_law_140 (lv_at hl 16 rfl) ?_
      refine lv_iconst (v := 4) hx hb dL_law_142 (by decide) ?_
      refine lv_icmp_ge (tgt := 160) hx hb dL_law_143 (by decide) (fun _ => ?_) (fun _ => ?_)
      rotate_left
      · exact law_b146 C0 hRI hj hXX hee hN1 hW hl kk
      refine lv_iload hx hb dL_law_160 (lv_at hl 16 rfl) ?_
      refine lv_bipush (v := 10) hx hb dL_law_162 (by decide) ?_
      refine lv_icmp_ge (tgt := 181) hx hb dL_law_164 (by decide) (fun _ => ?_) (fun _ => ?_)
      rotate_left
      · exact law_b167 C0 hRI hj hXX hee hN1 hW hl kk
      refine lv_iload hx hb dL_law_181 (lv_at hl 16 rfl) ?_
      refine lv_bipush (v := 14) hx hb dL_law_183 (by decide) ?_
      refine lv_icmp_ge (tgt := 207) hx hb dL_law_185 (by decide) (fun _ => ?_) (fun _ => ?_)
      rotate_left
      · exact law_b188 C0 hRI hj hXX hee hN1 hW hl kk
      refine lv_iload hx hb dL_law_207 (lv_at hl 16 rfl) ?_
      refine lv_bipush (v := 18) hx hb dL_law_209 (by decide) ?_
      refine lv_icmp_ge (tgt := 227) hx hb dL_law_211 (by decide) (fun _ => ?_) (fun _ => ?_)
      rotate_left
      · exact law_b214 C0 hRI hj hXX hee hN1 hW hl kk
      refine lv_iload hx hb dL_law_227 (lv_at hl 19 rfl) ?_
      refine lv_iconst (v := 1) hx hb dL_law_229 (by decide) ?_
      refine lv_icmp_ge (tgt := 247) hx hb dL_law_230 (by decide) (fun _ => ?_) (fun _ => ?_)
      rotate_left
      · exact law_b233 C0 hRI hj hXX hee hN1 hW hl kk
      refine lv_iload hx hb dL_law_247 (lv_at hl 19 rfl) ?_
      refine lv_iconst (v := 4) hx hb dL_law_249 (by decide) ?_
      refine lv_icmp_ge (tgt := 267) hx hb dL_law_250 (by decide) (fun _ => ?_) (fun _ => ?_)
      rotate_left
      · exact law_b253 C0 hRI hj hXX hee hN1 hW hl kk
      refine lv_iload hx hb dL_law_267 (lv_at hl 19 rfl) ?_
      refine lv_iconst (v := 5) hx hb dL_law_269 (by decide) ?_
      refine lv_icmp_ge (tgt := 287) hx hb dL_law_270 (by decide) (fun _ => ?_) (fun _ => ?_)
      rotate_left
      · exact law_b273 C0 hRI hj hXX hee hN1 hW hl kk
      refine lv_iload hx hb dL_law_287 (lv_at hl 19 rfl) ?_
      refine lv_bipush (v := 7) hx hb dL_law_289 (by decide) ?_
      refine lv_icmp_ge (tgt := 313) hx hb dL_law_291 (by decide) (fun _ => ?_) (fun _ => ?_)
      rotate_left
      · exact law_b294 C0 hRI hj hXX hee hN1 hW hl kk
      refine lv_iload hx hb dL_law_313 (lv_at hl 19 rfl) ?_
      refine lv_bipush (v := 9) hx hb dL_law_315 (by decide) ?_
      refine lv_icmp_ge (tgt := 339) hx hb dL_law_317 (by decide) (fun _ => ?_) (fun _ => ?_)
      rotate_left
      · exact law_b320 C0 hRI hj hXX hee hN1 hW hl kk
      refine lv_iload hx hb dL_law_339 (lv_at hl 19 rfl) ?_
      refine lv_bipush (v := 14) hx hb dL_law_341 (by decide) ?_
      refine lv_icmp_ge (tgt := 365) hx hb dL_law_343 (by decide) (fun _ => ?_) (fun _ => ?_)
      rotate_left
      · exact law_b346 C0 hRI hj hXX hee hN1 hW hl kk
      refine lv_iload hx hb dL_law_365 (lv_at hl 19 rfl) ?_
      refine lv_bipush (v := 19) hx hb dL_law_367 (by decide) ?_
      refine lv_icmp_ge (tgt := 385) hx hb dL_law_369 (by decide) (fun _ => ?_) (fun _ => ?_)
      rotate_left
      · exact law_b372 C0 hRI hj hXX hee hN1 hW hl kk
      refine lv_iload hx hb dL_law_385 (lv_at hl 19 rfl) ?_
      refine lv_bipush (v := 23) hx hb dL_law_387 (by decide) ?_
      refine lv_icmp_ge (tgt := 405) hx hb dL_law_389 (by decide) (fun _ => ?_) (fun _ => ?_)
      rotate_left
      · exact law_b392 C0 hRI hj hXX hee hN1 hW hl kk
      refine lv_iload hx hb dL_law_405 (lv_at hl 19 rfl) ?_
      refine lv_bipush (v := 25) hx hb dL_law_407 (by decide) ?_
      refine lv_icmp_ge (tgt := 425) hx hb dL_law_409 (by decide) (fun _ => ?_) (fun _ => ?_)
      rotate_left
      · exact law_b412 C0 hRI hj hXX hee hN1 hW hl kk
      refine lv_iload hx hb dL_law_425 (lv_at hl 19 rfl) ?_
      refine lv_bipush (v := 28) hx hb dL_law_427 (by decide) ?_
      refine lv_icmp_ge (tgt := 447) hx hb dL_law_429 (by decide) (fun _ => ?_) (fun _ => ?_)
      rotate_left
      · exact law_b432 C0 hRI hj hXX hee hN1 hW hl kk
      exact law_b447 C0 hRI hj hXX hee hN1 hW hl kk
end LAWLOOP
