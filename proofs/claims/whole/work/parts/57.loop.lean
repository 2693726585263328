section LAWLOOP
variable {p : Program} {l : Launch} {e : Env} {s : State} {m : MethodId} {below : List Frame} {meth : Method} {c : Code} {Q : State → Prop} {D : va_G} {T : Nat → ClassId} {A : Nat → Prop} {H0 : Heap} {b L : Nat} {xs : Nat → Int32} {ad : Nat → Nat → Nat} {am : Nat → Nat} {ao : Nat}
set_option maxHeartbeats 8000000 in
set_option maxRecDepth 100000 in
theorem law_loop {RI : Nat → (Nat → Ob) → Ob → Prop} (hops : OPS RI) (C0 : LC p l s m c D T A b L xs ad)
    (hend : ∀ (H : Heap) (locs : List Loc) (cells slots : Nat) (ls : Array Slot) (K : Nat → Ob) (M : Ob) (g : Nat → Int64), Wd D A s.heap (lw T ad am ao K M g) H locs → cells ≤ 2000 → slots ≤ 400000 → LW p l e s m b below meth c H locs cells slots Q (F0 m 2477 ls [.int 1])) :
    ∀ (n i j : Nat) (x4 : Int32) (K : Nat → Ob) (M : Ob) (g : Nat → Int64) (H : Heap) (locs : List Loc) (cells slots : Nat) (ls : Array Slot), i = 7 * j → L + 7 ≤ i + 7 * n → i ≤ L → x4 = nI i → RI j K M → cells ≤ 500 + j → slots ≤ 390000 + 6 * j → Wd D A s.heap (lw T ad am ao K M g) H locs → lv_has ls 7 [(0, .ref b), (1, .ref (ad 0 0)), (2, .ref (am 0)), (3, .ref ao), (4, .int x4)] → LW p l e s m b below meth c H locs cells slots Q (F0 m 23 ls []) := by
  obtain ⟨hx, hb, hml, hown, hts, hX, hbl, hbA, hL, hK, hN, hE, hC, hok, hfl⟩ := id C0
  intro n
  induction n with
  | zero =>
    intro i j x4 K M g H locs cells slots ls hij h1 h2
    omega
  | succ n ih =>
    intro i j x4 K M g H locs cells slots ls hij h1 h2 ex4 hRI hcl hsl hW hl
    refine lv_iload hx hb dL_law_23 (lv_at hl 4 rfl) ?_
    refine lv_aload_n hx hb dL_law_25 rfl (lv_at hl 0 rfl) ?_
    refine va_slen hx hb hX hbl hbA hW.2.2 dL_law_26 ?_
    refine lv_bipush (v := 7) hx hb dL_law_27 (by decide) ?_
    refine lv_isub hx hb dL_law_29 ?_
    refine lv_icmp_gt (tgt := 2476) hx hb dL_law_30 (by decide) (fun c1 => ?_) (fun c1 => ?_)
    · refine lv_iconst (v := 1) hx hb dL_law_2476 (by decide) ?_
      exact hend H locs cells slots ls K M g hW (by omega) (by omega)
    · have hi7 : i + 7 ≤ L := by
        rw [ex4] at c1
        have e7 : (7 : Int32) = nI 7 := rfl
        rw [e7, Int32.lt_iff_toInt_lt] at c1
        have e1 := pk_sub_toInt (a := L) (b := 7) (by omega) (by decide)
        have e2 := nI_toInt (n := i) (by omega)
        have e3 : Int32.ofNat L - nI 7 = nI L - nI 7 := rfl
        first | rw [e1, e2] at c1 | rw [e3, e1, e2] at c1
        omega
      have hi0 : vp_in x4 L := by rw [ex4]; exact vp_in_nI (by omega) (by omega)
      refine lv_aload_n hx hb dL_law_33 rfl (lv_at hl 0 rfl) ?_
      refine lv_iload hx hb dL_law_34 (lv_at hl 4 rfl) ?_
      refine va_sld hx hb hX hbl hbA hW.2.2 hi0 dL_law_36 ?_
      refine lv_bipush (v := 31) hx hb dL_law_37 (by decide) ?_
      refine lv_iand hx hb dL_law_39 ?_
      obtain ⟨o9, ho9, eo9⟩ := pk_andE (xs x4.toNatClampNeg) (m := 31) 5 (by decide)
      rw [eo9]
      obtain ⟨h_word, h_reading, h_guess, h_readings, h_sure, h_seen, h_rule, h_equate, h_append, h_change, h_remove, h_length, h_wordAt, h_left, h_referent, h_edges, h_edge, h_edgeCost, h_cost, h_costAnew, h_faults, h_fault, h_fragments, h_fragment, h_mend, h_best, h_mendAll, h_reads, h_pattern, h_off, h_styleFaults, h_styleFault⟩ := hops j K M hRI (by omega)
      have kk : ∀ (K9 : Nat → Ob) (M9 : Ob) (g9 : Nat → Int64) (H : Heap) (locs : List Loc) (ls : Array Slot), RI (j + 1) K9 M9 → Wd D A s.heap (lw T ad am ao K9 M9 g9) H locs → lv_has ls 7 [(0, .ref b), (1, .ref (ad 0 0)), (2, .ref (am 0)), (3, .ref ao), (4, .int x4)] → LW p l e s m b below meth c H locs (cells + 1) (slots + 6) Q (F0 m 2470 ls []) := by
        intro K9 M9 g9 H locs ls hRI hW hl
        obtain ⟨x9, ex9⟩ : ∃ y : Int32, y = x4 + 7 := ⟨_, rfl⟩
        refine lv_iinc (v := x9) (lv' := [(4, .int x9), (0, .ref b), (1, .ref (ad 0 0)), (2, .ref (am 0)), (3, .ref ao)]) hx hb dL_law_2470 hl (k := 4) rfl (by rw [ex9]; rfl) (by decide) rfl (fun ls hl => ?_)
        refine lv_goto (tgt := 23) hx hb dL_law_2473 (by decide) ?_
        exact ih (i + 7) (j + 1) x9 K9 M9 g9 H locs (cells + 1) (slots + 6) ls (by omega) (by omega) hi7 (by rw [ex9, ex4, show (7 : Int32) = nI 7 from rfl, nI_add]) hRI (by omega) (by omega) hW (lv_sub hl [1, 2, 3, 4, 0] rfl)
      have hd : o9 = 0 ∨ o9 = 1 ∨ o9 = 2 ∨ o9 = 3 ∨ o9 = 4 ∨ o9 = 5 ∨ o9 = 6 ∨ o9 = 7 ∨ o9 = 8 ∨ o9 = 9 ∨ o9 = 10 ∨ o9 = 11 ∨ o9 = 12 ∨ o9 = 13 ∨ o9 = 14 ∨ o9 = 15 ∨ o9 = 16 ∨ o9 = 17 ∨ o9 = 18 ∨ o9 = 19 ∨ o9 = 20 ∨ o9 = 21 ∨ o9 = 22 ∨ o9 = 23 ∨ o9 = 24 ∨ o9 = 25 ∨ o9 = 26 ∨ o9 = 27 ∨ o9 = 28 ∨ o9 = 29 ∨ o9 = 30 ∨ o9 = 31 := by omega
      rcases hd with rfl | rfl | rfl | rfl | rfl | rfl | rfl | rfl | rfl | rfl | rfl | rfl | rfl | rfl | rfl | rfl | rfl | rfl | rfl | rfl | rfl | rfl | rfl | rfl | rfl | rfl | rfl | rfl | rfl | rfl | rfl | rfl
      · refine lv_tableIn (tgt := 184) hx hb dL_law_40 (by decide) (by decide) rfl (by decide) ?_
        exact law_word C0 (h_word _) (by omega) ex4 (by omega) (by omega) hW hl kk
      · refine lv_tableIn (tgt := 240) hx hb dL_law_40 (by decide) (by decide) rfl (by decide) ?_
        exact law_reading C0 (h_reading _ _ _ _ _ _) (by omega) ex4 (by omega) (by omega) hW hl kk
      · refine lv_tableIn (tgt := 358) hx hb dL_law_40 (by decide) (by decide) rfl (by decide) ?_
        exact law_guess C0 (h_guess _ _ _ _ _) (by omega) ex4 (by omega) (by omega) hW hl kk
      · refine lv_tableIn (tgt := 462) hx hb dL_law_40 (by decide) (by decide) rfl (by decide) ?_
        exact law_readings C0 (h_readings _) (by omega) ex4 (by omega) (by omega) hW hl kk
      · refine lv_tableIn (tgt := 518) hx hb dL_law_40 (by decide) (by decide) rfl (by decide) ?_
        exact law_sure C0 (h_sure _ _ _) (by omega) ex4 (by omega) (by omega) hW hl kk
      · refine lv_tableIn (tgt := 598) hx hb dL_law_40 (by decide) (by decide) rfl (by decide) ?_
        exact law_seen C0 (h_seen _ _ _ _) (by omega) ex4 (by omega) (by omega) hW hl kk
      · refine lv_tableIn (tgt := 690) hx hb dL_law_40 (by decide) (by decide) rfl (by decide) ?_
        exact law_rule C0 (h_rule _ _ _ _) (by omega) ex4 (by omega) (by omega) hW hl kk
      · refine lv_tableIn (tgt := 782) hx hb dL_law_40 (by decide) (by decide) rfl (by decide) ?_
        exact law_equate C0 (h_equate _ _ _ _ _) (by omega) ex4 (by omega) (by omega) hW hl kk
      · refine lv_tableIn (tgt := 886) hx hb dL_law_40 (by decide) (by decide) rfl (by decide) ?_
        exact law_append C0 (h_append _ _) (by omega) ex4 (by omega) (by omega) hW hl kk
      · refine lv_tableIn (tgt := 954) hx hb dL_law_40 (by decide) (by decide) rfl (by decide) ?_
        exact law_change C0 (h_change _ _ _) (by omega) ex4 (by omega) (by omega) hW hl kk
      · refine lv_tableIn (tgt := 1034) hx hb dL_law_40 (by decide) (by decide) rfl (by decide) ?_
        exact law_remove C0 (h_remove _ _) (by omega) ex4 (by omega) (by omega) hW hl kk
      · refine lv_tableIn (tgt := 1102) hx hb dL_law_40 (by decide) (by decide) rfl (by decide) ?_
        exact law_length C0 (h_length _) (by omega) ex4 (by omega) (by omega) hW hl kk
      · refine lv_tableIn (tgt := 1158) hx hb dL_law_40 (by decide) (by decide) rfl (by decide) ?_
        exact law_wordAt C0 (h_wordAt _ _) (by omega) ex4 (by omega) (by omega) hW hl kk
      · refine lv_tableIn (tgt := 1226) hx hb dL_law_40 (by decide) (by decide) rfl (by decide) ?_
        exact law_left C0 (h_left _ _) (by omega) ex4 (by omega) (by omega) hW hl kk
      · refine lv_tableIn (tgt := 1294) hx hb dL_law_40 (by decide) (by decide) rfl (by decide) ?_
        exact law_referent C0 (h_referent _ _) (by omega) ex4 (by omega) (by omega) hW hl kk
      · refine lv_tableIn (tgt := 1362) hx hb dL_law_40 (by decide) (by decide) rfl (by decide) ?_
        exact law_edges C0 (h_edges _ _ _) (by omega) ex4 (by omega) (by omega) hW hl kk
      · refine lv_tableIn (tgt := 1442) hx hb dL_law_40 (by decide) (by decide) rfl (by decide) ?_
        exact law_edge C0 (h_edge _ _ _ _) (by omega) ex4 (by omega) (by omega) hW hl kk
      · refine lv_tableIn (tgt := 1534) hx hb dL_law_40 (by decide) (by decide) rfl (by decide) ?_
        exact law_edgeCost C0 (h_edgeCost _ _ _ _) (by omega) ex4 (by omega) (by omega) hW hl kk
      · refine lv_tableIn (tgt := 1626) hx hb dL_law_40 (by decide) (by decide) rfl (by decide) ?_
        exact law_cost C0 (h_cost _) (by omega) ex4 (by omega) (by omega) hW hl kk
      · refine lv_tableIn (tgt := 1682) hx hb dL_law_40 (by decide) (by decide) rfl (by decide) ?_
        exact law_costAnew C0 (h_costAnew _) (by omega) ex4 (by omega) (by omega) hW hl kk
      · refine lv_tableIn (tgt := 1738) hx hb dL_law_40 (by decide) (by decide) rfl (by decide) ?_
        exact law_faults C0 (h_faults _) (by omega) ex4 (by omega) (by omega) hW hl kk
      · refine lv_tableIn (tgt := 1794) hx hb dL_law_40 (by decide) (by decide) rfl (by decide) ?_
        exact law_fault C0 (h_fault _ _) (by omega) ex4 (by omega) (by omega) hW hl kk
      · refine lv_tableIn (tgt := 1862) hx hb dL_law_40 (by decide) (by decide) rfl (by decide) ?_
        exact law_fragments C0 (h_fragments _) (by omega) ex4 (by omega) (by omega) hW hl kk
      · refine lv_tableIn (tgt := 1918) hx hb dL_law_40 (by decide) (by decide) rfl (by decide) ?_
        exact law_fragment C0 (h_fragment _ _) (by omega) ex4 (by omega) (by omega) hW hl kk
      · refine lv_tableIn (tgt := 1986) hx hb dL_law_40 (by decide) (by decide) rfl (by decide) ?_
        exact law_mend C0 (h_mend _ _) (by omega) ex4 (by omega) (by omega) hW hl kk
      · refine lv_tableIn (tgt := 2054) hx hb dL_law_40 (by decide) (by decide) rfl (by decide) ?_
        exact law_best C0 (h_best _) (by omega) ex4 (by omega) (by omega) hW hl kk
      · refine lv_tableIn (tgt := 2110) hx hb dL_law_40 (by decide) (by decide) rfl (by decide) ?_
        exact law_mendAll C0 (h_mendAll _) (by omega) ex4 (by omega) (by omega) hW hl kk
      · refine lv_tableIn (tgt := 2166) hx hb dL_law_40 (by decide) (by decide) rfl (by decide) ?_
        exact law_reads C0 (h_reads) (by omega) ex4 (by omega) (by omega) hW hl kk
      · refine lv_tableIn (tgt := 2179) hx hb dL_law_40 (by decide) (by decide) rfl (by decide) ?_
        exact law_pattern C0 (h_pattern _ _ _ _) (by omega) ex4 (by omega) (by omega) hW hl kk
      · refine lv_tableIn (tgt := 2271) hx hb dL_law_40 (by decide) (by decide) rfl (by decide) ?_
        exact law_off C0 (h_off _ _) (by omega) ex4 (by omega) (by omega) hW hl kk
      · refine lv_tableIn (tgt := 2346) hx hb dL_law_40 (by decide) (by decide) rfl (by decide) ?_
        exact law_styleFaults C0 (h_styleFaults _) (by omega) ex4 (by omega) (by omega) hW hl kk
      · refine lv_tableIn (tgt := 2402) hx hb dL_law_40 (by decide) (by decide) rfl (by decide) ?_
        exact law_styleFault C0 (h_styleFault _ _) (by omega) ex4 (by omega) (by omega) hW hl kk
end LAWLOOP
