theorem RI_K0 : RI 0 K0 zX11 := by
  refine RI_00 ?_ ?_ ?_ ?_
  · intro k h1 h2 i n
    have : K0 k = z0 := by unfold K0; rw [if_neg h1, if_neg h2]
    rw [this]; rfl
  · intro k h1 h2 i n
    have : K0 k = zX6 := by unfold K0; rw [if_neg (by omega), if_pos ⟨h1, by omega⟩]
    rw [this]; rfl
  · intro k hk n
    have : zX11 k = z0 k := by
      unfold zX11
      rw [upo_ne hk, upo_ne hk, upo_ne hk, upo_ne hk]
    rw [this]; rfl
  · intro s hs
    match s, hs with
    | 0, _ => first | rfl | decide
    | 1, _ => first | rfl | decide
    | 2, _ => first | rfl | decide
    | 3, _ => first | rfl | decide
set_option maxHeartbeats 8000000 in
set_option maxRecDepth 100000 in
/-- from the entry, for every script of at most 3584 ints -/
theorem whole_start {p : Program} {e : Env} {s : State} {m : MethodId} {below : List Frame} {meth : Method} {c : Code} (l : Launch) (hflags : l.flags = flags0) {b L : Nat} {xs : Nat → Int32} (hL : L ≤ 3584) (C0 : lw_At p s m meth c b L xs) : W p l e room_1 s m #[Value.ref b] below meth c s.heap [] 0 0 (lw_Z below #[Value.ref b] s) (entryFrame m ([Value.ref b] : List Value).toArray 7) := by
  obtain ⟨hx, hb, hr, hml, hown0, hts0, hX, hbl, hlocks, hgv⟩ := id C0
  have hown : s.vm.findClass RL = some m.cls := hown0
  have hts : ∀ w ∈ wsL_law, w.before #[Value.ref b] s = true := fun w h => hts0 w (in_wsL w h)
  obtain ⟨A, eA⟩ : ∃ A : Nat → Prop, A = fun q : Nat => s.heap.size ≤ q := ⟨_, rfl⟩
  have hA : ∀ q : Nat, s.heap.size ≤ q → A q := fun q h => by rw [eA]; exact h
  have hAb : ∀ q : Nat, A q → s.heap.size ≤ q := fun q h => by rw [eA] at h; exact h
  have hbA : ¬ A b := fun h => Nat.not_le.mpr hbl (hAb b h)
  obtain ⟨D, T, hK⟩ := st_K hts0
  have hN : NN s := st_NN hts0
  have hO : va_AO RX6 s := va_AO.of (st_oth hts0).2.2.2.1
  have hC : NC s := st_NC hgv
  have hE : EX A s s.heap := st_EX hts0 hgv (fun a h1 h2 => absurd h1 (Nat.not_lt.mpr (hAb a h2)))
  have hfl : l.stackTraces = false := by
    have h0 : l.stackTraces = !l.flags.contains Jvm.noTraceFlag := rfl
    rw [h0, hflags]; decide +kernel
  have hW : Wd D A s.heap [] s.heap [] := ⟨fun k q h => by simp at h, ⟨fun i j p q h => by simp at h, fun k q h => by simp at h⟩, va_S.rf⟩
  have hl := lv_entry ([.ref b]) (n := 7) (Nat.le_of_ble_eq_true rfl)
  rw [lg_entry_eq]
  generalize (lg_sl ([.ref b]) ++ List.replicate (7 - (lg_sl ([.ref b])).length) Slot.unset).toArray = ls at hl ⊢
  have hl : lv_has ls 7 [(0, .ref b)] := hl
  refine va_new (ci := 10) (fs := [.null, .null, .null, .null, .null, .null, .null, .null, .null, .null, .null, .null, .int 0]) (C := RX10) (T := TX10) (N := 13) hx hb hts inlX10 tyX10 tyX10_ok hown (hts _ wm1_0) (hts _ wm1_1) (hts _ wm1_2) hK hW.1 hW.2.1 hW.2.2 hA rfl (fun j hj => by rcases (show j = 0 ∨ j = 1 ∨ j = 2 ∨ j = 3 ∨ j = 4 ∨ j = 5 ∨ j = 6 ∨ j = 7 ∨ j = 8 ∨ j = 9 ∨ j = 10 ∨ j = 11 ∨ j = 12 by omega) with rfl | rfl | rfl | rfl | rfl | rfl | rfl | rfl | rfl | rfl | rfl | rfl | rfl <;> rfl) (Nat.le_of_ble_eq_true rfl) (Nat.le_of_ble_eq_true rfl) dL_law_0 (fun q0 H hP hD hS => ?_)
  have hW : Wd D A s.heap ((q0, .inr (10, [.null, .null, .null, .null, .null, .null, .null, .null, .null, .null, .null, .null, .int 0])) :: []) H [] := ⟨hP.perm (List.perm_append_singleton _ _), hD.perm (List.perm_append_singleton _ _), hS⟩
  refine lv_dup hx hb dL_law_3 rfl ?_
  refine n_init10 hx hb hml hown hts hK hN hO hA hW (i_X10 l D T A q0 []) wm1_7 wm1_8 wm1_2 wm1_9 rfl ⟨by decide +kernel, by decide +kernel, by decide +kernel⟩ ⟨Nat.le_of_ble_eq_true rfl, Nat.le_of_ble_eq_true rfl⟩ hl.1 (Nat.le_of_ble_eq_true rfl) dL_law_4 ⟨Nat.le_of_ble_eq_true rfl, Nat.le_of_ble_eq_true rfl⟩ (fun ad H locs had hW => ?_)
  obtain ⟨hok, e0⟩ := had
  refine lv_astore_n (lv' := [(1, .ref q0), (0, .ref b)]) hx hb dL_law_7 rfl hl (by decide) rfl (fun ls hl => ?_)
  have hW : Wd D A s.heap (oc_X10 T (ad 0) (bb ad) (K0 0) ++ (wkL T ad K0 L18 ++ [])) H locs := hW
  refine va_new (ci := 11) (fs := [.int 0, .null, .null, .null, .null, .null, .null, .null, .null, .null, .null, .null, .null, .null, .null, .int 0, .null, .null, .null, .null, .null, .int 0, .null, .null, .null, .null, .null, .null, .null, .null, .null, .int 0, .null, .null, .null, .null, .null, .null, .null, .null, .null, .null, .int 0, .int 0, .null, .null, .null, .int 0, .null, .null, .null, .null, .int 0, .int 0, .null, .null, .null, .null, .null, .int 0, .null, .null, .null, .null, .null, .null, .null, .int 0]) (C := RX11) (T := TX11) (N := 68) hx hb hts inlX11 tyX11 tyX11_ok hown (hts _ wm1_3) (hts _ wm1_4) (hts _ wm1_5) hK hW.1 hW.2.1 hW.2.2 hA rfl (fun j hj => by rcases (show j = 0 ∨ j = 1 ∨ j = 2 ∨ j = 3 ∨ j = 4 ∨ j = 5 ∨ j = 6 ∨ j = 7 ∨ j = 8 ∨ j = 9 ∨ j = 10 ∨ j = 11 ∨ j = 12 ∨ j = 13 ∨ j = 14 ∨ j = 15 ∨ j = 16 ∨ j = 17 ∨ j = 18 ∨ j = 19 ∨ j = 20 ∨ j = 21 ∨ j = 22 ∨ j = 23 ∨ j = 24 ∨ j = 25 ∨ j = 26 ∨ j = 27 ∨ j = 28 ∨ j = 29 ∨ j = 30 ∨ j = 31 ∨ j = 32 ∨ j = 33 ∨ j = 34 ∨ j = 35 ∨ j = 36 ∨ j = 37 ∨ j = 38 ∨ j = 39 ∨ j = 40 ∨ j = 41 ∨ j = 42 ∨ j = 43 ∨ j = 44 ∨ j = 45 ∨ j = 46 ∨ j = 47 ∨ j = 48 ∨ j = 49 ∨ j = 50 ∨ j = 51 ∨ j = 52 ∨ j = 53 ∨ j = 54 ∨ j = 55 ∨ j = 56 ∨ j = 57 ∨ j = 58 ∨ j = 59 ∨ j = 60 ∨ j = 61 ∨ j = 62 ∨ j = 63 ∨ j = 64 ∨ j = 65 ∨ j = 66 ∨ j = 67 by omega) with rfl | rfl | rfl | rfl | rfl | rfl | rfl | rfl | rfl | rfl | rfl | rfl | rfl | rfl | rfl | rfl | rfl | rfl | rfl | rfl | rfl | rfl | rfl | rfl | rfl | rfl | rfl | rfl | rfl | rfl | rfl | rfl | rfl | rfl | rfl | rfl | rfl | rfl | rfl | rfl | rfl | rfl | rfl | rfl | rfl | rfl | rfl | rfl | rfl | rfl | rfl | rfl | rfl | rfl | rfl | rfl | rfl | rfl | rfl | rfl | rfl | rfl | rfl | rfl | rfl | rfl | rfl | rfl <;> rfl) (Nat.le_of_ble_eq_true rfl) (Nat.le_of_ble_eq_true rfl) dL_law_8 (fun q1 H hP hD hS => ?_)
  have hW : Wd D A s.heap ((q1, .inr (11, [.int 0, .null, .null, .null, .null, .null, .null, .null, .null, .null, .null, .null, .null, .null, .null, .int 0, .null, .null, .null, .null, .null, .int 0, .null, .null, .null, .null, .null, .null, .null, .null, .null, .int 0, .null, .null, .null, .null, .null, .null, .null, .null, .null, .null, .int 0, .int 0, .null, .null, .null, .int 0, .null, .null, .null, .null, .int 0, .int 0, .null, .null, .null, .null, .null, .int 0, .null, .null, .null, .null, .null, .null, .null, .int 0])) :: (oc_X10 T (ad 0) (bb ad) (K0 0) ++ (wkL T ad K0 L18 ++ []))) H locs := ⟨hP.perm (List.perm_append_singleton _ _), hD.perm (List.perm_append_singleton _ _), hS⟩
  refine lv_dup hx hb dL_law_11 rfl ?_
  refine n_initP hx hb hml hown hts hK hN hA hW (i_X11 l D T A q1 (oc_X10 T (ad 0) (bb ad) (K0 0) ++ (wkL T ad K0 L18 ++ []))) wm7_6 wm7_7 wm1_5 wm7_8 rfl ⟨by decide +kernel, by decide +kernel, by decide +kernel⟩ ⟨Nat.le_of_ble_eq_true rfl, Nat.le_of_ble_eq_true rfl⟩ hl.1 (Nat.le_of_ble_eq_true rfl) dL_law_12 ⟨Nat.le_of_ble_eq_true rfl, Nat.le_of_ble_eq_true rfl⟩ (fun am H locs ham hW => ?_)
  have e1 : am 0 = q1 := ham
  refine lv_astore_n (lv' := [(2, .ref q1), (1, .ref q0), (0, .ref b)]) hx hb dL_law_15 rfl hl (by decide) rfl (fun ls hl => ?_)
  refine lv_iconst (v := 1) hx hb dL_law_16 (by decide) ?_
  refine n_newl hx hb hts hK hA hW (Nat.le_of_ble_eq_true rfl) (Nat.le_of_ble_eq_true rfl) dL_law_17 (fun ao H hW => ?_)
  refine lv_astore_n (lv' := [(3, .ref ao), (2, .ref q1), (1, .ref q0), (0, .ref b)]) hx hb dL_law_19 rfl hl (by decide) rfl (fun ls hl => ?_)
  refine lv_iconst (v := 0) hx hb dL_law_20 (by decide) ?_
  refine lv_istore (lv' := [(4, .int 0), (3, .ref ao), (2, .ref q1), (1, .ref q0), (0, .ref b)]) hx hb dL_law_21 hl (by decide) rfl (fun ls hl => ?_)
  have hW : Wd D A s.heap (lw T ad am ao K0 zX11 (fun _ => 0)) H locs := by
    have hp : (outc T ao (fun _ => 0) ++ (oc_X11 T am zX11 ++ (oc_X10 T (ad 0) (bb ad) (K0 0) ++ (wkL T ad K0 L18 ++ [])))).Perm (lw T ad am ao K0 zX11 (fun _ => 0)) := by
      unfold lw
      refine List.Perm.append_left _ ?_
      rw [List.append_nil, List.append_nil, ← List.append_assoc (oc_X10 T (ad 0) (bb ad) (K0 0))]
      exact List.perm_append_comm
    exact ⟨hW.1.perm hp, hW.2.1.perm hp, hW.2.2⟩
  have C1 : LC p l s m c D T A b L xs ad := ⟨hx, hb, hml, hown, hts, hX, hbl, hbA, hL, hK, hN, hE, hC, hok, hfl⟩
  rw [← e0, ← e1] at hl
  refine law_loop ops_RI C1 (fun H locs cells slots ls K M g hW hc hs => ?_) (L + 1) 0 0 0 K0 zX11 (fun _ => 0) H locs _ _ ls rfl (by omega) (Nat.zero_le L) rfl RI_K0 ?_ ?_ hW (lv_sub hl [4, 3, 2, 1, 0] rfl)
  · refine va_forget (fun q hq => hAb _ (hW.2.2.2.2 q hq)) ?_
    exact W.widen (k := 601024) (n := 7293034) (by omega) (by omega) (lw_ret hx hb hr hlocks dL_law_2477)
  · exact Nat.le_of_ble_eq_true rfl
  · exact Nat.le_of_ble_eq_true rfl
