theorem LCh_put {y z : Cy} {G : Ob} {ch : Ch} {n : Nat} (hx : LCh y G ch n) (hn : n < 64) (h8 : ∀ s, (ch s).length ≤ 8) {b0 w : Nat} (hw1 : 1 ≤ w) (hw3 : b0 + w ≤ 3) {t : Tr} {a : Nat} (ha : a < 8) {ls' : List Tr} (z6 : yc z 6 = iN (n + 1)) (zm : ∀ k, ym z k = if k = lsp b0 w then iN ls'.length else ym y k) (zb : ∀ k, yb z k = if k = 8 * lsp b0 w + a then iN n else yb y k) (ho : oldL n y z) (hT : LT z G t n) (ht : ls'.getD a dum = t) (hl : ∀ i, i < ls'.length → i ≠ a → i < (ch (6 * b0 + w - 1)).length ∧ ls'.getD i dum = (ch (6 * b0 + w - 1)).getD i dum) : LCh z G (upL ch (6 * b0 + w - 1) ls') (n + 1) := by
  obtain ⟨h6, h64, hxs⟩ := hx
  refine ⟨z6, hn, fun b1 w1 k1 k2 => ?_⟩
  by_cases e : lsp b1 w1 = lsp b0 w
  · obtain ⟨rfl, rfl⟩ := lsp_inj k1 k2 hw1 hw3 e
    obtain ⟨hm, hb⟩ := hxs b1 w1 k1 k2
    rw [zm, if_pos rfl, upL, if_pos rfl]
    refine ⟨rfl, fun i hi => ?_⟩
    by_cases ei : i = a
    · subst ei
      exact ⟨n, by omega, by rw [zb, if_pos rfl], by rw [ht]; exact hT⟩
    · obtain ⟨l1, l2⟩ := hl i hi ei
      obtain ⟨d, d1, d2, d3⟩ := hb i l1
      exact ⟨d, by omega, by rw [zb, if_neg (by omega)]; exact d2, by rw [l2]; exact LT_mono ho _ _ d1 d3⟩
  · obtain ⟨hm, hb⟩ := hxs b1 w1 k1 k2
    have e2 : 6 * b1 + w1 - 1 ≠ 6 * b0 + w - 1 := by
      intro h
      obtain ⟨rfl, rfl⟩ := sp_inj k1 (by omega) hw1 (by omega) h
      exact e rfl
    have hs1 := lsp_lt k1 k2
    have hl8 := h8 (6 * b1 + w1 - 1)
    rw [zm, if_neg e, upL, if_neg e2]
    refine ⟨hm, fun i hi => ?_⟩
    obtain ⟨d, d1, d2, d3⟩ := hb i hi
    exact ⟨d, by omega, by rw [zb, if_neg (by omega)]; exact d2, LT_mono ho _ _ d1 d3⟩
def LPost (G : Ob) (ch : Ch) (s : Nat) (t : Tr) (n : Nat) (y z : Cy) : Prop := ∃ ch' n', n ≤ n' ∧ n' ≤ n + 1 ∧ LCh z G ch' n' ∧ (ch' = addE G ch s t ∨ ch' = ch) ∧ (yc z 7 = iN 0 → yc y 7 = iN 0 ∧ ch' = addE G ch s t) ∧ (∀ k, k ≠ 6 → k ≠ 7 → yc z k = yc y k) ∧ oldL n y z
theorem getD_set_eq {l : List Tr} {i : Nat} {t : Tr} (h : i < l.length) : (l.set i t).getD i dum = t := by
  rw [List.getD_eq_getElem?_getD, List.getElem?_set_self h]; rfl
theorem getD_set_ne {l : List Tr} {i j : Nat} {t : Tr} (h : j ≠ i) : (l.set i t).getD j dum = l.getD j dum := by
  rw [List.getD_eq_getElem?_getD, List.getD_eq_getElem?_getD, List.getElem?_set_ne (fun e => h e.symm)]
theorem L_J135 {y : Cy} {G : Ob} {ch : Ch} {n : Nat} (hx : LCh y G ch n) {b0 w : Nat} (hw1 : 1 ≤ w) (hw3 : b0 + w ≤ 3) (h8 : ∀ s, (ch s).length ≤ 8) {t : Tr} {fr : Nat} (hMC : ∀ z : Cy, ye z n = iN (1000 * nn (tC G t) + dec (tF G t)) → yj z n = tK G t → ya z n = iN fr → oldL n y z → LT z G t n) {A : Nat} {ls' : List Tr} (hA8 : A < 8) (hadd : addE G ch (6 * b0 + w - 1) t = upL ch (6 * b0 + w - 1) ls') (hlen : ls'.length = (ch (6 * b0 + w - 1)).length + (if A = (ch (6 * b0 + w - 1)).length then 1 else 0)) (hget : ls'.getD A dum = t) (hrest : ∀ i, i < ls'.length → i ≠ A → i < (ch (6 * b0 + w - 1)).length ∧ ls'.getD i dum = (ch (6 * b0 + w - 1)).getD i dum) (hn : n < 64) (x : Nat) (hxx : x = (if A = (ch (6 * b0 + w - 1)).length then 1 else 0)) : wp (f_L_lays_J135 (yc y) (ye y) (yj y) (ya y) (yb y) (ym y) (iN (lsp b0 w)) (iN (1000 * nn (tC G t) + dec (tF G t))) (tK G t) (iN fr) (iN A) (iN (lsp b0 w)) (iN (ch (6 * b0 + w - 1)).length) (iN x)) (fun z => LPost G ch (6 * b0 + w - 1) t n y z) := by
  have hs := lsp_lt hw1 hw3
  have hl8 := h8 (6 * b0 + w - 1)
  have h6 := hx.1
  simp (disch := omega) only [f_L_lays_J135, ↓nM_lit, iN_lit, iN_add, iN_mul, iN_lt, iN_le, iN_eq, iN_c, gd_iN, iN_nM, nM_iN, iN_ltM, nM_lt, nM_le, iN_leM, iN_0M, nM_p1, iN_0s1, decide_true, decide_eq_true_eq, Nat.not_lt_zero, if_true, if_false, wp_some, wp_grd, wp_lb, wp_ite, wp_b1, wp_b2, wp_b3, wp_b4, wp_b5, eq_grd, eq_lb, eq_b1, eq_b2, eq_b3, eq_b4, eq_b5, h6, hs, hn, show 8 * lsp b0 w + A < 48 by omega, true_and]
  have ho : oldL n y (upd (yc y) 6 (iN (n + 1)), upd (ye y) n (iN (1000 * nn (tC G t) + dec (tF G t))), upd (yj y) n (tK G t), upd (ya y) n (iN fr), upd (yb y) (8 * lsp b0 w + A) (iN n), upd (ym y) (lsp b0 w) (iN ((ch (6 * b0 + w - 1)).length + x))) := fun i hi => ⟨upd_ne (by omega), upd_ne (by omega), upd_ne (by omega)⟩
  refine ⟨upL ch (6 * b0 + w - 1) ls', n + 1, by omega, Nat.le_refl _, ?_, Or.inl hadd.symm, fun h7 => ⟨?_, hadd.symm⟩, fun k k1 k2 => upd_ne k1, ho⟩
  · refine LCh_put hx hn h8 hw1 hw3 hA8 (show upd (yc y) 6 (iN (n + 1)) 6 = iN (n + 1) from upd_eq _ _ _) (fun k => ?_) (fun k => rfl) ho (hMC _ (show upd (ye y) n (iN (1000 * nn (tC G t) + dec (tF G t))) n = iN (1000 * nn (tC G t) + dec (tF G t)) from upd_eq _ _ _) (show upd (yj y) n (tK G t) n = tK G t from upd_eq _ _ _) (show upd (ya y) n (iN fr) n = iN fr from upd_eq _ _ _) ho) hget hrest
    rw [hlen, ← hxx]; rfl
  · have h7' : upd (yc y) 6 (iN (n + 1)) 7 = iN 0 := h7
    rw [upd_ne (by decide)] at h7'
    exact h7'
theorem J99_64 {y : Cy} {G : Ob} {ch : Ch} {s0 : Nat} {t : Tr} (hx : LCh y G ch 64) (a9 b9 k9 d9 e9 : Int32) : wp (f_L_lays_J99 (yc y) (ye y) (yj y) (ya y) (yb y) (ym y) a9 b9 k9 d9 e9) (fun z => LPost G ch s0 t 64 y z) := by
  obtain ⟨h6, h64, hxs⟩ := id hx
  have e : f_L_lays_J99 (yc y) (ye y) (yj y) (ya y) (yb y) (ym y) a9 b9 k9 d9 e9 = some (upd (yc y) 7 (iN 1), ye y, yj y, ya y, yb y, ym y) := by
    simp (disch := omega) only [f_L_lays_J99, ↓nM_lit, iN_lit, iN_add, iN_mul, iN_lt, iN_le, iN_eq, iN_c, gd_iN, iN_nM, nM_iN, iN_ltM, nM_lt, nM_le, iN_leM, iN_0M, nM_p1, iN_0s1, decide_true, decide_eq_true_eq, Nat.not_lt_zero, if_true, if_false, eq_grd, eq_lb, eq_b1, eq_b2, eq_b3, eq_b4, eq_b5, h6]
  refine ⟨_, e, ch, 64, Nat.le_refl _, Nat.le_succ _, ⟨?_, Nat.le_refl _, ?_⟩, Or.inr rfl, fun h7 => ?_, fun k k1 k2 => ?_, fun _ _ => ⟨rfl, rfl, rfl⟩⟩
  · show upd (yc y) 7 (iN 1) 6 = iN 64
    rw [upd_ne (by decide)]; exact h6
  · intro b1 w1 k1 k2
    obtain ⟨g1, g2⟩ := hxs b1 w1 k1 k2
    refine ⟨g1, fun i hi => ?_⟩
    obtain ⟨d, d1, d2, d3⟩ := g2 i hi
    exact ⟨d, d1, d2, LT_mono (n := 64) (y := y) (z := (upd (yc y) 7 (iN 1), ye y, yj y, ya y, yb y, ym y)) (fun _ _ => ⟨rfl, rfl, rfl⟩) _ _ d1 d3⟩
  · exfalso
    have h7' : upd (yc y) 7 (iN 1) 7 = iN 0 := h7
    rw [upd_eq] at h7'
    exact absurd h7' (by decide)
  · show upd (yc y) 7 (iN 1) k = _
    rw [upd_ne k2]
theorem L_J99 {y : Cy} {G : Ob} {ch : Ch} {n : Nat} (hx : LCh y G ch n) {b0 w : Nat} (hw1 : 1 ≤ w) (hw3 : b0 + w ≤ 3) (h8 : ∀ s, (ch s).length ≤ 8) {t : Tr} {fr : Nat} (hMC : ∀ z : Cy, ye z n = iN (1000 * nn (tC G t) + dec (tF G t)) → yj z n = tK G t → ya z n = iN fr → oldL n y z → LT z G t n) {A : Nat} {ls' : List Tr} (hA8 : A < 8) (hadd : addE G ch (6 * b0 + w - 1) t = upL ch (6 * b0 + w - 1) ls') (hlen : ls'.length = (ch (6 * b0 + w - 1)).length + (if A = (ch (6 * b0 + w - 1)).length then 1 else 0)) (hget : ls'.getD A dum = t) (hrest : ∀ i, i < ls'.length → i ≠ A → i < (ch (6 * b0 + w - 1)).length ∧ ls'.getD i dum = (ch (6 * b0 + w - 1)).getD i dum) : wp (f_L_lays_J99 (yc y) (ye y) (yj y) (ya y) (yb y) (ym y) (iN (lsp b0 w)) (iN (1000 * nn (tC G t) + dec (tF G t))) (tK G t) (iN fr) (iN A)) (fun z => LPost G ch (6 * b0 + w - 1) t n y z) := by
  have hs := lsp_lt hw1 hw3
  have hl8 := h8 (6 * b0 + w - 1)
  obtain ⟨h6, h64, hxs⟩ := id hx
  obtain ⟨hm, hb⟩ := hxs b0 w hw1 hw3
  by_cases hn64 : n = 64
  · subst hn64
    exact J99_64 hx _ _ _ _ _
  · have hn : n < 64 := by omega
    have key := L_J135 hx hw1 hw3 h8 hMC hA8 hadd hlen hget hrest hn _ rfl
    obtain ⟨r, er, hr⟩ := key
    refine ⟨r, ?_, hr⟩
    rw [← er]
    have q64 : ¬ (iN n = iN 64) := by rw [iN_eq (by omega) (by omega)]; exact hn64
    have g1 : gd (iN (lsp b0 w)) 6 = true := by rw [gd_iN (by omega)]; exact decide_eq_true hs
    have e1 : (iN (lsp b0 w)).toNatClampNeg = lsp b0 w := iN_c (by omega)
    unfold f_L_lays_J99
    rw [show (yc y (6 : Int32).toNatClampNeg) = iN n from h6, show (64 : Int32) = iN 64 from rfl, if_neg q64, g1, eq_grd, eq_grd, e1, hm]
    by_cases hl : A = (ch (6 * b0 + w - 1)).length
    · have q : iN A = iN (ch (6 * b0 + w - 1)).length := by rw [hl]
      rw [if_pos q, if_pos hl]; rfl
    · have q : ¬ (iN A = iN (ch (6 * b0 + w - 1)).length) := by rw [iN_eq (by omega) (by omega)]; exact hl
      rw [if_neg q, if_neg hl]; rfl
theorem L_put {y : Cy} {G : Ob} {ch : Ch} {n : Nat} (hx : LCh y G ch n) (hG : WGr G) {b0 w : Nat} (hw1 : 1 ≤ w) (hw3 : b0 + w ≤ 3) (h8 : ∀ s, (ch s).length ≤ 8) (hw : ∀ t, t ∈ ch (6 * b0 + w - 1) → WT G t) {t : Tr} (htC : ∃ c, c ≤ 9 ∧ tC G t = iN c) (htF : tF G t < 64) {fr : Nat} (hMC : ∀ z : Cy, ye z n = iN (1000 * nn (tC G t) + dec (tF G t)) → yj z n = tK G t → ya z n = iN fr → oldL n y z → LT z G t n) :
    wp (f_L_lays (yc y) (ye y) (yj y) (ya y) (yb y) (ym y) (iN (lsp b0 w)) (iN (1000 * nn (tC G t) + dec (tF G t))) (tK G t) (iN fr)) (fun z => LPost G ch (6 * b0 + w - 1) t n y z) := by
  have hs := lsp_lt hw1 hw3
  have hl8 := h8 (6 * b0 + w - 1)
  obtain ⟨h6, h64, hxs⟩ := id hx
  obtain ⟨hm, hb⟩ := hxs b0 w hw1 hw3
  obtain ⟨r, er, hr⟩ := L_find hx hG hw1 hw3 hl8 hw htC htF (tK G t) (iN fr)
  have hadle : adI G ch (6 * b0 + w - 1) t ≤ (ch (6 * b0 + w - 1)).length := List.findIdx_le_length
  have hsame : ch = addE G ch (6 * b0 + w - 1) t → LPost G ch (6 * b0 + w - 1) t n y y := fun h => ⟨ch, n, Nat.le_refl _, by omega, hx, Or.inr rfl, fun h7 => ⟨h7, h⟩, fun _ _ _ => rfl, oldL_r⟩
  generalize hA : adI G ch (6 * b0 + w - 1) t = A at *
  obtain ⟨r1, r2⟩ := r
  simp only at hr
  subst hr
  by_cases hA8 : A = 8
  · have hlen : (ch (6 * b0 + w - 1)).length = 8 := by omega
    have hadd : addE G ch (6 * b0 + w - 1) t = ch := by rw [addE, hA, if_neg (by omega), if_pos hlen]
    simp (disch := omega) only [f_L_lays, ↓nM_lit, iN_lit, iN_add, iN_mul, iN_lt, iN_le, iN_eq, iN_c, gd_iN, iN_nM, nM_iN, iN_ltM, nM_lt, nM_le, iN_leM, iN_0M, nM_p1, iN_0s1, decide_true, decide_eq_true_eq, Nat.not_lt_zero, if_true, if_false, wp_some, wp_grd, wp_lb, wp_ite, wp_b1, wp_b2, wp_b3, wp_b4, wp_b5, eq_grd, eq_lb, eq_b1, eq_b2, eq_b3, eq_b4, eq_b5, hs, hm, er, hA8, true_and]
    exact hsame hadd.symm
  · by_cases hl : A = (ch (6 * b0 + w - 1)).length
    · have := L_J99 (fr := fr) hx hw1 hw3 h8 hMC (A := A) (ls' := ch (6 * b0 + w - 1) ++ [t]) (by omega) (by rw [addE, hA, if_neg (by omega), if_neg (by omega)]) (by rw [if_pos hl, List.length_append]; rfl) (by rw [hl]; exact getD_last _ _ _) (by
        intro i hi hne
        rw [List.length_append] at hi
        have hi2 : i < (ch (6 * b0 + w - 1)).length := by
          have : ([t] : List Tr).length = 1 := rfl
          omega
        exact ⟨hi2, getD_init hi2⟩)
      simp (disch := omega) only [f_L_lays, ↓nM_lit, iN_lit, iN_add, iN_mul, iN_lt, iN_le, iN_eq, iN_c, gd_iN, iN_nM, nM_iN, iN_ltM, nM_lt, nM_le, iN_leM, iN_0M, nM_p1, iN_0s1, decide_true, decide_eq_true_eq, Nat.not_lt_zero, if_true, if_false, wp_some, wp_grd, wp_lb, wp_ite, wp_b1, wp_b2, wp_b3, wp_b4, wp_b5, eq_grd, eq_lb, eq_b1, eq_b2, eq_b3, eq_b4, eq_b5, hs, hm, er, hA8, show (ch (6 * b0 + w - 1)).length ≤ A by omega, true_and]
      exact this
    · have hlt : A < (ch (6 * b0 + w - 1)).length := by omega
      obtain ⟨d, d1, d2, d3⟩ := hb A hlt
      have ejd := (LT_2 d3).2
      by_cases hk : tK G t < tK G ((ch (6 * b0 + w - 1)).getD A dum)
      · have := L_J99 (fr := fr) hx hw1 hw3 h8 hMC (A := A) (ls' := (ch (6 * b0 + w - 1)).set A t) (by omega) (by rw [addE, hA, if_pos hlt, if_pos hk]) (by rw [if_neg hl, List.length_set, Nat.add_zero]) (getD_set_eq hlt) (by
          intro i hi hne
          rw [List.length_set] at hi
          exact ⟨hi, getD_set_ne hne⟩)
        simp (disch := omega) only [f_L_lays, ↓nM_lit, iN_lit, iN_add, iN_mul, iN_lt, iN_le, iN_eq, iN_c, gd_iN, iN_nM, nM_iN, iN_ltM, nM_lt, nM_le, iN_leM, iN_0M, nM_p1, iN_0s1, decide_true, decide_eq_true_eq, Nat.not_lt_zero, if_true, if_false, wp_some, wp_grd, wp_lb, wp_ite, wp_b1, wp_b2, wp_b3, wp_b4, wp_b5, eq_grd, eq_lb, eq_b1, eq_b2, eq_b3, eq_b4, eq_b5, hs, hm, er, hA8, show ¬ ((ch (6 * b0 + w - 1)).length ≤ A) by omega, show 8 * lsp b0 w + A < 48 by omega, d2, show d < 64 by omega, ejd, hk, true_and]
        exact this
      · simp (disch := omega) only [f_L_lays, ↓nM_lit, iN_lit, iN_add, iN_mul, iN_lt, iN_le, iN_eq, iN_c, gd_iN, iN_nM, nM_iN, iN_ltM, nM_lt, nM_le, iN_leM, iN_0M, nM_p1, iN_0s1, decide_true, decide_eq_true_eq, Nat.not_lt_zero, if_true, if_false, wp_some, wp_grd, wp_lb, wp_ite, wp_b1, wp_b2, wp_b3, wp_b4, wp_b5, eq_grd, eq_lb, eq_b1, eq_b2, eq_b3, eq_b4, eq_b5, hs, hm, er, hA8, show ¬ ((ch (6 * b0 + w - 1)).length ≤ A) by omega, show 8 * lsp b0 w + A < 48 by omega, d2, show d < 64 by omega, ejd, hk, true_and]
        refine hsame ?_
        rw [addE, hA, if_pos hlt, if_neg hk]
