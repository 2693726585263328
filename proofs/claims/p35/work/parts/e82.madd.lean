/-! The reference's chart. -/
def MCb (M : Ob) (i : Nat) (c f k g a b s : Int32) : Prop := M 32 i = c ∧ M 33 i = f ∧ M 34 i = k ∧ M 35 i = g ∧ M 36 i = a ∧ M 37 i = b ∧ M 38 i = s
def MC (M G : Ob) : Tr → Nat → Prop
  | .leaf a, i => MCb M i a.2.2.1 (iN (dec a.2.2.2)) (iN 0) nM (iN a.1) (iN a.2.1) (iN (6 * a.1))
  | .branch g l r, i => ∃ il ir, MCb M i (G 22 g) (iN (dec (tF G (.branch g l r)))) (tK G (.branch g l r)) (iN g) (iN il) ir (iN (sp (.branch g l r))) ∧ il < i ∧ MC M G l il ∧ (G 24 g = nM → ir = nM) ∧ (G 24 g ≠ nM → ∃ q, q < i ∧ ir = iN q ∧ MC M G r q)
theorem MCb_cg {x x' : Ob} {i : Nat} {c f k g a b s : Int32} (h : ∀ k, 32 ≤ k → k ≤ 38 → x' k i = x k i) (hr : MCb x i c f k g a b s) : MCb x' i c f k g a b s := by
  unfold MCb
  rw [h 32 (by decide) (by decide), h 33 (by decide) (by decide), h 34 (by decide) (by decide), h 35 (by decide) (by decide), h 36 (by decide) (by decide), h 37 (by decide) (by decide), h 38 (by decide) (by decide)]
  exact hr
theorem MC_mono {x x' G : Ob} {n : Nat} (h : ∀ i, i < n → ∀ k, 32 ≤ k → k ≤ 38 → x' k i = x k i) : ∀ (t : Tr) (i : Nat), i < n → MC x G t i → MC x' G t i := by
  intro t
  induction t with
  | leaf a => intro i hi hm; exact MCb_cg (h i hi) hm
  | branch g l r ihl ihr =>
    intro i hi ⟨il, ir, h1, h2, h3, h4, h5⟩
    refine ⟨il, ir, MCb_cg (h i hi) h1, h2, ihl il (by omega) h3, h4, ?_⟩
    intro hu
    obtain ⟨q, q1, q2, q3⟩ := h5 hu
    exact ⟨q, q1, q2, ihr q (by omega) q3⟩
theorem MC_2 {M G : Ob} {t : Tr} {i : Nat} (h : MC M G t i) : M 32 i = tC G t ∧ M 33 i = iN (dec (tF G t)) ∧ M 34 i = tK G t := by
  cases t with
  | leaf a => obtain ⟨h2, h3, h4, -⟩ := h; exact ⟨h2, h3, h4⟩
  | branch g l r => obtain ⟨_, _, ⟨h2, h3, h4, -⟩, -⟩ := h; exact ⟨h2, h3, h4⟩
/-- the reference's rows hold a chart, with n edges made -/
def MCh (M G : Ob) (ch : Ch) (n : Nat) : Prop := M 31 0 = iN n ∧ ∀ s, s < 36 → M 39 s = iN (ch s).length ∧ ∀ i, i < (ch s).length → ∃ d, d < n ∧ M 40 (8 * s + i) = iN d ∧ MC M G ((ch s).getD i dum) d
theorem X11_find {M G : Ob} {ch : Ch} {n : Nat} (hx : MCh M G ch n) (hn : n < 40000) (hG : WGr G) {s : Nat} (hs : s < 36) (h8 : (ch s).length ≤ 8) (hw : ∀ t, t ∈ ch s → WT G t) {t : Tr} (htF : tF G t < 64) (k p5 p6 p7 : Int32) :
    f_X11_add_L18 200 M (iN s) (tC G t) (iN (dec (tF G t))) k p5 p6 p7 (iN (ch s).length) (iD (ch s).length) = some (iN (adI G ch s t), nM) := by
  obtain ⟨x1, xr⟩ := hx.2 s hs
  have hle : adI G ch s t ≤ (ch s).length := List.findIdx_le_length
  have hnot : ∀ i, i < adI G ch s t → al G t ((ch s).getD i dum) = false := by
    intro i hi
    have := List.not_of_lt_findIdx hi
    rw [List.getD_eq_getElem?_getD, List.getElem?_eq_getElem (by omega), Option.getD_some]
    exact this
  have hyes : adI G ch s t < (ch s).length → al G t ((ch s).getD (adI G ch s t) dum) = true := by
    intro h
    rw [List.getD_eq_getElem?_getD, List.getElem?_eq_getElem h, Option.getD_some]
    exact List.findIdx_getElem
  -- going down: the place is the first alike edge above, if it was passed
  have key : ∀ (d m : Nat) (v8 : Nat), d ≤ (ch s).length → d < m → (d ≤ adI G ch s t → v8 = adI G ch s t) → f_X11_add_L18 m M (iN s) (tC G t) (iN (dec (tF G t))) k p5 p6 p7 (iN v8) (iD d) = some (iN (adI G ch s t), nM) := by
    intro d
    induction d with
    | zero =>
      intro m v8 hd hm hv
      obtain ⟨m, rfl⟩ : ∃ m', m = m' + 1 := ⟨m - 1, by omega⟩
      rw [hv (Nat.zero_le _), iD_0, f_X11_add_L18, if_pos (by decide)]
    | succ d ih =>
      intro m v8 hd hm hv
      obtain ⟨m, rfl⟩ : ∃ m', m = m' + 1 := ⟨m - 1, by omega⟩
      have hlt : d < (ch s).length := by omega
      obtain ⟨e, he, e40, hM⟩ := xr d hlt
      obtain ⟨c2, c3, c4⟩ := MC_2 hM
      have h64 := tF_lt hG _ (hw _ (getD_mem hlt))
      have hal : al G t ((ch s).getD d dum) = (decide (tC G ((ch s).getD d dum) = tC G t) && decide (tF G ((ch s).getD d dum) = tF G t)) := rfl
      have stay : al G t ((ch s).getD d dum) = false → f_X11_add_L18 m M (iN s) (tC G t) (iN (dec (tF G t))) k p5 p6 p7 (iN v8) (iD d) = some (iN (adI G ch s t), nM) := by
        intro hf
        refine ih m v8 (by omega) (by omega) ?_
        intro h
        refine hv ?_
        by_cases hh : d = adI G ch s t
        · have := hyes (by omega)
          rw [← hh, hf] at this; cases this
        · omega
      rw [iD_s, f_X11_add_L18]
      by_cases hc : tC G ((ch s).getD d dum) = tC G t
      · by_cases hF : tF G ((ch s).getD d dum) = tF G t
        · have hi : adI G ch s t ≤ d := by
            by_cases h : adI G ch s t ≤ d
            · exact h
            · have := hnot d (by omega)
              rw [hal, hc, hF] at this; simp at this
          have := ih m d (by omega) (by omega) (fun h => by omega)
          simp (disch := omega) only [↓nM_lit, iN_lit, iN_add, iN_mul, iN_lt, iN_le, iN_eq, iN_c, gd_iN, iN_nM, nM_iN, iN_ltM, nM_lt, nM_le, iN_leM, iN_0M, nM_p1, iN_0s1, decide_true, decide_eq_true_eq, Nat.not_lt_zero, if_true, if_false, eq_grd, eq_lb, eq_b1, eq_b2, eq_b3, eq_b4, eq_b5, show 8 * s + d < 288 by omega, e40, show e < 40000 by omega, c2, c3, hc, hF, iD_pM, this]
        · have := stay (by rw [hal]; simp only [hc, hF, decide_true, decide_false, Bool.and_false])
          have hd := dec_inj h64 htF
          simp (disch := omega) only [↓nM_lit, iN_lit, iN_add, iN_mul, iN_lt, iN_le, iN_eq, iN_c, gd_iN, iN_nM, nM_iN, iN_ltM, nM_lt, nM_le, iN_leM, iN_0M, nM_p1, iN_0s1, decide_true, decide_eq_true_eq, Nat.not_lt_zero, if_true, if_false, eq_grd, eq_lb, eq_b1, eq_b2, eq_b3, eq_b4, eq_b5, show 8 * s + d < 288 by omega, e40, show e < 40000 by omega, c2, c3, hc, hd, hF, iD_pM, this]
      · have := stay (by rw [hal]; simp only [hc, decide_false, Bool.false_and])
        simp (disch := omega) only [↓nM_lit, iN_lit, iN_add, iN_mul, iN_lt, iN_le, iN_eq, iN_c, gd_iN, iN_nM, nM_iN, iN_ltM, nM_lt, nM_le, iN_leM, iN_0M, nM_p1, iN_0s1, decide_true, decide_eq_true_eq, Nat.not_lt_zero, if_true, if_false, eq_grd, eq_lb, eq_b1, eq_b2, eq_b3, eq_b4, eq_b5, show 8 * s + d < 288 by omega, e40, show e < 40000 by omega, c2, hc, iD_pM, this]
  exact key (ch s).length 200 (ch s).length (Nat.le_refl _) (by omega) (fun h => by omega)
def wrM (M : Ob) (n : Nat) (c f k g a b s : Int32) : Ob := upo (upo (upo (upo (upo (upo (upo M 32 n c) 33 n f) 34 n k) 35 n g) 36 n a) 37 n b) 38 n s
theorem X11_put {M G : Ob} {ch : Ch} {n : Nat} (hx : MCh M G ch n) (hn : n < 40000) (hG : WGr G) {s : Nat} (hs : s < 36) (hW : WCh G ch) {t : Tr} (htF : tF G t < 64) {p5 p6 p7 : Int32}
    (hMC : ∀ y, MCb y n (tC G t) (iN (dec (tF G t))) (tK G t) p5 p6 p7 (iN s) → (∀ u i, i < n → MC M G u i → MC y G u i) → MC y G t n) :
    wp (f_X11_add M (iN s) (tC G t) (iN (dec (tF G t))) (tK G t) p5 p6 p7) (fun y => ∃ n', n ≤ n' ∧ n' ≤ n + 1 ∧ MCh y G (addE G ch s t) n' ∧ (∀ k, (k < 31 ∨ 40 < k) → y k = M k) ∧ ∀ i, i < n → ∀ k, 32 ≤ k → k ≤ 38 → y k i = M k i) := by
  obtain ⟨e31, hx2⟩ := id hx
  obtain ⟨x1, xr⟩ := hx2 s hs
  have h8 := hW.2 s
  have hle : adI G ch s t ≤ (ch s).length := List.findIdx_le_length
  have hfind := X11_find hx hn hG hs h8 (fun t ht => (hW.1 s t ht).1) htF (tK G t) p5 p6 p7
  have eD : iN (ch s).length - iN 1 = iD (ch s).length := rfl
  have put : ∀ (v8 : Nat) (b : Nat), (v8 < (ch s).length ∧ b = 0 ∧ addE G ch s t = upL ch s ((ch s).set v8 t)) ∨ (v8 = (ch s).length ∧ v8 < 8 ∧ b = 1 ∧ addE G ch s t = upL ch s (ch s ++ [t])) →
      wp (f_X11_add_J130 M (iN s) (tC G t) (iN (dec (tF G t))) (tK G t) p5 p6 p7 (iN v8) (iN b)) (fun y => ∃ n', n ≤ n' ∧ n' ≤ n + 1 ∧ MCh y G (addE G ch s t) n' ∧ (∀ k, (k < 31 ∨ 40 < k) → y k = M k) ∧ ∀ i, i < n → ∀ k, 32 ≤ k → k ≤ 38 → y k i = M k i) := by
    intro v8 b hc
    have hv8 : v8 < 8 := by rcases hc with ⟨h, -⟩ | ⟨h, h', -⟩ <;> omega
    have q31 : ∀ (k : Nat) (z : Ob) (v : Int32) (i : Nat), k ≠ 31 → upo z k i v 31 0 = z 31 0 := fun k z v i h => by rw [upo_ne (Ne.symm h)]
    have q39 : ∀ (k : Nat) (z : Ob) (v : Int32) (i j : Nat), k ≠ 39 → upo z k i v 39 j = z 39 j := fun k z v i j h => by rw [upo_ne (Ne.symm h)]
    simp (disch := omega) only [f_X11_add_J130, q31, q39, e31, x1, ↓nM_lit, iN_lit, iN_add, iN_mul, iN_lt, iN_le, iN_eq, iN_c, gd_iN, iN_nM, nM_iN, iN_ltM, nM_lt, nM_le, iN_leM, iN_0M, nM_p1, iN_0s1, decide_true, decide_eq_true_eq, Nat.not_lt_zero, if_true, if_false, wp_some, wp_grd, wp_lb, wp_ite, wp_b1, wp_b2, wp_b3, wp_b4, wp_b5, eq_grd, eq_lb, eq_b1, eq_b2, eq_b3, eq_b4, eq_b5, hn, hs, show 8 * s + v8 < 288 by omega, true_and]
    have fin : ∀ y, y = upo (upo (upo (wrM M n (tC G t) (iN (dec (tF G t))) (tK G t) p5 p6 p7 (iN s)) 40 (8 * s + v8) (iN n)) 39 s (iN ((ch s).length + b))) 31 0 (iN (n + 1)) → MCh y G (addE G ch s t) (n + 1) ∧ (∀ k, (k < 31 ∨ 40 < k) → y k = M k) ∧ ∀ i, i < n → ∀ k, 32 ≤ k → k ≤ 38 → y k i = M k i := by
      intro y hy
      have hag : ∀ i, i < n → ∀ k, 32 ≤ k → k ≤ 38 → y k i = M k i := by
        intro i hi k k1 k2
        rw [hy]
        simp only [wrM, upo_ap, show ¬ (i = n) by omega, show ¬ (k = 31) by omega, show ¬ (k = 39) by omega, show ¬ (k = 40) by omega, false_and, and_false, if_false]
      have hmono := MC_mono (G := G) hag
      have hself : MC y G t n := by
        refine hMC y ?_ (fun u i hi hu => hmono u i hi hu)
        rw [hy]; unfold MCb wrM; simp [upo_ap]
      have y40 : ∀ j, y 40 j = if j = 8 * s + v8 then iN n else M 40 j := by
        intro j; rw [hy]; simp [wrM, upo_ap]
      have y39 : ∀ j, y 39 j = if j = s then iN ((ch s).length + b) else M 39 j := by
        intro j; rw [hy]; simp [wrM, upo_ap]
      refine ⟨⟨?_, ?_⟩, ?_, hag⟩
      · rw [hy, upo_ap, if_pos ⟨rfl, rfl⟩]
      · intro s' hs'
        rw [y39]
        have old : ∀ i, i < (ch s').length → 8 * s' + i ≠ 8 * s + v8 → ∃ d, d < n + 1 ∧ y 40 (8 * s' + i) = iN d ∧ MC y G ((ch s').getD i dum) d := by
          intro i hi hne
          obtain ⟨d, hd, e, hm⟩ := (hx2 s' hs').2 i hi
          exact ⟨d, by omega, by rw [y40, if_neg hne]; exact e, hmono _ d hd hm⟩
        by_cases hse : s' = s
        · subst hse
          rw [if_pos rfl]
          rcases hc with ⟨h, h', h3⟩ | ⟨h, h2, h', h3⟩
          · rw [h3]
            simp only [upL, if_true, List.length_set]
            refine ⟨by rw [h', Nat.add_zero], ?_⟩
            intro j hj
            rw [List.getD_eq_getElem?_getD, List.getElem?_set]
            by_cases hji : v8 = j
            · subst hji; rw [if_pos rfl, if_pos h, Option.getD_some]; exact ⟨n, by omega, by rw [y40, if_pos rfl], hself⟩
            · rw [if_neg hji, ← List.getD_eq_getElem?_getD]
              exact old j hj (by omega)
          · rw [h3]
            simp only [upL, if_true, List.length_append, List.length_singleton]
            refine ⟨by rw [h'], ?_⟩
            intro j hj
            rw [List.getD_eq_getElem?_getD]
            by_cases hji : j < (ch s').length
            · rw [List.getElem?_append_left hji, ← List.getD_eq_getElem?_getD]
              exact old j hji (by omega)
            · have ej : j = (ch s').length := by omega
              rw [ej, List.getElem?_append_right (Nat.le_refl _), Nat.sub_self]
              simp only [List.getElem?_cons_zero, Option.getD_some]
              exact ⟨n, by omega, by rw [y40, if_pos (by rw [h])], hself⟩
        · rw [addE_ne hse, if_neg hse]
          refine ⟨(hx2 s' hs').1, ?_⟩
          intro j hj
          refine old j hj ?_
          have := hW.2 s'
          omega
      · intro k hk
        rw [hy]
        simp only [wrM]
        rw [upo_ne (by omega), upo_ne (by omega), upo_ne (by omega), upo_ne (by omega), upo_ne (by omega), upo_ne (by omega), upo_ne (by omega), upo_ne (by omega), upo_ne (by omega), upo_ne (by omega)]
    by_cases hb : b = 0
    · have := fin _ rfl
      subst hb
      simp only [if_true]
      exact ⟨n + 1, by omega, by omega, this⟩
    · have hb1 : b = 1 := by rcases hc with ⟨-, h, -⟩ | ⟨-, -, h, -⟩; exact absurd h hb; exact h
      have := fin _ rfl
      subst hb1
      simp only [show ¬ (1 = 0) by decide, if_false]
      exact ⟨n + 1, by omega, by omega, this⟩
  simp (disch := omega) only [f_X11_add, ↓nM_lit, iN_lit, iN_add, iN_mul, iN_lt, iN_le, iN_eq, iN_c, gd_iN, iN_nM, nM_iN, iN_ltM, nM_lt, nM_le, iN_leM, iN_0M, nM_p1, iN_0s1, decide_true, decide_eq_true_eq, Nat.not_lt_zero, if_true, if_false, wp_some, wp_grd, wp_lb, wp_ite, wp_b1, wp_b2, wp_b3, wp_b4, wp_b5, eq_grd, eq_lb, eq_b1, eq_b2, eq_b3, eq_b4, eq_b5, hs, x1, eD, hfind, true_and]
  by_cases hlt : adI G ch s t < (ch s).length
  · obtain ⟨d, hd, e40, hM⟩ := xr _ hlt
    obtain ⟨c2, c3, c4⟩ := MC_2 hM
    simp (disch := omega) only [f_X11_add_J90, show ¬ (adI G ch s t = (ch s).length) by omega, ↓nM_lit, iN_lit, iN_add, iN_mul, iN_lt, iN_le, iN_eq, iN_c, gd_iN, iN_nM, nM_iN, iN_ltM, nM_lt, nM_le, iN_leM, iN_0M, nM_p1, iN_0s1, decide_true, decide_eq_true_eq, Nat.not_lt_zero, if_true, if_false, wp_some, wp_grd, wp_lb, wp_ite, wp_b1, wp_b2, wp_b3, wp_b4, wp_b5, eq_grd, eq_lb, eq_b1, eq_b2, eq_b3, eq_b4, eq_b5, show 8 * s + adI G ch s t < 288 by omega, e40, show d < 40000 by omega, c4, true_and]
    by_cases hk : tK G t < tK G ((ch s).getD (adI G ch s t) dum)
    · rw [if_pos hk]
      exact put _ 0 (Or.inl ⟨hlt, rfl, by rw [addE, if_pos hlt, if_pos hk]⟩)
    · rw [if_neg hk, addE, if_pos hlt, if_neg hk]
      exact ⟨n, Nat.le_refl _, by omega, hx, fun _ _ => trivial, fun _ _ _ _ _ => trivial⟩
  · have e : adI G ch s t = (ch s).length := by omega
    rw [e]
    simp (disch := omega) only [f_X11_add_J90, ↓nM_lit, iN_lit, iN_add, iN_mul, iN_lt, iN_le, iN_eq, iN_c, gd_iN, iN_nM, nM_iN, iN_ltM, nM_lt, nM_le, iN_leM, iN_0M, nM_p1, iN_0s1, decide_true, decide_eq_true_eq, Nat.not_lt_zero, if_true, if_false, wp_some, wp_grd, wp_lb, wp_ite, wp_b1, wp_b2, wp_b3, wp_b4, wp_b5, eq_grd, eq_lb, eq_b1, eq_b2, eq_b3, eq_b4, eq_b5, show ¬ (1 = 0) by decide]
    by_cases h88 : (ch s).length = 8
    · simp only [h88, if_true, wp_some, wp_grd, wp_lb, wp_ite, wp_b1, wp_b2, wp_b3, wp_b4, wp_b5]
      rw [addE, if_neg hlt, if_pos h88]
      exact ⟨n, Nat.le_refl _, by omega, hx, fun _ _ => trivial, fun _ _ _ _ _ => trivial⟩
    · simp only [h88, if_false]
      exact put _ 1 (Or.inr ⟨rfl, by omega, rfl, by rw [addE, if_neg hlt, if_neg h88]⟩)
