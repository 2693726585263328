/-! The class's chart: X0. -/
def RCb (x : Ob) (σ : Nat) (c f k g pl pr rel : Int32) : Prop := x 2 σ = c ∧ x 3 σ = f ∧ x 4 σ = k ∧ x 5 σ = g ∧ x 6 σ = pl ∧ x 7 σ = pr ∧ x 8 σ = rel
def RC (x G : Ob) : Tr → Nat → Prop
  | .leaf a, σ => σ / 8 = 6 * a.1 ∧ RCb x σ a.2.2.1 (iN a.2.2.2) (iN 0) nM (iN a.2.1) nM (iN 0)
  | .branch g l r, σ => σ / 8 = sp (.branch g l r) ∧ ∃ σl σr, RCb x σ (G 22 g) (iN (tF G (.branch g l r))) (tK G (.branch g l r)) (iN g) (iN σl) σr (iN (rlN (tR G (.branch g l r)) 3)) ∧ σl < 288 ∧ RC x G l σl ∧ (G 24 g = nM → σr = nM ∧ σl % 8 < nn (x 1 (σ / 8))) ∧ (G 24 g ≠ nM → ∃ q, q < 288 ∧ σr = iN q ∧ RC x G r q)
theorem RC_s {x G : Ob} {t : Tr} {σ : Nat} (hw : WT G t) (h : RC x G t σ) : σ / 8 = sp t := by
  cases t with
  | leaf a =>
    obtain ⟨-, -, ⟨c, hc, e⟩, -⟩ := hw
    have : sp (Lean.RArray.leaf a) = 6 * a.1 := by simp (disch := omega) only [sp, tB, tW, e, iN_nM, if_false]; omega
    rw [this]; exact h.1
  | branch g l r => exact h.1
theorem RC_2 {x G : Ob} {t : Tr} {σ : Nat} (h : RC x G t σ) : x 2 σ = tC G t ∧ x 3 σ = iN (tF G t) ∧ x 4 σ = tK G t := by
  cases t with
  | leaf a => obtain ⟨-, h2, h3, h4, -⟩ := h; exact ⟨h2, h3, h4⟩
  | branch g l r => obtain ⟨-, σl, σr, ⟨h2, h3, h4, -⟩, -⟩ := h; exact ⟨h2, h3, h4⟩
theorem RCb_cg {x x' : Ob} {σ : Nat} {c f k g pl pr rel : Int32} (h : ∀ k, 2 ≤ k → k ≤ 8 → x' k σ = x k σ) (hr : RCb x σ c f k g pl pr rel) : RCb x' σ c f k g pl pr rel := by
  unfold RCb
  rw [h 2 (by decide) (by decide), h 3 (by decide) (by decide), h 4 (by decide) (by decide), h 5 (by decide) (by decide), h 6 (by decide) (by decide), h 7 (by decide) (by decide), h 8 (by decide) (by decide)]
  exact hr
theorem sp_mod {b w : Nat} (h1 : 1 ≤ w) (h2 : b + w ≤ 6) : (6 * b + w - 1) % 6 = w - 1 ∧ (6 * b + w - 1) / 6 = b := by omega
/-- one slot changed: edges that do not reach it stand -/
theorem RC_mono {x x' G : Ob} (hG : WGr G) {b0 m σ0 P : Nat} (hm : 1 ≤ m) (hbm : b0 + m ≤ 6) (h0 : σ0 / 8 = 6 * b0 + m - 1) (hag : ∀ σ, σ ≠ σ0 → ∀ k, 2 ≤ k → k ≤ 8 → x' k σ = x k σ) (h1 : ∀ s, s < 36 → nn (x 1 s) ≤ nn (x' 1 s)) (hf : nn (x 1 (6 * b0 + m - 1)) ≤ σ0 % 8 ∨ nn (x 2 σ0) = P) :
    ∀ (t : Tr) (σ : Nat), WT G t → RC x G t σ → tB t + tW t ≤ 6 → (tW t < m ∨ (tW t = m ∧ tB t ≠ b0) ∨ (tW t = m ∧ tB t = b0 ∧ σ ≠ σ0 ∧ (isUn G t → nn (tC G t) ≤ P))) → RC x' G t σ := by
  intro t
  induction t with
  | leaf a =>
    intro σ hw hr hb hc
    have hs := RC_s hw hr
    have hp := tW_pos _ hw
    have hne : σ ≠ σ0 := by
      intro e; subst e
      rw [h0, sp] at hs
      rcases hc with h | ⟨h, h'⟩ | ⟨-, -, h, -⟩
      · omega
      · omega
      · exact h rfl
    exact ⟨hr.1, RCb_cg (hag σ hne) hr.2⟩
  | branch g l r ihl ihr =>
    intro σ hw hr hb hc
    have hs := RC_s hw hr
    have hp := tW_pos _ hw
    have hne : σ ≠ σ0 := by
      intro e; subst e
      rw [h0, sp] at hs
      rcases hc with h | ⟨h, h'⟩ | ⟨-, -, h, -⟩
      · omega
      · omega
      · exact h rfl
    obtain ⟨w1, w2, w3, w4, w5, w6⟩ := hw
    obtain ⟨r0, σl, σr, r1, r2, r3, r4, r5⟩ := hr
    have hpl := tW_pos _ w2
    refine ⟨r0, σl, σr, RCb_cg (hag σ hne) r1, r2, ?_, ?_, ?_⟩
    · by_cases hu : G 24 g = nM
      · have er := w5 hu
        subst er
        have eW : tW (.branch g l dum) = tW l := by rw [tW, tW_dum]; omega
        have eB : tB (.branch g l dum) = tB l := rfl
        rw [eW, eB] at hc hb
        refine ihl σl w2 r3 hb ?_
        rcases hc with h | h | ⟨ha, hb', hc', hd⟩
        · exact Or.inl h
        · exact Or.inr (Or.inl h)
        · refine Or.inr (Or.inr ⟨ha, hb', ?_, ?_⟩)
          · intro e
            have hsp : sp (Lean.RArray.branch g l dum) = 6 * b0 + m - 1 := by rw [sp, eW, eB, ha, hb']
            have hP := hd hu
            obtain ⟨hq1, hq2, hq3, -⟩ := hG.2 g w1
            rcases hf with hf | hf
            · have := (r4 hu).2
              rw [hs, hsp, e] at this
              omega
            · have h2 := (RC_2 r3).1
              rw [e, w3] at h2
              rw [h2] at hf
              rcases hq3 with ⟨-, h, -⟩ | ⟨⟨a, ha, ea⟩, -⟩
              · change nn (G 22 g) ≤ P at hP; omega
              · rw [ea, iN_nM (by omega)] at hu; exact hu
          · intro _
            obtain ⟨hq1, hq2, hq3, -⟩ := hG.2 g w1
            have hP := hd hu
            change nn (G 22 g) ≤ P at hP
            rw [w3]
            rcases hq3 with ⟨-, h, -⟩ | ⟨⟨a, ha, ea⟩, -⟩
            · omega
            · rw [ea, iN_nM (by omega)] at hu; exact hu.elim
      · obtain ⟨v1, v2, v3⟩ := w6 hu
        have hpr := tW_pos _ v1
        have eW : tW (.branch g l r) = tW l + tW r := rfl
        have eB : tB (.branch g l r) = tB l := rfl
        rw [eW, eB] at hc hb
        exact ihl σl w2 r3 (by omega) (Or.inl (by rcases hc with h | ⟨h, -⟩ | ⟨h, -⟩ <;> omega))
    · intro hu
      obtain ⟨a1, a2⟩ := r4 hu
      refine ⟨a1, Nat.lt_of_lt_of_le a2 (h1 _ ?_)⟩
      rw [hs, sp]; omega
    · intro hu
      obtain ⟨q, q1, q2, q3⟩ := r5 hu
      obtain ⟨v1, v2, v3⟩ := w6 hu
      have hpr := tW_pos _ v1
      have eW : tW (.branch g l r) = tW l + tW r := rfl
      have eB : tB (.branch g l r) = tB l := rfl
      rw [eW, eB] at hc hb
      exact ⟨q, q1, q2, ihr q v1 q3 (by omega) (Or.inl (by rcases hc with h | ⟨h, -⟩ | ⟨h, -⟩ <;> omega))⟩
def RCh (x G : Ob) (ch : Ch) : Prop := ∀ s, s < 36 → x 1 s = iN (ch s).length ∧ ∀ i, i < (ch s).length → RC x G ((ch s).getD i dum) (8 * s + i)
/-- where an edge that is alike stands -/
theorem X0_find {x G : Ob} {ch : Ch} (hx : RCh x G ch) (hG : WGr G) {s : Nat} (hs : s < 36) (h8 : (ch s).length ≤ 8) (hw : ∀ t, t ∈ ch s → WT G t) {t : Tr} (htF : tF G t < 64) (k : Int32) :
    f_X0_add_L42 200 x (iN s) (tC G t) (iN (tF G t)) k (iN (8 * s)) (iN (8 * s)) = some (iN (8 * s + adI G ch s t)) := by
  obtain ⟨x1, xr⟩ := hx s hs
  have hle : adI G ch s t ≤ (ch s).length := List.findIdx_le_length
  have hnot : ∀ i, i < adI G ch s t → al G t ((ch s).getD i dum) = false := by
    intro i hi
    have := List.not_of_lt_findIdx hi
    rw [List.getD_eq_getElem?_getD, List.getElem?_eq_getElem (by omega), Option.getD_some]
    exact this
  have key : ∀ (d n i : Nat), i + d = adI G ch s t → d < n → f_X0_add_L42 n x (iN s) (tC G t) (iN (tF G t)) k (iN (8 * s)) (iN (8 * s + i)) = some (iN (8 * s + adI G ch s t)) := by
    intro d
    induction d with
    | zero =>
      intro n i hi hn
      obtain ⟨n, rfl⟩ : ∃ m, n = m + 1 := ⟨n - 1, by omega⟩
      have e : i = adI G ch s t := by omega
      subst e
      by_cases hlt : adI G ch s t < (ch s).length
      · obtain ⟨c2, c3, c4⟩ := RC_2 (xr _ hlt)
        have hal : al G t ((ch s).getD (adI G ch s t) dum) = true := by
          rw [List.getD_eq_getElem?_getD, List.getElem?_eq_getElem hlt, Option.getD_some]
          exact List.findIdx_getElem
        have hal2 := hal
        rw [al, Bool.and_eq_true, decide_eq_true_eq, decide_eq_true_eq] at hal2
        rw [hal2.1] at c2
        rw [hal2.2] at c3
        simp (disch := omega) only [f_X0_add_L42, ↓nM_lit, iN_lit, iN_add, iN_mul, iN_lt, iN_le, iN_eq, iN_c, gd_iN, iN_nM, nM_iN, iN_ltM, nM_lt, nM_le, iN_leM, iN_0M, nM_p1, iN_0s1, decide_true, decide_eq_true_eq, Nat.not_lt_zero, if_true, if_false, eq_grd, eq_lb, eq_b1, eq_b2, eq_b3, eq_b4, eq_b5, hs, x1, show ¬ (8 * s + (ch s).length ≤ 8 * s + adI G ch s t) by omega, show 8 * s + adI G ch s t < 288 by omega, c2, c3]
      · simp (disch := omega) only [f_X0_add_L42, ↓nM_lit, iN_lit, iN_add, iN_mul, iN_lt, iN_le, iN_eq, iN_c, gd_iN, iN_nM, nM_iN, iN_ltM, nM_lt, nM_le, iN_leM, iN_0M, nM_p1, iN_0s1, decide_true, decide_eq_true_eq, Nat.not_lt_zero, if_true, if_false, eq_grd, eq_lb, eq_b1, eq_b2, eq_b3, eq_b4, eq_b5, hs, x1, show 8 * s + (ch s).length ≤ 8 * s + adI G ch s t by omega]
    | succ d ih =>
      intro n i hi hn
      obtain ⟨n, rfl⟩ : ∃ m, n = m + 1 := ⟨n - 1, by omega⟩
      have hlt : i < (ch s).length := by omega
      obtain ⟨c2, c3, c4⟩ := RC_2 (xr i hlt)
      have hal := hnot i (by omega)
      have hmem : (ch s).getD i dum ∈ ch s := by
        rw [List.getD_eq_getElem?_getD, List.getElem?_eq_getElem hlt, Option.getD_some]
        exact List.getElem_mem hlt
      have h64 := tF_lt hG _ (hw _ hmem)
      have ih' := ih n (i + 1) (by omega) (by omega)
      rw [al, Bool.and_eq_false_iff, decide_eq_false_iff_not, decide_eq_false_iff_not] at hal
      rw [← Nat.add_assoc] at ih'
      by_cases hc : tC G ((ch s).getD i dum) = tC G t
      · have hF : ¬ tF G ((ch s).getD i dum) = tF G t := by rcases hal with h | h; exact absurd hc h; exact h
        simp (disch := omega) only [f_X0_add_L42, ↓nM_lit, iN_lit, iN_add, iN_mul, iN_lt, iN_le, iN_eq, iN_c, gd_iN, iN_nM, nM_iN, iN_ltM, nM_lt, nM_le, iN_leM, iN_0M, nM_p1, iN_0s1, decide_true, decide_eq_true_eq, Nat.not_lt_zero, if_true, if_false, eq_grd, eq_lb, eq_b1, eq_b2, eq_b3, eq_b4, eq_b5, hs, x1, show ¬ (8 * s + (ch s).length ≤ 8 * s + i) by omega, show 8 * s + i < 288 by omega, c2, c3, hc, hF, ih']
      · simp (disch := omega) only [f_X0_add_L42, ↓nM_lit, iN_lit, iN_add, iN_mul, iN_lt, iN_le, iN_eq, iN_c, gd_iN, iN_nM, nM_iN, iN_ltM, nM_lt, nM_le, iN_leM, iN_0M, nM_p1, iN_0s1, decide_true, decide_eq_true_eq, Nat.not_lt_zero, if_true, if_false, eq_grd, eq_lb, eq_b1, eq_b2, eq_b3, eq_b4, eq_b5, hs, x1, show ¬ (8 * s + (ch s).length ≤ 8 * s + i) by omega, show 8 * s + i < 288 by omega, c2, hc, ih']
  have := key (adI G ch s t) 200 0 (by omega) (by omega)
  rw [Nat.add_zero] at this
  exact this
/-- a slot written whole -/
def wr8 (x : Ob) (s n σ : Nat) (c f k g pl pr rel : Int32) : Ob := upo (upo (upo (upo (upo (upo (upo (upo x 1 s (iN n)) 2 σ c) 3 σ f) 4 σ k) 5 σ g) 6 σ pl) 7 σ pr) 8 σ rel
theorem X0_add {x G : Ob} {ch : Ch} (hx : RCh x G ch) (hG : WGr G) {s : Nat} (hs : s < 36) (h8 : (ch s).length ≤ 8) (hw : ∀ t, t ∈ ch s → WT G t) {t : Tr} (htF : tF G t < 64) :
    wp (f_X0_add x (iN s) (tC G t) (iN (tF G t)) (tK G t)) (fun r => (r.1 = nM ∧ r.2 = x ∧ addE G ch s t = ch) ∨
      ∃ i n, i < 8 ∧ n ≤ 8 ∧ r.1 = iN (8 * s + i) ∧ r.2 = upo (upo (upo (upo x 1 s (iN n)) 2 (8 * s + i) (tC G t)) 3 (8 * s + i) (iN (tF G t))) 4 (8 * s + i) (tK G t) ∧
        ((i < (ch s).length ∧ n = (ch s).length ∧ tC G ((ch s).getD i dum) = tC G t ∧ addE G ch s t = upL ch s ((ch s).set i t)) ∨ (i = (ch s).length ∧ n = i + 1 ∧ addE G ch s t = upL ch s (ch s ++ [t])))) := by
  obtain ⟨x1, xr⟩ := hx s hs
  have hle : adI G ch s t ≤ (ch s).length := List.findIdx_le_length
  have hfind := X0_find hx hG hs h8 hw htF (tK G t)
  simp (disch := omega) only [f_X0_add, ↓nM_lit, iN_lit, iN_add, iN_mul, iN_lt, iN_le, iN_eq, iN_c, gd_iN, iN_nM, nM_iN, iN_ltM, nM_lt, nM_le, iN_leM, iN_0M, nM_p1, iN_0s1, decide_true, decide_eq_true_eq, Nat.not_lt_zero, if_true, if_false, wp_some, wp_grd, wp_lb, wp_ite, wp_b1, wp_b2, wp_b3, wp_b4, wp_b5, eq_grd, eq_lb, eq_b1, eq_b2, eq_b3, eq_b4, eq_b5, hs, show ¬ (36 ≤ s) by omega, x1, h8, hfind, show s * 8 = 8 * s by omega, true_and]
  by_cases hlt : adI G ch s t < (ch s).length
  · obtain ⟨c2, c3, c4⟩ := RC_2 (xr _ hlt)
    have hal : al G t ((ch s).getD (adI G ch s t) dum) = true := by
      rw [List.getD_eq_getElem?_getD, List.getElem?_eq_getElem hlt, Option.getD_some]
      exact List.findIdx_getElem
    rw [al, Bool.and_eq_true, decide_eq_true_eq, decide_eq_true_eq] at hal
    simp (disch := omega) only [f_X0_add_J103, f_X0_add_J138, f_X0_add_J155, ↓nM_lit, iN_lit, iN_add, iN_mul, iN_lt, iN_le, iN_eq, iN_c, gd_iN, iN_nM, nM_iN, iN_ltM, nM_lt, nM_le, iN_leM, iN_0M, nM_p1, iN_0s1, decide_true, decide_eq_true_eq, Nat.not_lt_zero, if_true, if_false, wp_some, wp_grd, wp_lb, wp_ite, wp_b1, wp_b2, wp_b3, wp_b4, wp_b5, eq_grd, eq_lb, eq_b1, eq_b2, eq_b3, eq_b4, eq_b5, hs, show ¬ (8 * s + adI G ch s t = 8 * s + (ch s).length) by omega, show 8 * s + adI G ch s t < 288 by omega, c4, x1, Nat.add_zero, true_and]
    by_cases hk : tK G t < tK G ((ch s).getD (adI G ch s t) dum)
    · rw [if_pos hk]
      refine Or.inr ⟨adI G ch s t, (ch s).length, by omega, h8, rfl, rfl, Or.inl ⟨hlt, rfl, hal.1, ?_⟩⟩
      rw [addE, if_pos hlt, if_pos hk]
    · rw [if_neg hk]
      refine Or.inl ?_
      rw [addE, if_pos hlt, if_neg hk]
  · have e : adI G ch s t = (ch s).length := by omega
    rw [e]
    simp (disch := omega) only [f_X0_add_J103, f_X0_add_J138, f_X0_add_J155, ↓nM_lit, iN_lit, iN_add, iN_mul, iN_lt, iN_le, iN_eq, iN_c, gd_iN, iN_nM, nM_iN, iN_ltM, nM_lt, nM_le, iN_leM, iN_0M, nM_p1, iN_0s1, decide_true, decide_eq_true_eq, Nat.not_lt_zero, if_true, if_false, wp_some, wp_grd, wp_lb, wp_ite, wp_b1, wp_b2, wp_b3, wp_b4, wp_b5, eq_grd, eq_lb, eq_b1, eq_b2, eq_b3, eq_b4, eq_b5, hs, show ¬ (1 = 0) by decide, x1, true_and]
    by_cases h88 : (ch s).length = 8
    · simp only [h88, if_true, wp_some, wp_grd, wp_lb, wp_ite, wp_b1, wp_b2, wp_b3, wp_b4, wp_b5]
      refine Or.inl ?_
      rw [addE, if_neg hlt, if_pos h88]
    · simp (disch := omega) only [h88, if_false, wp_some, wp_grd, wp_lb, wp_ite, wp_b1, wp_b2, wp_b3, wp_b4, wp_b5, ↓nM_lit, iN_lit, iN_add, iN_mul, iN_lt, iN_le, iN_eq, iN_c, gd_iN, iN_nM, nM_iN, iN_ltM, nM_lt, nM_le, iN_leM, iN_0M, nM_p1, iN_0s1, decide_true, decide_eq_true_eq, Nat.not_lt_zero, if_true, if_false, eq_grd, eq_lb, eq_b1, eq_b2, eq_b3, eq_b4, eq_b5, show 8 * s + (ch s).length < 288 by omega, true_and]
      refine Or.inr ⟨(ch s).length, (ch s).length + 1, by omega, by omega, rfl, rfl, Or.inr ⟨rfl, rfl, ?_⟩⟩
      rw [addE, if_neg hlt, if_neg h88]
