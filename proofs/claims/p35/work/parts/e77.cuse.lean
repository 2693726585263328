/-! The class uses a rule on edges. -/
theorem RX2_cg {x y G : Ob} (h : ∀ k, k ≠ 12 → k ≠ 13 → k ≠ 14 → y k = x k) (hx : QX2 x G) : QX2 y G := by
  unfold QX2
  rw [h 0 (by decide) (by decide) (by decide), h 1 (by decide) (by decide) (by decide), h 2 (by decide) (by decide) (by decide), h 3 (by decide) (by decide) (by decide), h 4 (by decide) (by decide) (by decide), h 7 (by decide) (by decide) (by decide), h 8 (by decide) (by decide) (by decide), h 9 (by decide) (by decide) (by decide), h 10 (by decide) (by decide) (by decide), h 11 (by decide) (by decide) (by decide)]
  exact hx
theorem ng_le {G : Ob} (hG : WGr G) : nn (G 21 0) ≤ 16 := by
  obtain ⟨⟨a, ha, ea⟩, -⟩ := hG
  rw [ea, nn, iN_c (by omega)]; exact ha
theorem ng_e {G : Ob} (hG : WGr G) : G 21 0 = iN (nn (G 21 0)) := by
  obtain ⟨⟨a, ha, ea⟩, -⟩ := hG
  rw [ea, nn, iN_c (by omega)]
theorem X2_get {x G : Ob} (hx : QX2 x G) (hG : WGr G) {g : Nat} (hg : g < nn (G 21 0)) : f_X2_parentOf x (iN g) = some (G 22 g) ∧ f_X2_leftOf x (iN g) = some (G 23 g) ∧ f_X2_rightOf x (iN g) = some (G 24 g) ∧ f_X2_headOf x (iN g) = some (G 25 g) := by
  have h16 := ng_le hG
  have e := ng_e hG
  obtain ⟨h1, h2, h3, h4, -⟩ := hx.2.1 g (by omega)
  have e0 : x 0 0 = iN (nn (G 21 0)) := by rw [hx.1]; exact e
  refine ⟨?_, ?_, ?_, ?_⟩ <;> simp (disch := omega) only [f_X2_parentOf, f_X2_leftOf, f_X2_rightOf, f_X2_headOf, e0, ↓nM_lit, iN_lit, iN_add, iN_mul, iN_lt, iN_le, iN_eq, iN_c, gd_iN, iN_nM, nM_iN, iN_ltM, nM_lt, nM_le, iN_leM, iN_0M, nM_p1, iN_0s1, decide_true, decide_eq_true_eq, Nat.not_lt_zero, if_true, if_false, eq_grd, eq_lb, eq_b1, eq_b2, eq_b3, eq_b4, eq_b5, show ¬ (nn (G 21 0) ≤ g) by omega, show g < 16 by omega, h1, h2, h3, h4]
theorem X0_get {x G : Ob} {t : Tr} {σ : Nat} (h : RC x G t σ) (hσ : σ < 288) : f_X0_categoryOf x (iN σ) = some (tC G t) ∧ f_X0_featuresOf x (iN σ) = some (iN (tF G t)) ∧ f_X0_priceOf x (iN σ) = some (tK G t) := by
  obtain ⟨h2, h3, h4⟩ := RC_2 h
  refine ⟨?_, ?_, ?_⟩ <;> simp (disch := omega) only [f_X0_categoryOf, f_X0_featuresOf, f_X0_priceOf, ↓nM_lit, iN_lit, iN_add, iN_mul, iN_lt, iN_le, iN_eq, iN_c, gd_iN, iN_nM, nM_iN, iN_ltM, nM_lt, nM_le, iN_leM, iN_0M, nM_p1, iN_0s1, decide_true, decide_eq_true_eq, Nat.not_lt_zero, if_true, if_false, eq_grd, eq_lb, eq_b1, eq_b2, eq_b3, eq_b4, eq_b5, show ¬ (288 ≤ σ) by omega, hσ, h2, h3, h4]
theorem X0_get_no (x : Ob) : f_X0_categoryOf x nM = some nM ∧ f_X0_featuresOf x nM = some (iN 0) ∧ f_X0_priceOf x nM = some (iN 0) := by
  refine ⟨?_, ?_, ?_⟩
  · rw [f_X0_categoryOf, if_pos (by decide)]; rfl
  · rw [f_X0_featuresOf, if_pos (by decide)]; rfl
  · rw [f_X0_priceOf, if_pos (by decide)]; rfl
/-- a state while rules are used for the span of m words from b -/
def SX (x2 : Ob) (n0 : Int32) (G : Ob) (ch : Ch) (b m P : Nat) (y2 y0 : Ob) : Prop := (∀ k, k ≠ 12 → k ≠ 13 → k ≠ 14 → y2 k = x2 k) ∧ RCh y0 G ch ∧ Iv G ch b m P ∧ y0 0 0 = n0
def isR (G : Ob) (b m P : Nat) (ch : Ch) (y0 : Ob) (g : Nat) (l r : Tr) (σl : Nat) (s0 : Int32) : Prop :=
  (G 24 g = nM ∧ r = dum ∧ s0 = nM ∧ tW l = m ∧ tB l = b ∧ σl % 8 < (ch (6 * b + m - 1)).length ∧ P = nn (G 22 g) + 1) ∨
  (G 24 g ≠ nM ∧ (∃ q, q < 288 ∧ s0 = iN q ∧ RC y0 G r q) ∧ WT G r ∧ tB r = tB l + tW l ∧ tW l + tW r = m ∧ tB l = b ∧ P = 0)
theorem X4_try {x2 G : Ob} {n0 : Int32} {ch : Ch} {b m P : Nat} {y2 y0 : Ob} (hG : WGr G) (hx : QX2 x2 G) (hS : SX x2 n0 G ch b m P y2 y0) {g : Nat} (hg : g < nn (G 21 0)) {l r : Tr} {σl : Nat} {s0 : Int32} (hσ : σl < 288) (hl : RC y0 G l σl) (wl : WT G l) (cl : tC G l = G 23 g) (hr : isR G b m P ch y0 g l r σl s0) (v4 v5 v6 v7 v8 : Int32) (j : Nat) :
    wp (f_X4_use_J88 y2 y0 (iN g) (iN (6 * b + m - 1)) v4 v5 v6 v7 v8 (iN σl) (iN j) s0) (fun q => q.1 = 0 ∧ q.2.1 = iN (j + 1) ∧ SX x2 n0 G (if tC G r = G 24 g then tryE G ch (6 * b + m - 1) g l r else ch) b m P q.2.2.1 q.2.2.2) := by
  obtain ⟨sf, sR, sI, s00⟩ := id hS
  have hy := RX2_cg sf hx
  obtain ⟨g1, g2, g3, g4⟩ := X2_get hy hG hg
  obtain ⟨cL1, cL2, cL3⟩ := X0_get hl hσ
  have fl := tF_lt hG l wl
  have hlen : y0 1 (6 * b + m - 1) = iN (ch (6 * b + m - 1)).length := (sR _ (by have := sI.2.1; have := sI.1; omega)).1
  have h8 := sI.2.2.2.2.1 (6 * b + m - 1)
  -- the right part, as it is asked
  have hR : f_X0_categoryOf y0 s0 = some (tC G r) ∧ f_X0_featuresOf y0 s0 = some (iN (tF G r)) ∧ f_X0_priceOf y0 s0 = some (tK G r) ∧ tF G r < 64 := by
    rcases hr with ⟨-, hd, hs, -⟩ | ⟨-, ⟨q, hq, hs, hrc⟩, hw, -⟩
    · subst hd; subst hs
      obtain ⟨a1, a2, a3⟩ := X0_get_no y0
      exact ⟨a1, a2, a3, by show 0 < 64; decide⟩
    · subst hs
      obtain ⟨a1, a2, a3⟩ := X0_get hrc hq
      exact ⟨a1, a2, a3, tF_lt hG r hw⟩
  obtain ⟨r1, r2, r3, fr⟩ := hR
  rw [f_X4_use_J88]
  by_cases hc : tC G r = G 24 g
  · rw [if_pos hc]
    simp (disch := omega) only [↓nM_lit, iN_lit, iN_add, iN_mul, iN_lt, iN_le, iN_eq, iN_c, gd_iN, iN_nM, nM_iN, iN_ltM, nM_lt, nM_le, iN_leM, iN_0M, nM_p1, iN_0s1, decide_true, decide_eq_true_eq, Nat.not_lt_zero, if_true, if_false, wp_some, wp_grd, wp_lb, wp_ite, wp_b1, wp_b2, wp_b3, wp_b4, wp_b5, eq_grd, eq_lb, eq_b1, eq_b2, eq_b3, eq_b4, eq_b5, r1, g3, hc, cL2, r2]
    refine wp_mono (X2_unify hy hG hg fl fr) ?_
    rintro ⟨u1, u2⟩ hu
    obtain ⟨uf, um⟩ := hu
    simp only at uf um ⊢
    have uf2 : ∀ k, k ≠ 12 → k ≠ 13 → k ≠ 14 → u2 k = x2 k := fun k k1 k2 k3 => by rw [uf k k1 k2 k3]; exact sf k k1 k2 k3
    cases hun : uni G g (tF G l) (tF G r) with
    | none =>
      rw [hun] at um
      have e : tryE G ch (6 * b + m - 1) g l r = ch := by rw [tryE, hun]; rfl
      rw [e]
      simp (disch := omega) only [um, ↓nM_lit, iN_lit, iN_add, iN_mul, iN_lt, iN_le, iN_eq, iN_c, gd_iN, iN_nM, nM_iN, iN_ltM, nM_lt, nM_le, iN_leM, iN_0M, nM_p1, iN_0s1, decide_true, decide_eq_true_eq, Nat.not_lt_zero, if_true, if_false, wp_some, wp_grd, wp_lb, wp_ite, wp_b1, wp_b2, wp_b3, wp_b4, wp_b5]
      exact ⟨trivial, trivial, uf2, sR, sI, s00⟩
    | some u =>
      rw [hun] at um
      obtain ⟨m1, m2, m3, m4⟩ := um
      have e : tryE G ch (6 * b + m - 1) g l r = addE G ch (6 * b + m - 1) (.branch g l r) := by rw [tryE, hun]; rfl
      rw [e]
      obtain ⟨p1, -, -, -⟩ := X2_get (RX2_cg uf2 hx) hG hg
      have eF : iN (pf u) = iN (tF G (.branch g l r)) := by rw [tF, hun]; rfl
      have eK : tK G l + tK G r + u.2.1 = tK G (.branch g l r) := by rw [tK, hun]; rfl
      have eR : iN (rlN u.2.2 3) = iN (rlN (tR G (.branch g l r)) 3) := by rw [tR, hun]; rfl
      have eC : G 22 g = tC G (.branch g l r) := rfl
      simp (disch := omega) only [m1, ↓nM_lit, iN_lit, iN_add, iN_mul, iN_lt, iN_le, iN_eq, iN_c, gd_iN, iN_nM, nM_iN, iN_ltM, nM_lt, nM_le, iN_leM, iN_0M, nM_p1, iN_0s1, decide_true, decide_eq_true_eq, Nat.not_lt_zero, if_true, if_false, wp_some, wp_grd, wp_lb, wp_ite, wp_b1, wp_b2, wp_b3, wp_b4, wp_b5, eq_grd, eq_lb, eq_b1, eq_b2, eq_b3, eq_b4, eq_b5, show ¬ (1 = 0) by decide, cL3, r3, p1, f_X2_parentFeatures, m2, m3, m4, eF, eK, eR, eC]
      have hT : WT G (.branch g l r) := by
        refine ⟨hg, wl, cl, by rw [hun]; rfl, ?_, ?_⟩
        · intro h
          rcases hr with ⟨-, hd, -⟩ | ⟨h', -⟩
          · exact hd
          · exact absurd h h'
        · intro h
          rcases hr with ⟨h', -⟩ | ⟨-, -, hw, hb, -⟩
          · exact absurd h' h
          · exact ⟨hw, hc, hb⟩
      have hbb : tB (.branch g l r) = b := by
        rcases hr with ⟨-, -, -, -, h, -⟩ | ⟨-, -, -, -, -, h, -⟩ <;> exact h
      have hww : tW (.branch g l r) = m := by
        rcases hr with ⟨-, h, -, h', -⟩ | ⟨-, -, -, -, h, -⟩
        · subst h; rw [tW, tW_dum]; omega
        · exact h
      have hput := X0_put (P := P) (g := iN g) (pl := iN σl) (pr := s0) (rel := iN (rlN (tR G (.branch g l r)) 3)) hG sI sR hT hbb hww (by
          intro h
          rcases hr with ⟨-, -, -, -, -, -, h'⟩ | ⟨h', -⟩
          · rw [h', ← eC]; omega
          · exact absurd h h') (by
          rcases hr with ⟨-, -, -, -, -, -, h'⟩ | ⟨-, -, -, -, -, -, h'⟩
          · rw [h', ← eC]; omega
          · omega) (by
          intro σ y hσ2 hσ3 hb hmono hm1
          refine ⟨by rw [hσ3, sp, hbb, hww], σl, s0, hb, hσ, ?_, ?_, ?_⟩
          · refine hmono l σl wl hl ?_ ?_
            · have := sI.2.1
              rcases hr with ⟨-, -, -, h, h', -⟩ | ⟨-, -, -, -, h, h', -⟩ <;> omega
            · rcases hr with ⟨h0, -, -, h, h', h'', -⟩ | ⟨-, -, hw, -, h, h', -⟩
              · refine Or.inr ⟨h, h', ?_, ?_⟩
                · obtain ⟨-, -, hq, -⟩ := hG.2 g hg
                  rw [cl]
                  rcases hq with ⟨-, hq, -⟩ | ⟨⟨a, ha, ea⟩, -⟩
                  · exact hq
                  · rw [ea, iN_nM (by omega)] at h0; exact h0.elim
                · rw [hlen, nn, iN_c (by omega)]; exact h''
              · have := tW_pos _ hw
                exact Or.inl (by omega)
          · intro h0
            rcases hr with ⟨-, -, hs, -, -, h'', -⟩ | ⟨h', -⟩
            · refine ⟨hs, ?_⟩
              rw [hσ3]
              refine Nat.lt_of_lt_of_le ?_ hm1
              rw [hlen, nn, iN_c (by omega)]; exact h''
            · exact absurd h0 h'
          · intro h0
            rcases hr with ⟨h', -⟩ | ⟨-, ⟨q, hq, hs, hrc⟩, hw, hb2, h, h', -⟩
            · exact absurd h' h0
            · have := tW_pos _ wl
              have := sI.2.1
              exact ⟨q, hq, hs, hmono r q hw hrc (by omega) (Or.inl (by omega))⟩)
      simp only [wp_some, wp_grd, wp_lb, wp_ite, wp_b1, wp_b2, wp_b3, wp_b4, wp_b5] at hput
      refine wp_mono hput ?_
      rintro ⟨a1, a2⟩ ha
      refine wp_mono ha ?_
      intro z hz
      obtain ⟨z1, z2, z3⟩ := hz
      exact ⟨trivial, trivial, uf2, z1, z2, by rw [z3]; exact s00⟩
  · rw [if_neg hc]
    simp (disch := omega) only [↓nM_lit, iN_lit, iN_add, iN_mul, iN_lt, iN_le, iN_eq, iN_c, gd_iN, iN_nM, nM_iN, iN_ltM, nM_lt, nM_le, iN_leM, iN_0M, nM_p1, iN_0s1, decide_true, decide_eq_true_eq, Nat.not_lt_zero, if_true, if_false, wp_some, wp_grd, wp_lb, wp_ite, wp_b1, wp_b2, wp_b3, wp_b4, wp_b5, eq_grd, eq_lb, eq_b1, eq_b2, eq_b3, eq_b4, eq_b5, r1, g3, hc]
    exact ⟨trivial, trivial, hS⟩
