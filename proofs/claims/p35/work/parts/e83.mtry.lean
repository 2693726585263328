/-! The reference uses a rule on edges. -/
theorem MCh_cg {M M' G : Ob} {ch : Ch} {n : Nat} (h : ∀ k, 31 ≤ k → k ≤ 40 → M' k = M k) (hx : MCh M G ch n) : MCh M' G ch n := by
  refine ⟨by rw [h 31 (by decide) (by decide)]; exact hx.1, ?_⟩
  intro s hs
  rw [h 39 (by decide) (by decide), h 40 (by decide) (by decide)]
  refine ⟨(hx.2 s hs).1, ?_⟩
  intro i hi
  obtain ⟨d, hd, e, hm⟩ := (hx.2 s hs).2 i hi
  exact ⟨d, hd, e, MC_mono (fun i _ k h1 h2 => by rw [h k (by omega) (by omega)]) _ d hd hm⟩
def old (n : Nat) (y z : Ob) : Prop := ∀ i, i < n → ∀ k, 32 ≤ k → k ≤ 38 → z k i = y k i
theorem old_r {n : Nat} {y : Ob} : old n y y := fun _ _ _ _ _ => rfl
theorem old_t {n m : Nat} {x y z : Ob} (hnm : n ≤ m) (h1 : old n x y) (h2 : old m y z) : old n x z := fun i hi k k1 k2 => by rw [h2 i (by omega) k k1 k2, h1 i hi k k1 k2]
theorem old_M {n : Nat} {y z G : Ob} (h : old n y z) {t : Tr} {i : Nat} (hi : i < n) (hm : MC y G t i) : MC z G t i := MC_mono h t i hi hm
/-- the reference's state while rules are used for the span of m words from b -/
def SMx (M0 G : Ob) (ch : Ch) (b m P n : Nat) (y : Ob) : Prop := (∀ k, (k < 31 ∨ 42 < k) → y k = M0 k) ∧ MCh y G ch n ∧ Iv G ch b m P
def isM (G : Ob) (b m P n : Nat) (y : Ob) (g : Nat) (l r : Tr) (s0 : Int32) : Prop :=
  (G 24 g = nM ∧ r = dum ∧ s0 = nM ∧ tW l = m ∧ tB l = b ∧ P = nn (G 22 g) + 1) ∨
  (G 24 g ≠ nM ∧ (∃ q, q < n ∧ s0 = iN q ∧ MC y G r q) ∧ WT G r ∧ tC G r = G 24 g ∧ tB r = tB l + tW l ∧ tW l + tW r = m ∧ tB l = b ∧ P = 0)
theorem uni_UB {G : Ob} (hG : WGr G) {g lf rf : Nat} (hg : g < nn (G 21 0)) {u : Uf} (h : uni G g lf rf = some u) : UB (nn (G 26 g)) u := UB_n hG hg (Nat.le_refl _) h
theorem X11_try {M0 G : Ob} {ch : Ch} {b m P n : Nat} {y : Ob} (hG : WGr G) (hM : ∀ k, 21 ≤ k → k ≤ 30 → M0 k = G k) (hS : SMx M0 G ch b m P n y) (hn : n < 40000) {g : Nat} (hg : g < nn (G 21 0)) {l r : Tr} {il : Nat} {s0 : Int32} (hil : il < n) (hl : MC y G l il) (wl : WT G l) (cl : tC G l = G 23 g) (hr : isM G b m P n y g l r s0) :
    wp (f_X11_tryRule y (iN (6 * b + m - 1)) (iN g) (iN il) s0) (fun z => ∃ n', n ≤ n' ∧ n' ≤ n + 1 ∧ SMx M0 G (tryE G ch (6 * b + m - 1) g l r) b m P n' z ∧ old n y z) := by
  obtain ⟨sf, sR, sI⟩ := id hS
  have h16 := ng_le hG
  have hMy : ∀ k, 21 ≤ k → k ≤ 30 → y k = G k := fun k h1 h2 => by rw [sf k (by omega)]; exact hM k h1 h2
  obtain ⟨-, -, -, n3, hn3, en3, -⟩ := hG.2 g hg
  have e26 : y 26 g = iN (nn (G 26 g)) := by rw [hMy 26 (by decide) (by decide), en3, nn, iN_c (by omega)]
  obtain ⟨c2, c3, c4⟩ := MC_2 hl
  have fl := tF_lt hG l wl
  have hsp : 6 * b + m - 1 < 36 := by have := sI.2.1; have := sI.1; omega
  have hrr : G 24 g ≠ nM → ∃ r', r' < 40000 ∧ s0 = iN r' ∧ y 33 r' = iN (dec (tF G r)) ∧ tF G r < 64 := by
    intro h
    rcases hr with ⟨h', -⟩ | ⟨-, ⟨q, q1, q2, q3⟩, w, -⟩
    · exact absurd h' h
    · exact ⟨q, by omega, q2, (MC_2 q3).2.1, tF_lt hG r w⟩
  have hbase : (if G 24 g = nM then y 34 il else y 34 il + y 34 (nn s0)) = tK G l + tK G r := by
    rcases hr with ⟨h', e, -⟩ | ⟨h, ⟨q, q1, q2, q3⟩, w, -⟩
    · rw [if_pos h', c4, e]; exact (Int32.add_zero _).symm
    · rw [if_neg h, c4, q2, nn, iN_c (by omega), (MC_2 q3).2.2]
  have hu := X11_use hMy hG hg (Nat.le_refl _) (show il < 40000 by omega) c3 fl hrr
  rw [hbase] at hu
  simp (disch := omega) only [f_X11_tryRule, ↓nM_lit, iN_lit, iN_add, iN_mul, iN_lt, iN_le, iN_eq, iN_c, gd_iN, iN_nM, nM_iN, iN_ltM, nM_lt, nM_le, iN_leM, iN_0M, nM_p1, iN_0s1, decide_true, decide_eq_true_eq, Nat.not_lt_zero, if_true, if_false, wp_some, wp_grd, wp_lb, wp_ite, wp_b1, wp_b2, wp_b3, wp_b4, wp_b5, eq_grd, eq_lb, eq_b1, eq_b2, eq_b3, eq_b4, eq_b5, show g < 16 by omega, e26, true_and]
  refine wp_mono hu ?_
  rintro ⟨q1, q2⟩ ⟨hq, hm⟩
  simp only at hq hm ⊢
  have q2R : MCh q2 G ch n := MCh_cg (fun k h1 h2 => hq k (by omega) (by omega)) sR
  have q2f : ∀ k, (k < 31 ∨ 42 < k) → q2 k = M0 k := fun k h => by rw [hq k (by omega) (by omega)]; exact sf k h
  have q2o : old n y q2 := fun i _ k k1 k2 => by rw [hq k (by omega) (by omega)]
  cases hun : uni G g (tF G l) (tF G r) with
  | none =>
    rw [uni] at hun
    rw [hun] at hm
    have e : tryE G ch (6 * b + m - 1) g l r = ch := by rw [tryE, uni, hun]; rfl
    rw [e]
    simp only [hm, if_true, wp_some, wp_grd, wp_lb, wp_ite, wp_b1, wp_b2, wp_b3, wp_b4, wp_b5]
    exact ⟨n, Nat.le_refl _, by omega, ⟨q2f, q2R, sI⟩, q2o⟩
  | some u =>
    have hB := uni_UB hG hg hun
    rw [uni] at hun
    rw [hun] at hm
    obtain ⟨m1, m2, m3, m4⟩ := hm
    have hun2 : uni G g (tF G l) (tF G r) = some u := hun
    have e : tryE G ch (6 * b + m - 1) g l r = addE G ch (6 * b + m - 1) (.branch g l r) := by rw [tryE, hun2]; rfl
    rw [e]
    have hlt := rbN_lt (rel := u.2.2) (nn (G 26 g))
    have hb3 : 2 ^ nn (G 26 g) ≤ 2 ^ 3 := Nat.pow_le_pow_right (by decide) (by rw [en3, nn, iN_c (by omega)]; exact hn3)
    have eF : 100 * u.1 0 0 + 10 * u.1 0 1 + u.1 0 2 = dec (tF G (.branch g l r)) := by
      rw [tF, hun2]
      show _ = dec (pkv (u.1 0))
      rw [dec, pkv_fv (hB.1 0) (by decide), pkv_fv (hB.1 0) (by decide), pkv_fv (hB.1 0) (by decide)]
    have eK : tK G l + tK G r + u.2.1 = tK G (.branch g l r) := by rw [tK, hun2]; rfl
    have eC : q2 22 g = tC G (.branch g l r) := by rw [hq 22 (by decide) (by decide)]; exact hMy 22 (by decide) (by decide) ▸ rfl
    have p0 := m3 0 0 (by omega) (Or.inl (by omega)) (by omega)
    have p1 := m3 0 1 (by omega) (Or.inl (by omega)) (by omega)
    have p2 := m3 0 2 (by omega) (Or.inl (by omega)) (by omega)
    simp only [Nat.mul_zero, Nat.zero_add] at p0 p1 p2
    have h8 : ¬ (iN (rbN u.2.2 (nn (G 26 g))) = nM) := by rw [iN_nM (by omega)]; exact id
    have hT : WT G (.branch g l r) := by
      refine ⟨hg, wl, cl, by rw [hun2]; rfl, ?_, ?_⟩
      · intro h
        rcases hr with ⟨-, hd, -⟩ | ⟨h', -⟩
        · exact hd
        · exact absurd h h'
      · intro h
        rcases hr with ⟨h', -⟩ | ⟨-, -, hw, hc, hb, -⟩
        · exact absurd h' h
        · exact ⟨hw, hc, hb⟩
    have hbb : tB (.branch g l r) = b := by
      rcases hr with ⟨-, -, -, -, h, -⟩ | ⟨-, -, -, -, -, -, h, -⟩ <;> exact h
    have hww : tW (.branch g l r) = m := by
      rcases hr with ⟨-, h, -, h', -⟩ | ⟨-, -, -, -, -, h, -⟩
      · subst h; rw [tW, tW_dum]; omega
      · exact h
    have hput := X11_put (p5 := iN g) (p6 := iN il) (p7 := s0) q2R hn hG hsp ⟨sI.2.2.1, sI.2.2.2.2.1⟩ (t := .branch g l r) (tF_lt hG _ hT) (by
      intro y' hb hmono
      refine ⟨il, s0, ?_, hil, hmono l il hil (old_M q2o hil hl), ?_, ?_⟩
      · rw [sp, hbb, hww]; exact hb
      · intro h0
        rcases hr with ⟨-, -, hs, -⟩ | ⟨h', -⟩
        · exact hs
        · exact absurd h0 h'
      · intro h0
        rcases hr with ⟨h', -⟩ | ⟨-, ⟨q, qa, qb, qc⟩, -⟩
        · exact absurd h' h0
        · exact ⟨q, qa, qb, hmono r q qa (old_M q2o qa qc)⟩)
    simp (disch := omega) only [m1, h8, if_false, ↓nM_lit, iN_lit, iN_add, iN_mul, iN_lt, iN_le, iN_eq, iN_c, gd_iN, iN_nM, nM_iN, iN_ltM, nM_lt, nM_le, iN_leM, iN_0M, nM_p1, iN_0s1, decide_true, decide_eq_true_eq, Nat.not_lt_zero, if_true, if_false, wp_some, wp_grd, wp_lb, wp_ite, wp_b1, wp_b2, wp_b3, wp_b4, wp_b5, eq_grd, eq_lb, eq_b1, eq_b2, eq_b3, eq_b4, eq_b5, show g < 16 by omega, p0, p1, p2, m4, eF, eK, eC, true_and]
    refine wp_mono hput ?_
    rintro z ⟨n', h1, h2, h3, h4, h5⟩
    refine ⟨n', h1, h2, ⟨fun k hk => by rw [h4 k (by omega)]; exact q2f k hk, h3, ?_⟩, old_t (Nat.le_refl _) q2o h5⟩
    refine Iv_add sI hT hbb hww ?_
    intro h
    rcases hr with ⟨-, -, -, -, -, h'⟩ | ⟨h', -⟩
    · rw [h']; show nn (G 22 g) < _; omega
    · exact absurd h h'
