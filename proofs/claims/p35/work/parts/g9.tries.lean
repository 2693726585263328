/-! Prices; the law tries a rule on edges. -/
theorem uni_un {G : Ob} (hG : WGr G) {g lf rf : Nat} (hg : g < nn (G 21 0)) (hu : G 24 g = nM) (n : Nat) (hn : n ≤ nn (G 26 g)) : ∀ u, uNn G g n (u0 lf rf) = some u → u.2.1 = iN 0 ∧ ∀ φ, u.1 0 φ = 0 ∨ u.1 0 φ = u.1 1 φ := by
  obtain ⟨-, -, -, n3, hn3, en3, he⟩ := hG.2 g hg
  have enn : nn (G 26 g) = n3 := by rw [en3, nn, iN_c (by omega)]
  induction n with
  | zero =>
    intro u h
    rw [uNn] at h
    cases h
    exact ⟨rfl, fun φ => Or.inl rfl⟩
  | succ n ih =>
    intro u h
    rw [uNn] at h
    cases hq : uNn G g n (u0 lf rf) with
    | none => rw [hq] at h; cases h
    | some w =>
      rw [hq] at h
      obtain ⟨w1, w2⟩ := ih (by omega) w hq
      obtain ⟨φ, a, b, k, k1, k2, k3, k4, k5, k6, q1, q2, q3, q4⟩ := he n (by omega)
      obtain ⟨k7, k8⟩ := k5 hu
      simp only at h
      rw [uSt, q1, q2, q3, q4, nn, nn, nn, iN_c (by omega), iN_c (by omega), iN_c (by omega), uSt1] at h
      have hφ := w2 φ
      have hab : (a = 0 ∧ b = 1) ∨ (a = 1 ∧ b = 0) := by omega
      rcases hab with ⟨rfl, rfl⟩ | ⟨rfl, rfl⟩
      · by_cases c1 : w.1 0 φ = 0
        · rw [if_pos c1] at h
          cases h
          refine ⟨w1, fun ψ => ?_⟩
          show u2 w.1 0 φ (w.1 1 φ) 0 ψ = 0 ∨ u2 w.1 0 φ (w.1 1 φ) 0 ψ = u2 w.1 0 φ (w.1 1 φ) 1 ψ
          unfold u2
          by_cases e : ψ = φ
          · subst e; right; simp
          · simp [e]; exact w2 ψ
        · have c2 : w.1 0 φ = w.1 1 φ := by rcases hφ with h9 | h9; exact absurd h9 c1; exact h9
          have c3 : ¬ (w.1 1 φ = 0) := by rw [← c2]; exact c1
          rw [if_neg c1, if_neg c3, if_pos c2] at h
          cases h
          exact ⟨w1, w2⟩
      · by_cases c1 : w.1 1 φ = 0
        · have c2 : w.1 0 φ = 0 := by rcases hφ with h9 | h9; exact h9; rw [h9]; exact c1
          rw [if_pos c1] at h
          cases h
          refine ⟨w1, fun ψ => ?_⟩
          show u2 w.1 1 φ (w.1 0 φ) 0 ψ = 0 ∨ u2 w.1 1 φ (w.1 0 φ) 0 ψ = u2 w.1 1 φ (w.1 0 φ) 1 ψ
          unfold u2
          by_cases e : ψ = φ
          · subst e; left; simp [c2]
          · simp [e]; exact w2 ψ
        · by_cases c2 : w.1 0 φ = 0
          · rw [if_neg c1, if_pos c2] at h
            cases h
            refine ⟨w1, fun ψ => ?_⟩
            show u2 w.1 0 φ (w.1 1 φ) 0 ψ = 0 ∨ u2 w.1 0 φ (w.1 1 φ) 0 ψ = u2 w.1 0 φ (w.1 1 φ) 1 ψ
            unfold u2
            by_cases e : ψ = φ
            · subst e; right; simp
            · simp [e]; exact w2 ψ
          · have c3 : w.1 1 φ = w.1 0 φ := by rcases hφ with h9 | h9; exact absurd h9 c2; exact h9.symm
            rw [if_neg c1, if_neg c2, if_pos c3] at h
            cases h
            exact ⟨w1, w2⟩
/-- an edge of w words costs at most 60 for each use of a rule with two parts -/
theorem tK_w {G : Ob} (hG : WGr G) (t : Tr) : WT G t → ∃ c, c ≤ 60 * (tW t - 1) ∧ tK G t = iN c := by
  induction t with
  | leaf a => intro _; exact ⟨0, Nat.zero_le _, rfl⟩
  | branch g l r ihl ihr =>
    intro h
    obtain ⟨hg, wl, cl, hs, h1, h2⟩ := h
    obtain ⟨kl, b1, e1⟩ := ihl wl
    have pl := tW_pos l wl
    cases hun : uni G g (tF G l) (tF G r) with
    | none => rw [hun] at hs; cases hs
    | some u =>
      by_cases hu : G 24 g = nM
      · have hr := h1 hu
        subst hr
        have k := (uni_un hG hg hu _ (Nat.le_refl _) u hun).1
        refine ⟨kl, ?_, ?_⟩
        · rw [tW, tW_dum, Nat.add_zero]; exact b1
        · rw [tK, hun, e1]
          show iN kl + iN 0 + u.2.1 = iN kl
          rw [k, iN_add, iN_add]
          rfl
      · obtain ⟨wr, -, -⟩ := h2 hu
        obtain ⟨kr, b2, e2⟩ := ihr wr
        have pr := tW_pos r wr
        have hB := uni_UB hG hg hun
        obtain ⟨-, -, -, c, hc, ec⟩ := hB
        obtain ⟨-, -, -, n3, hn3, en3, -⟩ := hG.2 g hg
        have hn : nn (G 26 g) ≤ 3 := by rw [en3, nn, iN_c (by omega)]; exact hn3
        refine ⟨kl + kr + c, ?_, ?_⟩
        · rw [tW]; omega
        · rw [tK, hun, e1, e2]
          show iN kl + iN kr + u.2.1 = _
          rw [ec, iN_add, iN_add]
/-- the law's state while rules are used for the span of m words from b -/
def SL2 (c0 : Rw) (G : Ob) (ch : Ch) (b m P n : Nat) (y : Cy) : Prop := (∀ k, k ≠ 6 → k ≠ 7 → yc y k = c0 k) ∧ LCh y G ch n ∧ Iv G ch b m P ∧ b + m ≤ 3
def isL (G : Ob) (b m P n : Nat) (y : Cy) (g : Nat) (l r : Tr) (s0 : Int32) : Prop :=
  (G 24 g = nM ∧ r = dum ∧ s0 = nM ∧ tW l = m ∧ tB l = b ∧ P = nn (G 22 g) + 1) ∨
  (G 24 g ≠ nM ∧ (∃ q, q < n ∧ s0 = iN q ∧ LT y G r q) ∧ WT G r ∧ tC G r = G 24 g ∧ tB r = tB l + tW l ∧ tW l + tW r = m ∧ tB l = b ∧ P = 0)
def TPost (c0 : Rw) (G : Ob) (ch : Ch) (b m P n : Nat) (y : Cy) (ch1 : Ch) (z : Cy) : Prop := ∃ ch' n', n ≤ n' ∧ SL2 c0 G ch' b m P n' z ∧ (ch' = ch1 ∨ ch' = ch) ∧ (yc z 7 = iN 0 → yc y 7 = iN 0 ∧ ch' = ch1) ∧ oldL n y z
theorem L_tries {g q nr : Rw} {c0 : Rw} {G : Ob} {ch : Ch} {b m P n : Nat} {y : Cy} (hX : LG g q nr G) (hG : WGr G) (hS : SL2 c0 G ch b m P n y) {rl : Nat} (hg : rl < nn (G 21 0)) {l r : Tr} {il : Nat} {s0 : Int32} (hil : il < n) (hl : LT y G l il) (wl : WT G l) (cl : tC G l = G 23 rl) (hr : isL G b m P n y rl l r s0) :
    wp (f_L_tries (yc y) g q nr (ye y) (yj y) (ya y) (yb y) (ym y) (iN (lsp b m)) (iN rl) (iN il) s0) (fun z => TPost c0 G ch b m P n y (tryE G ch (6 * b + m - 1) rl l r) z) := by
  obtain ⟨sf, sR, sI, s3⟩ := id hS
  obtain ⟨m1, -, i3, i4, i5, i6⟩ := id sI
  have n64 := sR.2.1
  obtain ⟨l1, l2⟩ := LT_2 hl
  obtain ⟨lc, hlc, elc⟩ := tC_le hG l wl
  have nlc : nn (tC G l) = lc := by rw [elc, nn, iN_c (by omega)]
  obtain ⟨kl, bkl, ekl⟩ := tK_w hG l wl
  have fl := tF_lt hG l wl
  obtain ⟨⟨pc, hpc, epc⟩, -⟩ := hG.2 rl hg
  have npc : nn (G 22 rl) = pc := by rw [epc, nn, iN_c (by omega)]
  have hww : tW (.branch rl l r) = m := by
    rcases hr with ⟨-, h, -, h', -⟩ | ⟨-, -, -, -, -, h, -⟩
    · subst h; rw [tW, tW_dum]; omega
    · exact h
  have hbb : tB (.branch rl l r) = b := by
    rcases hr with ⟨-, -, -, -, h, -⟩ | ⟨-, -, -, -, -, -, h, -⟩ <;> exact h
  have hwl : tW l ≤ m := by rw [tW] at hww; omega
  -- the right part's row
  obtain ⟨kr, ir, bkr, ekr, hR, eir, hun0, hbin0⟩ : ∃ kr ir, kr ≤ 1000 ∧ tK G r = iN kr ∧ ((s0 = nM ∧ tF G r = 0 ∧ kr = 0) ∨ ∃ r' rc, r' < 64 ∧ rc ≤ 9 ∧ s0 = iN r' ∧ ye y r' = iN (1000 * rc + dec (tF G r)) ∧ yj y r' = iN kr) ∧ s0 + iN 1 = iN ir ∧ (G 24 rl = nM → ir = 0) ∧ (G 24 rl ≠ nM → ∃ q, q < n ∧ ir = q + 1 ∧ LT y G r q) := by
    rcases hr with ⟨h, rfl, h', -⟩ | ⟨h, ⟨q, q1, q2, q3⟩, wr, -, -, hw, -⟩
    · exact ⟨0, 0, by omega, rfl, Or.inl ⟨h', rfl, rfl⟩, by rw [h']; exact nM_p1, fun _ => rfl, fun h2 => absurd h h2⟩
    · obtain ⟨kr, bkr, ekr⟩ := tK_w hG r wr
      obtain ⟨rc, hrc, erc⟩ := tC_le hG r wr
      have nrc : nn (tC G r) = rc := by rw [erc, nn, iN_c (by omega)]
      obtain ⟨r1, r2⟩ := LT_2 q3
      rw [nrc] at r1
      have pl := tW_pos l wl
      exact ⟨kr, q + 1, by omega, ekr, Or.inr ⟨q, rc, by omega, hrc, q2, r1, by rw [r2, ekr]⟩, by rw [q2, iN_add], fun h2 => absurd h2 h, fun _ => ⟨q, q1, rfl, q3⟩⟩
  rw [nlc] at l1
  rw [ekl] at l2
  have huse := L_use hX hG hg (show il < 64 by omega) hlc l1 l2 (by omega) bkr hR
  cases hun : uni G rl (tF G l) (tF G r) with
  | none =>
    rw [hun] at huse
    have e : tryE G ch (6 * b + m - 1) rl l r = ch := by rw [tryE, hun]; rfl
    rw [e]
    simp (disch := omega) only [f_L_tries, huse, ↓nM_lit, iN_lit, iN_add, iN_mul, iN_lt, iN_le, iN_eq, iN_c, gd_iN, iN_nM, nM_iN, iN_ltM, nM_lt, nM_le, iN_leM, iN_0M, nM_p1, iN_0s1, decide_true, decide_eq_true_eq, Nat.not_lt_zero, if_true, if_false, wp_some, wp_grd, wp_lb, wp_ite, wp_b1, wp_b2, wp_b3, wp_b4, wp_b5, ↓reduceIte, wp_b6, wp_b7, wp_b8, wp_b9, eq_grd, eq_lb, eq_b1, eq_b2, eq_b3, eq_b4, eq_b5, eq_b6, eq_b7, eq_b8, eq_b9, show decide (0 + 1 ≤ 1) = true from rfl, show (nM < iN 0) ↔ True by exact ⟨fun _ => trivial, fun _ => by decide⟩, true_and]
    exact ⟨ch, n, Nat.le_refl _, hS, Or.inl rfl, fun h => ⟨h, rfl⟩, oldL_r⟩
  | some u =>
    rw [hun] at huse
    simp only at huse
    have hB := uni_UB hG hg hun
    have e : tryE G ch (6 * b + m - 1) rl l r = addE G ch (6 * b + m - 1) (.branch rl l r) := by rw [tryE, hun]; rfl
    rw [e]
    have hT : WT G (.branch rl l r) := by
      refine ⟨hg, wl, cl, by rw [hun]; rfl, ?_, ?_⟩
      · intro h
        rcases hr with ⟨-, hd, -⟩ | ⟨h', -⟩
        · exact hd
        · exact absurd h h'
      · intro h
        rcases hr with ⟨h', -⟩ | ⟨-, -, hw, hc, hb, -⟩
        · exact absurd h' h
        · exact ⟨hw, hc, hb⟩
    obtain ⟨kt, bkt, ekt⟩ := tK_w hG _ hT
    rw [hww] at bkt
    obtain ⟨-, -, -, c, hc, ec⟩ := id hB
    obtain ⟨-, -, -, n3, hn3, en3, -⟩ := hG.2 rl hg
    have hn : nn (G 26 rl) ≤ 3 := by rw [en3, nn, iN_c (by omega)]; exact hn3
    have nuc : nn u.2.1 = c := by rw [ec, nn, iN_c (by omega)]
    have ksum : kl + kr + c = kt := by
      have : tK G (.branch rl l r) = iN (kl + kr + c) := by
        rw [tK, hun, ekl, ekr]
        show iN kl + iN kr + u.2.1 = _
        rw [ec, iN_add, iN_add]
      rw [this, iN_eq (by omega) (by omega)] at ekt
      exact ekt
    have eF : tF G (.branch rl l r) = pf u := by rw [tF, hun]; rfl
    have hd := dec_le (pf u)
    have hrb := rbN_lt (rel := u.2.2) 3
    have hmd : mdN G rl (kl + kr) u = 10000000 * rbN u.2.2 3 + 10000 * kt + 1000 * pc + dec (pf u) := by rw [mdN, nuc, npc, ksum]
    have hm2 : mdN G rl (kl + kr) u < 2147483648 := by rw [hmd]; omega
    have md1 : mdN G rl (kl + kr) u - mdN G rl (kl + kr) u / 10000 * 10000 = 1000 * nn (tC G (.branch rl l r)) + dec (tF G (.branch rl l r)) := by
      rw [eF, tC, npc, hmd]; omega
    have md2 : mdN G rl (kl + kr) u / 10000 - mdN G rl (kl + kr) u / 10000 / 1000 * 1000 = kt := by rw [hmd]; omega
    have hput := L_put (fr := 10000 * ir + 100 * (il + 1) + rl + 1) sR hG m1 s3 i5 (fun t ht => (i3 _ t ht).1) (t := .branch rl l r) ⟨pc, hpc, epc⟩ (tF_lt hG _ hT) (by
      intro z z1 z2 z3 zo
      refine ⟨il, ir, z1, z2, z3, hil, LT_mono zo l il hil hl, hun0, fun h0 => ?_⟩
      obtain ⟨q, q1, q2, q3⟩ := hbin0 h0
      exact ⟨q, q1, q2, LT_mono zo r q q1 q3⟩)
    rw [ekt] at hput
    have efr : 10000 * ir + 100 * (il + 1) + rl + 1 = 10000 * ir + 100 * (il + 1) + rl + 1 := rfl
    simp (disch := omega) only [f_L_tries, huse, ↓nM_lit, iN_lit, iN_add, iN_mul, iN_lt, iN_le, iN_eq, iN_c, gd_iN, iN_nM, nM_iN, iN_ltM, nM_lt, nM_le, iN_leM, iN_0M, nM_p1, iN_0s1, decide_true, decide_eq_true_eq, Nat.not_lt_zero, if_true, if_false, wp_some, wp_grd, wp_lb, wp_ite, wp_b1, wp_b2, wp_b3, wp_b4, wp_b5, ↓reduceIte, wp_b6, wp_b7, wp_b8, wp_b9, eq_grd, eq_lb, eq_b1, eq_b2, eq_b3, eq_b4, eq_b5, eq_b6, eq_b7, eq_b8, eq_b9, show decide (0 + 1 ≤ 1) = true from rfl, true_and, iN_div, iN_sub, md1, md2, eir]
    refine wp_mono hput ?_
    rintro z ⟨ch', n', h1, h2, h3, h4, h5, h6, h7⟩
    refine ⟨ch', n', h1, ⟨fun k k1 k2 => by rw [h6 k k1 k2]; exact sf k k1 k2, h3, ?_, s3⟩, h4, h5, h7⟩
    rcases h4 with rfl | rfl
    · refine Iv_add sI hT hbb hww ?_
      intro h
      rcases hr with ⟨-, -, -, -, -, h'⟩ | ⟨h', -⟩
      · rw [h']; show nn (G 22 rl) < _; omega
      · exact absurd h h'
    · exact sI
