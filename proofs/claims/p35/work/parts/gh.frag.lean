/-! The law's fragments. -/
def iL (a : Nat) : Int64 := Int64.ofNat a
theorem iL_t {a : Nat} (h : a < 9000000000000000000) : (iL a).toInt = (a : Int) := by
  unfold iL
  rw [Int64.toInt_ofNat_of_lt (by omega)]
theorem iL_add {a b : Nat} : iL a + iL b = iL (a + b) := (Int64.ofNat_add a b).symm
theorem iL_le {a b : Nat} (ha : a < 9000000000000000000) (hb : b < 9000000000000000000) : (iL a ≤ iL b) ↔ a ≤ b := by
  rw [Int64.le_iff_toInt_le, iL_t ha, iL_t hb]; omega
theorem iL_lt {a b : Nat} (ha : a < 9000000000000000000) (hb : b < 9000000000000000000) : (iL a < iL b) ↔ a < b := by
  rw [Int64.lt_iff_toInt_lt, iL_t ha, iL_t hb]; omega
theorem iN_long {a : Nat} (h : a < 2147483648) : (iN a).toInt64 = iL a := by
  rw [← Int64.toInt_inj, Int32.toInt_toInt64, iN_t h, iL_t (by omega)]
theorem uN_ap (f : Nat → Nat) (k v j : Nat) : uN f k v j = if j = k then v else f j := rfl
theorem updL_eq {f : Nat → Int64} {k : Nat} {v : Int64} : vp_updL f k v k = v := if_pos rfl
theorem updL_ne {f : Nat → Int64} {k j : Nat} {v : Int64} (h : j ≠ k) : vp_updL f k v j = f j := if_neg h
/-- the least price of a span -/
def mnL (G : Ob) (l : List Tr) (s0 : Nat) (k : Nat) : Nat := match bsI G nM l k with
  | none => s0
  | some i => nn (tK G (l.getD i dum))
theorem L_min {c w u x z nw2 : Rw} {nw1 : Nat → Int64} {y : Cy} {G : Ob} {ch : Ch} {n0 b m N s0 : Nat} (hG : WGr G) (hx : LCh y G ch n0) (hW : WCh G ch) (hm : 1 ≤ m) (hb : b + m ≤ 3) (hs0 : s0 = 1000000000 ∨ ch (6 * b + m - 1) = []) (hs1 : s0 ≤ 1000000000) (v8 v9 v10 v13 v14 : Int32) :
    wp (f_L_fragments_L95 400 c w u x (yj y) (yb y) (ym y) z nw1 nw2 N v8 v9 v10 v13 v14 (iN (lsp b m)) (iL s0) (iN 0)) (fun r => r.1 = iL (mnL G (ch (6 * b + m - 1)) s0 (ch (6 * b + m - 1)).length)) := by
  have h64 := hx.2.1
  obtain ⟨mm, bb⟩ := hx.2.2 b m hm hb
  have h8 := hW.2 (6 * b + m - 1)
  have hsp : lsp b m < 6 := lsp_lt hm hb
  refine lp_up (F := fun f (Z : Int64) i => f_L_fragments_L95 f c w u x (yj y) (yb y) (ym y) z nw1 nw2 N v8 v9 v10 v13 v14 (iN (lsp b m)) Z i) (V := fun k Z => Z = iL (mnL G (ch (6 * b + m - 1)) s0 k)) (hi := (ch (6 * b + m - 1)).length) ?_ 400 0 (iL s0) (by omega) (by omega) rfl
  intro f Z k hk hV hkk
  subst hV
  by_cases he : k = (ch (6 * b + m - 1)).length
  · subst he
    simp (disch := omega) only [f_L_fragments_L95, ↓nM_lit, iN_lit, iN_add, iN_mul, iN_lt, iN_le, iN_eq, iN_c, gd_iN, iN_nM, nM_iN, iN_ltM, nM_lt, nM_le, iN_leM, iN_0M, nM_p1, iN_0s1, decide_true, decide_eq_true_eq, Nat.not_lt_zero, if_true, if_false, wp_some, wp_grd, wp_lb, wp_ite, wp_b1, wp_b2, wp_b3, wp_b4, wp_b5, ↓reduceIte, wp_b6, wp_b7, wp_b8, wp_b9, hsp, mm, Nat.le_refl, true_and]
  · have hlt : k < (ch (6 * b + m - 1)).length := by omega
    obtain ⟨d, hd, ed, hT⟩ := bb k hlt
    obtain ⟨t1, t2⟩ := LT_2 hT
    obtain ⟨kc, hkc, ekc⟩ := tK_lt hG hW (getD_mem hlt)
    have hs0' : s0 = 1000000000 := by
      rcases hs0 with h | h
      · exact h
      · rw [h] at hlt; exact absurd hlt (Nat.not_lt_zero k)
    rw [ekc] at t2
    have mb : mnL G (ch (6 * b + m - 1)) s0 k ≤ 1000000000 := by
      rw [mnL]
      cases hbs : bsI G nM (ch (6 * b + m - 1)) k with
      | none => exact hs1
      | some i =>
        have hi := (bsI_lt hbs).1
        obtain ⟨ki, hki, eki⟩ := tK_lt hG hW (getD_mem (show i < (ch (6 * b + m - 1)).length by omega))
        simp only [eki]
        rw [nn, iN_c (by omega)]; omega
    have nxt : mnL G (ch (6 * b + m - 1)) s0 (k + 1) = if mnL G (ch (6 * b + m - 1)) s0 k ≤ kc then mnL G (ch (6 * b + m - 1)) s0 k else kc := by
      rw [mnL, mnL, bsI, if_pos (Or.inl rfl)]
      cases hbs : bsI G nM (ch (6 * b + m - 1)) k with
      | none =>
        simp only [ekc]
        rw [nn, iN_c (by omega), if_neg (by omega)]
      | some i =>
        have hi := (bsI_lt hbs).1
        obtain ⟨ki, hki, eki⟩ := tK_lt hG hW (getD_mem (show i < (ch (6 * b + m - 1)).length by omega))
        simp only [eki, ekc]
        have h32 : (iN ki ≤ iN kc) ↔ ki ≤ kc := iN_le (by omega) (by omega)
        by_cases hle : ki ≤ kc
        · rw [if_pos (h32.2 hle)]
          simp only [eki]
          rw [nn, iN_c (by omega), if_pos hle]
        · rw [if_neg (fun hh => hle (h32.1 hh))]
          simp only [ekc]
          rw [nn, nn, iN_c (by omega), iN_c (by omega), if_neg hle]
    have hcmp : (iN 0 ≤ lg_cmp (iL kc) (iL (mnL G (ch (6 * b + m - 1)) s0 k))) ↔ mnL G (ch (6 * b + m - 1)) s0 k ≤ kc := by
      rw [show iN 0 = (0 : Int32) from rfl, lg_cmp_ge, iL_le (by omega) (by omega)]
    simp (disch := omega) only [f_L_fragments_L95, ↓nM_lit, iN_lit, iN_add, iN_mul, iN_lt, iN_le, iN_eq, iN_c, gd_iN, iN_nM, nM_iN, iN_ltM, nM_lt, nM_le, iN_leM, iN_0M, nM_p1, iN_0s1, decide_true, decide_eq_true_eq, Nat.not_lt_zero, if_true, if_false, wp_some, wp_grd, wp_lb, wp_ite, wp_b1, wp_b2, wp_b3, wp_b4, wp_b5, ↓reduceIte, wp_b6, wp_b7, wp_b8, wp_b9, hsp, mm, show ¬ ((ch (6 * b + m - 1)).length ≤ k) by omega, show 8 * lsp b m + k < 48 by omega, ed, show d < 64 by omega, t2, iN_long, hcmp, true_and]
    by_cases hle : mnL G (ch (6 * b + m - 1)) s0 k ≤ kc
    · rw [if_pos hle]
      refine hkk _ hlt ?_
      rw [nxt, if_pos hle]
    · rw [if_neg hle]
      refine hkk _ hlt ?_
      rw [nxt, if_neg hle]
/-- the law's rows of fragments from b on -/
def RLf (nw1 : Nat → Int64) (nw2 : Rw) (F : Fs) (n b : Nat) : Prop := ∀ j, b ≤ j → j ≤ n → ∃ q, nw1 j = iL (100000 * F.1 j + q) ∧ F.2.1 j = iN q ∧ q ≤ 6600 * (n - j) ∧ F.1 j ≤ n - j ∧ (j < n → nw2 j = iN (F.2.2 j))
theorem L_J90 {c w u x z nw2 : Rw} {nw1 : Nat → Int64} {y : Cy} {G : Ob} {ch : Ch} {n0 n b m N s0 : Nat} {F : Fs} (hG : WGr G) (hx : LCh y G ch n0) (hW : WCh G ch) (hb : b + (m + 1) ≤ n) (hn : n ≤ 3) (hs0 : (s0 = 1000000000 ∧ (m = 0 → ch (6 * b) ≠ [])) ∨ (s0 = 0 ∧ m = 0 ∧ ch (6 * b) = [])) (hR : RLf nw1 nw2 F n (b + 1)) (h0 : m = 0 → nw1 b = iL 1000000000) (h1 : m ≠ 0 → RLf nw1 nw2 F n b) (v8 v9 : Int32) :
    wp (f_L_fragments_J90 c w u x (yj y) (yb y) (ym y) z nw1 nw2 N v8 v9 (iN n) (iN b) (iN (m + 1)) (iN (lsp b (m + 1))) (iL s0)) (fun r => r.1 = 0 ∧ r.2.1 = iN (m + 1 + 1) ∧ RLf r.2.2.1 r.2.2.2 (fgW G ch b (m + 1) F) n b) := by
  have hidx : 6 * b + (m + 1) - 1 = 6 * b + m := by omega
  have hm1 : s0 = 1000000000 ∨ ch (6 * b + (m + 1) - 1) = [] := by
    rcases hs0 with ⟨h, -⟩ | ⟨-, h, h'⟩
    · exact Or.inl h
    · rw [hidx, h]; exact Or.inr h'
  have hs1 : s0 ≤ 1000000000 := by rcases hs0 with ⟨h, -⟩ | ⟨h, -⟩ <;> omega
  obtain ⟨r0, er0, hr0⟩ := L_min (c := c) (w := w) (u := u) (x := x) (z := z) (nw1 := nw1) (nw2 := nw2) (N := N) (b := b) (m := m + 1) hG hx hW (by omega) (by omega) hm1 hs1 v8 v9 (iN n) (iN b) (iN (m + 1))
  -- what the span costs
  have hP : (fgP G ch b (m + 1) = none ∧ m ≠ 0 ∧ mnL G (ch (6 * b + (m + 1) - 1)) s0 (ch (6 * b + (m + 1) - 1)).length = 1000000000) ∨ ∃ q, fgP G ch b (m + 1) = some (iN q) ∧ q ≤ 6600 ∧ mnL G (ch (6 * b + (m + 1) - 1)) s0 (ch (6 * b + (m + 1) - 1)).length = q := by
    rw [fgP, mnL]
    cases hbs : bsI G nM (ch (6 * b + (m + 1) - 1)) (ch (6 * b + (m + 1) - 1)).length with
    | none =>
      have hl0 : ch (6 * b + (m + 1) - 1) = [] := by
        by_cases hz : 0 < (ch (6 * b + (m + 1) - 1)).length
        · obtain ⟨i, hi⟩ := bsI_some (G := G) (l := ch (6 * b + (m + 1) - 1)) hz
          rw [hi] at hbs; cases hbs
        · exact List.eq_nil_of_length_eq_zero (by omega)
      rcases hs0 with ⟨h, h'⟩ | ⟨h, h', -⟩
      · have hm : m ≠ 0 := by
          intro hm
          refine h' hm ?_
          rw [hidx, hm] at hl0; exact hl0
        refine Or.inl ⟨?_, hm, h⟩
        simp only [if_neg (show ¬ (m + 1 = 1) by omega)]
      · refine Or.inr ⟨0, ?_, by omega, h⟩
        subst h'
        rfl
    | some i =>
      have hi := (bsI_lt hbs).1
      obtain ⟨ki, hki, eki⟩ := tK_lt hG hW (getD_mem hi)
      refine Or.inr ⟨ki, ?_, hki, ?_⟩
      · simp only [eki]
      · simp only [eki]; rw [nn, iN_c (by omega)]
  obtain ⟨qw, w1, w2, w3, w4, w5⟩ := hR (b + (m + 1)) (by omega) (by omega)
  -- the rows behind a step at b
  have same : m ≠ 0 → fgP G ch b (m + 1) = none → ∀ (nw1' : Nat → Int64) (nw2' : Rw), (∀ j, nw1' j = nw1 j) → (∀ j, nw2' j = nw2 j) → RLf nw1' nw2' (fgW G ch b (m + 1) F) n b := by
    intro hm hp nw1' nw2' e1 e2 j hj1 hj2
    rw [fgW, hp, e1, e2]
    exact h1 hm j hj1 hj2
  have keep : ∀ q, m ≠ 0 → fgP G ch b (m + 1) = some (iN q) → ¬ (m + 1 = 1 ∨ F.1 (b + (m + 1)) + 1 < F.1 b ∨ (F.1 (b + (m + 1)) + 1 = F.1 b ∧ ¬ (F.2.1 b < F.2.1 (b + (m + 1)) + iN q))) → ∀ (nw1' : Nat → Int64) (nw2' : Rw), (∀ j, nw1' j = nw1 j) → (∀ j, nw2' j = nw2 j) → RLf nw1' nw2' (fgW G ch b (m + 1) F) n b := by
    intro q hm hp hno nw1' nw2' e1 e2 j hj1 hj2
    rw [fgW, hp, e1, e2]
    simp only [if_neg hno]
    exact h1 hm j hj1 hj2
  have take : ∀ q, q ≤ 6600 → fgP G ch b (m + 1) = some (iN q) → (m + 1 = 1 ∨ F.1 (b + (m + 1)) + 1 < F.1 b ∨ (F.1 (b + (m + 1)) + 1 = F.1 b ∧ ¬ (F.2.1 b < F.2.1 (b + (m + 1)) + iN q))) → ∀ (nw1' : Nat → Int64) (nw2' : Rw), (∀ j, nw1' j = if j = b then iL (100000 * (F.1 (b + (m + 1)) + 1) + (qw + q)) else nw1 j) → (∀ j, nw2' j = if j = b then iN (m + 1) else nw2 j) → RLf nw1' nw2' (fgW G ch b (m + 1) F) n b := by
    intro q hq hp hyes nw1' nw2' e1 e2 j hj1 hj2
    rw [fgW, hp]
    simp only [if_pos hyes, fgT, uN_ap]
    by_cases hjb : j = b
    · subst hjb
      refine ⟨qw + q, ?_, ?_, by omega, ?_, ?_⟩
      · rw [e1, if_pos rfl, if_pos rfl]
      · rw [if_pos rfl, w2, iN_add]
      · rw [if_pos rfl]; omega
      · intro _; rw [e2, if_pos rfl, if_pos rfl]
    · obtain ⟨q', t1, t2, t3, t4, t5⟩ := hR j (by omega) hj2
      refine ⟨q', ?_, ?_, t3, ?_, ?_⟩
      · rw [e1, if_neg hjb, if_neg hjb]; exact t1
      · rw [if_neg hjb]; exact t2
      · rw [if_neg hjb]; exact t4
      · intro hjn; rw [e2, if_neg hjb, if_neg hjb]; exact t5 hjn
  have e100 : (100000 : Int64) = iL 100000 := rfl
  -- the value at b
  have hB : ∃ vb, nw1 b = iL vb ∧ vb ≤ 1000000000 ∧ (m = 0 → vb = 1000000000) ∧ (m ≠ 0 → ∃ qb, vb = 100000 * F.1 b + qb ∧ F.2.1 b = iN qb ∧ qb ≤ 6600 * (n - b) ∧ F.1 b ≤ n - b) := by
    by_cases hm : m = 0
    · exact ⟨_, h0 hm, by omega, fun _ => rfl, fun h => absurd hm h⟩
    · obtain ⟨qb, t1, t2, t3, t4, t5⟩ := h1 hm b (Nat.le_refl _) (by omega)
      exact ⟨_, t1, by omega, fun h => absurd h hm, fun _ => ⟨qb, rfl, t2, t3, t4⟩⟩
  obtain ⟨vb, b1, b2, b3, b4⟩ := hB
  have J : ∀ V : Nat, V < 3000000000 → r0.1 + iL 100000 + nw1 (b + (m + 1)) = iL V →
      ((vb < V → ∀ (nw1' : Nat → Int64) (nw2' : Rw), (∀ j, nw1' j = nw1 j) → (∀ j, nw2' j = nw2 j) → RLf nw1' nw2' (fgW G ch b (m + 1) F) n b) ∧ (V ≤ vb → ∀ (nw1' : Nat → Int64) (nw2' : Rw), (∀ j, nw1' j = if j = b then iL V else nw1 j) → (∀ j, nw2' j = if j = b then iN (m + 1) else nw2 j) → RLf nw1' nw2' (fgW G ch b (m + 1) F) n b)) →
      wp (f_L_fragments_J90 c w u x (yj y) (yb y) (ym y) z nw1 nw2 N v8 v9 (iN n) (iN b) (iN (m + 1)) (iN (lsp b (m + 1))) (iL s0)) (fun r => r.1 = 0 ∧ r.2.1 = iN (m + 1 + 1) ∧ RLf r.2.2.1 r.2.2.2 (fgW G ch b (m + 1) F) n b) := by
    intro V hV eV hst
    have c1 : (iN 0 < lg_cmp (iL V) (iL vb)) ↔ vb < V := by
      rw [show iN 0 = (0 : Int32) from rfl, lg_cmp_gt, iL_lt (by omega) (by omega)]
    have c2 : (iN 0 ≤ lg_cmp (iL V) (iL vb)) ↔ vb ≤ V := by
      rw [show iN 0 = (0 : Int32) from rfl, lg_cmp_ge, iL_le (by omega) (by omega)]
    simp (disch := omega) only [f_L_fragments_J90, f_L_fragments_J196, er0, e100, ↓nM_lit, iN_lit, iN_add, iN_mul, iN_lt, iN_le, iN_eq, iN_c, gd_iN, iN_nM, nM_iN, iN_ltM, nM_lt, nM_le, iN_leM, iN_0M, nM_p1, iN_0s1, decide_true, decide_eq_true_eq, Nat.not_lt_zero, if_true, if_false, wp_some, wp_grd, wp_lb, wp_ite, wp_b1, wp_b2, wp_b3, wp_b4, wp_b5, ↓reduceIte, wp_b6, wp_b7, wp_b8, wp_b9, eq_grd, eq_lb, eq_b1, eq_b2, eq_b3, eq_b4, eq_b5, eq_b6, eq_b7, eq_b8, eq_b9, show b + (m + 1) < 4 by omega, show b < 4 by omega, eV, b1, c1, c2, true_and]
    by_cases hlt : vb < V
    · rw [if_pos hlt, if_pos (show vb ≤ V by omega)]
      refine hst.1 hlt _ _ (fun j => ?_) (fun j => ?_)
      · by_cases hj : j = b
        · subst hj; rw [updL_eq, b1]
        · rw [updL_ne hj]
      · by_cases hj : j = b
        · subst hj; rw [upd_eq]
        · rw [upd_ne hj]
    · rw [if_neg hlt]
      by_cases heq : vb ≤ V
      · have : V = vb := by omega
        subst this
        rw [if_pos heq]
        refine hst.2 (Nat.le_refl _) _ _ (fun j => ?_) (fun j => ?_)
        · by_cases hj : j = b
          · subst hj; rw [updL_eq, if_pos rfl]
          · rw [updL_ne hj, if_neg hj]
        · by_cases hj : j = b
          · subst hj; rw [upd_eq, if_pos rfl]
          · rw [upd_ne hj, if_neg hj]
      · rw [if_neg heq]
        refine hst.2 (by omega) _ _ (fun j => ?_) (fun j => ?_)
        · by_cases hj : j = b
          · subst hj; rw [updL_eq, if_pos rfl]
          · rw [updL_ne hj, if_neg hj]
        · by_cases hj : j = b
          · subst hj; rw [upd_eq, if_pos rfl]
          · rw [upd_ne hj, if_neg hj]
  rcases hP with ⟨p1, p2, p3⟩ | ⟨q, p1, p2, p3⟩
  · rw [p3] at hr0
    refine J (1000000000 + 100000 + (100000 * F.1 (b + (m + 1)) + qw)) (by omega) (by rw [hr0, w1, iL_add, iL_add]) ⟨fun _ => same p2 p1, fun h => ?_⟩
    exact absurd h (by omega)
  · rw [p3] at hr0
    refine J (q + 100000 + (100000 * F.1 (b + (m + 1)) + qw)) (by omega) (by rw [hr0, w1, iL_add, iL_add]) ⟨fun h => ?_, fun h => ?_⟩
    · have hm : m ≠ 0 := fun hm => by have := b3 hm; omega
      obtain ⟨qb, t1, t2, t3, t4⟩ := b4 hm
      refine keep q hm p1 ?_
      rw [t2, w2, iN_add, iN_lt (by omega) (by omega)]
      rintro (g1 | g1 | ⟨g1, g2⟩)
      · omega
      · omega
      · omega
    · have hyes : m + 1 = 1 ∨ F.1 (b + (m + 1)) + 1 < F.1 b ∨ (F.1 (b + (m + 1)) + 1 = F.1 b ∧ ¬ (F.2.1 b < F.2.1 (b + (m + 1)) + iN q)) := by
        by_cases hm : m = 0
        · exact Or.inl (by omega)
        · obtain ⟨qb, t1, t2, t3, t4⟩ := b4 hm
          rw [t2, w2, iN_add, iN_lt (by omega) (by omega)]
          by_cases g1 : F.1 (b + (m + 1)) + 1 < F.1 b
          · exact Or.inr (Or.inl g1)
          · exact Or.inr (Or.inr ⟨by omega, by omega⟩)
      intro nw1' nw2' e1 e2
      refine take q p2 p1 hyes nw1' nw2' (fun j => ?_) e2
      rw [e1, show q + 100000 + (100000 * F.1 (b + (m + 1)) + qw) = 100000 * (F.1 (b + (m + 1)) + 1) + (qw + q) by omega]
theorem L_fr41 {c w u x z nw2 : Rw} {nw1 : Nat → Int64} {M : Ob} {y : Cy} {G : Ob} {ch : Ch} {n0 n b s N : Nat} {F : Fs} (hG : WGr G) (hW0 : LW0 c w u x M) (hs : s < 2) (hx : LCh y G ch n0) (hW : WCh G ch) (hb : b < n) (hn : n = evn M s) (hc : ∀ p, p < n → (ch (6 * p) = [] ↔ eC (evS M s) p = 0)) (hR : RLf nw1 nw2 F n (b + 1)) (h0 : nw1 b = iL 1000000000) (v9 : Int32) :
    wp (f_L_fragments_L41 400 c w u x (yj y) (yb y) (ym y) z nw1 nw2 N (iN s) v9 (iN n) (iN b) (iN 1)) (fun r => RLf r.2.1 r.2.2 (fgI G ch b (n - b) F) n b) := by
  obtain ⟨n3, -, -, -⟩ := LX_t hW0.2.2.2 hs
  refine lp_up (F := fun f (Z : (Nat → Int64) × Rw) i => f_L_fragments_L41 f c w u x (yj y) (yb y) (ym y) z Z.1 Z.2 N (iN s) v9 (iN n) (iN b) i) (V := fun i Z => 1 ≤ i ∧ RLf Z.1 Z.2 (fgI G ch b (i - 1) F) n (b + 1) ∧ (i = 1 → Z.1 b = iL 1000000000) ∧ (i ≠ 1 → RLf Z.1 Z.2 (fgI G ch b (i - 1) F) n b)) (hi := n - b + 1) ?_ 400 1 (nw1, nw2) (by omega) (by omega) ⟨Nat.le_refl _, hR, fun _ => h0, fun h => absurd rfl h⟩
  rintro f ⟨n1, n2⟩ i hi ⟨hi1, hV1, hV2, hV3⟩ hk
  simp only at hV1 hV2 hV3
  obtain ⟨k, rfl⟩ : ∃ k, i = k + 1 := ⟨i - 1, by omega⟩
  rw [Nat.add_sub_cancel] at hV1 hV3
  by_cases he : k + 1 = n - b + 1
  · have ek : k = n - b := by omega
    simp (disch := omega) only [f_L_fragments_L41, ↓nM_lit, iN_lit, iN_add, iN_mul, iN_lt, iN_le, iN_eq, iN_c, gd_iN, iN_nM, nM_iN, iN_ltM, nM_lt, nM_le, iN_leM, iN_0M, nM_p1, iN_0s1, decide_true, decide_eq_true_eq, Nat.not_lt_zero, if_true, if_false, wp_some, wp_grd, wp_lb, wp_ite, wp_b1, wp_b2, wp_b3, wp_b4, wp_b5, ↓reduceIte, wp_b6, wp_b7, wp_b8, wp_b9, show n < b + (k + 1) by omega]
    rw [← ek]
    exact hV3 (by omega)
  · have hkb : b + (k + 1) ≤ n := by omega
    have fin : ∀ r : Nat × Int32 × (Nat → Int64) × Rw, r.1 = 0 → r.2.1 = iN (k + 1 + 1) → RLf r.2.2.1 r.2.2.2 (fgW G ch b (k + 1) (fgI G ch b k F)) n b → (if r.1 = 0 then wp (f_L_fragments_L41 f c w u x (yj y) (yb y) (ym y) z r.2.2.1 r.2.2.2 N (iN s) v9 (iN n) (iN b) r.2.1) (fun r => RLf r.2.1 r.2.2 (fgI G ch b (n - b) F) n b) else RLf r.2.2.1 r.2.2.2 (fgI G ch b (n - b) F) n b) := by
      intro r r1 r2 r3
      rw [if_pos r1, r2]
      refine hk (r.2.2.1, r.2.2.2) (by omega) ⟨by omega, ?_, fun h => absurd h (by omega), fun _ => r3⟩
      exact fun j h1 h2 => r3 j (by omega) h2
    have hs1 : k = 0 → eC (evS M s) b ≠ 0 → ch (6 * b) ≠ [] := fun _ h h' => h ((hc b hb).1 h')
    by_cases hk0 : k = 0
    · subst hk0
      obtain ⟨ex, -, er, c2, -⟩ := LW_at hW0 hs (show b < evn M s by omega)
      by_cases hec : eC (evS M s) b = 0
      · obtain ⟨r, e, r1, r2, r3⟩ := L_J90 (c := c) (w := w) (u := u) (x := x) (z := z) (N := N) (s0 := 0) (F := fgI G ch b 0 F) hG hx hW hkb (by omega) (Or.inr ⟨rfl, rfl, (hc b hb).2 hec⟩) hV1 (fun _ => hV2 rfl) (fun h => absurd rfl h) (iN s) v9
        simp (disch := omega) only [f_L_fragments_L41, L_span, ↓nM_lit, iN_lit, iN_add, iN_mul, iN_lt, iN_le, iN_eq, iN_c, gd_iN, iN_nM, nM_iN, iN_ltM, nM_lt, nM_le, iN_leM, iN_0M, nM_p1, iN_0s1, decide_true, decide_eq_true_eq, Nat.not_lt_zero, if_true, if_false, wp_some, wp_grd, wp_lb, wp_ite, wp_b1, wp_b2, wp_b3, wp_b4, wp_b5, ↓reduceIte, wp_b6, wp_b7, wp_b8, wp_b9, show ¬ (n < b + (0 + 1)) by omega, show 0 + 1 = 1 from rfl, show 3 * s + b < 6 by omega, ex, er, hec, true_and]
        rw [show (0 : Int64) = iL 0 from rfl, show (1 : Nat) = 0 + 1 from rfl, e, wp_some]
        exact fin r r1 r2 r3
      · obtain ⟨r, e, r1, r2, r3⟩ := L_J90 (c := c) (w := w) (u := u) (x := x) (z := z) (N := N) (s0 := 1000000000) (F := fgI G ch b 0 F) hG hx hW hkb (by omega) (Or.inl ⟨rfl, fun h => hs1 rfl hec⟩) hV1 (fun _ => hV2 rfl) (fun h => absurd rfl h) (iN s) v9
        simp (disch := omega) only [f_L_fragments_L41, f_L_fragments_J87, L_span, ↓nM_lit, iN_lit, iN_add, iN_mul, iN_lt, iN_le, iN_eq, iN_c, gd_iN, iN_nM, nM_iN, iN_ltM, nM_lt, nM_le, iN_leM, iN_0M, nM_p1, iN_0s1, decide_true, decide_eq_true_eq, Nat.not_lt_zero, if_true, if_false, wp_some, wp_grd, wp_lb, wp_ite, wp_b1, wp_b2, wp_b3, wp_b4, wp_b5, ↓reduceIte, wp_b6, wp_b7, wp_b8, wp_b9, show ¬ (n < b + (0 + 1)) by omega, show 0 + 1 = 1 from rfl, show 3 * s + b < 6 by omega, ex, er, hec, true_and]
        rw [show (1000000000 : Int64) = iL 1000000000 from rfl, show (1 : Nat) = 0 + 1 from rfl, e, wp_some]
        exact fin r r1 r2 r3
    · obtain ⟨r, e, r1, r2, r3⟩ := L_J90 (c := c) (w := w) (u := u) (x := x) (z := z) (N := N) (s0 := 1000000000) (F := fgI G ch b k F) hG hx hW hkb (by omega) (Or.inl ⟨rfl, fun h => absurd h hk0⟩) hV1 (fun h => absurd h hk0) (fun _ => hV3 (by omega)) (iN s) v9
      simp (disch := omega) only [f_L_fragments_L41, f_L_fragments_J87, L_span, ↓nM_lit, iN_lit, iN_add, iN_mul, iN_lt, iN_le, iN_eq, iN_c, gd_iN, iN_nM, nM_iN, iN_ltM, nM_lt, nM_le, iN_leM, iN_0M, nM_p1, iN_0s1, decide_true, decide_eq_true_eq, Nat.not_lt_zero, if_true, if_false, wp_some, wp_grd, wp_lb, wp_ite, wp_b1, wp_b2, wp_b3, wp_b4, wp_b5, ↓reduceIte, wp_b6, wp_b7, wp_b8, wp_b9, show ¬ (n < b + (k + 1)) by omega, show ¬ (k + 1 = 1) by omega]
      rw [show (1000000000 : Int64) = iL 1000000000 from rfl, e, wp_some]
      exact fin r r1 r2 r3
theorem L_fr25 {c w u x z : Rw} {M : Ob} {y : Cy} {G : Ob} {ch : Ch} {n0 n s N : Nat} (hG : WGr G) (hW0 : LW0 c w u x M) (hs : s < 2) (hx : LCh y G ch n0) (hW : WCh G ch) (hn : n = evn M s) (hc : ∀ p, p < n → (ch (6 * p) = [] ↔ eC (evS M s) p = 0)) (v9 : Int32) : ∀ (d k : Nat) (nw1 : Nat → Int64) (nw2 : Rw), d ≤ n → d < k → RLf nw1 nw2 (fgO G ch n (n - d)) n d →
    wp (f_L_fragments_L25 k c w u x (yj y) (yb y) (ym y) z nw1 nw2 N (iN s) v9 (iN n) (iD d)) (fun r => RLf r.2.1 r.2.2 (frg G ch n) n 0) := by
  obtain ⟨n3, -, -, -⟩ := LX_t hW0.2.2.2 hs
  intro d
  induction d with
  | zero =>
    intro k nw1 nw2 _ hk hR
    obtain ⟨k, rfl⟩ : ∃ k', k = k' + 1 := ⟨k - 1, by omega⟩
    rw [iD_0]
    simp (disch := omega) only [f_L_fragments_L25, ↓nM_lit, iN_lit, iN_add, iN_mul, iN_lt, iN_le, iN_eq, iN_c, gd_iN, iN_nM, nM_iN, iN_ltM, nM_lt, nM_le, iN_leM, iN_0M, nM_p1, iN_0s1, decide_true, decide_eq_true_eq, Nat.not_lt_zero, if_true, if_false, wp_some, wp_grd, wp_lb, wp_ite, wp_b1, wp_b2, wp_b3, wp_b4, wp_b5, ↓reduceIte, wp_b6, wp_b7, wp_b8, wp_b9, show (nM < iN 0) ↔ True by exact ⟨fun _ => trivial, fun _ => by decide⟩]
    exact hR
  | succ d ih =>
    intro k nw1 nw2 hd hk hR
    obtain ⟨k, rfl⟩ : ∃ k', k = k' + 1 := ⟨k - 1, by omega⟩
    rw [iD_s]
    have h0 : vp_updL nw1 d (iL 1000000000) d = iL 1000000000 := updL_eq
    have hR' : RLf (vp_updL nw1 d (iL 1000000000)) nw2 (fgO G ch n (n - (d + 1))) n (d + 1) := by
      intro j h1 h2
      rw [updL_ne (by omega)]
      exact hR j h1 h2
    have key := L_fr41 (z := z) (N := N) hG hW0 hs hx hW (show d < n by omega) hn hc hR' h0 v9
    simp (disch := omega) only [f_L_fragments_L25, ↓nM_lit, iN_lit, iN_add, iN_mul, iN_lt, iN_le, iN_eq, iN_c, gd_iN, iN_nM, nM_iN, iN_ltM, nM_lt, nM_le, iN_leM, iN_0M, nM_p1, iN_0s1, decide_true, decide_eq_true_eq, Nat.not_lt_zero, if_true, if_false, wp_some, wp_grd, wp_lb, wp_ite, wp_b1, wp_b2, wp_b3, wp_b4, wp_b5, ↓reduceIte, wp_b6, wp_b7, wp_b8, wp_b9, show ¬ (d < 0) by omega, show d < 4 by omega, iD_pM, true_and]
    refine wp_mono key ?_
    intro r hr
    have e1 : fgI G ch d (n - d) (fgO G ch n (n - (d + 1))) = fgO G ch n (n - d) := by
      rw [show n - d = (n - (d + 1)) + 1 by omega, fgO, show n - (n - (d + 1) + 1) = d by omega]
    rw [e1] at hr
    exact ih k _ _ (by omega) (by omega) hr
/-- the law's row of pieces -/
def ZP (z : Rw) (F : Fs) : Prop := ∀ k, k < F.1 0 → z k = iN (10 * plc F k + F.2.2 (plc F k))
theorem L_fr241 {c w u x j b m z0 nw2 : Rw} {nw1 : Nat → Int64} {n N : Nat} {F : Fs} (hn : n ≤ 3) (hI : FI n 0 F) (v9 : Int32) (h9 : (v9 = iN 0 ∧ ∀ k, k < n → nw2 k = iN (F.2.2 k)) ∨ (v9 = iN 1 ∧ F.1 0 = 1 ∧ F.2.2 0 = n)) :
    wp (f_L_fragments_L241 400 c w u x j b m z0 nw1 nw2 N v9 (iN n) (iN 0) (iN 0)) (fun r => r.1 = iN (F.1 0) ∧ ZP r.2.2 F) := by
  have h1n : F.1 0 ≤ n := by have := FI_le hI (Nat.le_refl 0) (Nat.zero_le n); omega
  have key : ∀ (d k i : Nat) (z : Rw), i + d = F.1 0 → d < k → (∀ j, j < i → z j = iN (10 * plc F j + F.2.2 (plc F j))) → wp (f_L_fragments_L241 k c w u x j b m z nw1 nw2 N v9 (iN n) (iN i) (iN (plc F i))) (fun r => r.1 = iN (F.1 0) ∧ ZP r.2.2 F) := by
    intro d
    induction d with
    | zero =>
      intro k i z hi hk hz
      obtain ⟨k, rfl⟩ : ∃ k', k = k' + 1 := ⟨k - 1, by omega⟩
      obtain ⟨p1, p2⟩ := plc_at hI i (by omega)
      have pn : plc F i = n := by
        by_cases h : plc F i < n
        · have := (hI.2 (plc F i) (Nat.zero_le _) h).1
          omega
        · omega
      simp (disch := omega) only [f_L_fragments_L241, ↓nM_lit, iN_lit, iN_add, iN_mul, iN_lt, iN_le, iN_eq, iN_c, gd_iN, iN_nM, nM_iN, iN_ltM, nM_lt, nM_le, iN_leM, iN_0M, nM_p1, iN_0s1, decide_true, decide_eq_true_eq, Nat.not_lt_zero, if_true, if_false, wp_some, wp_grd, wp_lb, wp_ite, wp_b1, wp_b2, wp_b3, wp_b4, wp_b5, ↓reduceIte, wp_b6, wp_b7, wp_b8, wp_b9, pn, Nat.le_refl]
      have ei : i = F.1 0 := by omega
      exact ⟨by rw [ei], fun k hk => hz k (by omega)⟩
    | succ d ih =>
      intro k i z hi hk hz
      obtain ⟨k, rfl⟩ : ∃ k', k = k' + 1 := ⟨k - 1, by omega⟩
      have pl := plc_lt hI (show i < F.1 0 by omega)
      obtain ⟨q1, q2, q3, q4⟩ := hI.2 (plc F i) (Nat.zero_le _) pl
      have nxt : plc F (i + 1) = plc F i + F.2.2 (plc F i) := rfl
      have hz' : ∀ j, j < i + 1 → upd z i (iN (10 * plc F i + F.2.2 (plc F i))) j = iN (10 * plc F j + F.2.2 (plc F j)) := by
        intro j hj
        by_cases hji : j = i
        · subst hji; rw [upd_eq]
        · rw [upd_ne hji]; exact hz j (by omega)
      have fin := ih k (i + 1) _ (by omega) (by omega) hz'
      rw [nxt] at fin
      rcases h9 with ⟨rfl, hw⟩ | ⟨rfl, f1, f2⟩
      · have e2 := hw _ pl
        simp (disch := omega) only [f_L_fragments_L241, f_L_fragments_J272, ↓nM_lit, iN_lit, iN_add, iN_mul, iN_lt, iN_le, iN_eq, iN_c, gd_iN, iN_nM, nM_iN, iN_ltM, nM_lt, nM_le, iN_leM, iN_0M, nM_p1, iN_0s1, decide_true, decide_eq_true_eq, Nat.not_lt_zero, if_true, if_false, wp_some, wp_grd, wp_lb, wp_ite, wp_b1, wp_b2, wp_b3, wp_b4, wp_b5, ↓reduceIte, wp_b6, wp_b7, wp_b8, wp_b9, eq_grd, eq_lb, eq_b1, eq_b2, eq_b3, eq_b4, eq_b5, eq_b6, eq_b7, eq_b8, eq_b9, show ¬ (n ≤ plc F i) by omega, show plc F i < 4 by omega, e2, show i < 64 by omega, true_and]
        exact fin
      · have ei : i = 0 := by omega
        subst ei
        have p0 : plc F 0 = 0 := rfl
        rw [p0, f2] at fin
        rw [p0] at pl
        simp (disch := omega) only [f_L_fragments_L241, f_L_fragments_J272, ↓nM_lit, iN_lit, iN_add, iN_mul, iN_lt, iN_le, iN_eq, iN_c, gd_iN, iN_nM, nM_iN, iN_ltM, nM_lt, nM_le, iN_leM, iN_0M, nM_p1, iN_0s1, decide_true, decide_eq_true_eq, Nat.not_lt_zero, if_true, if_false, wp_some, wp_grd, wp_lb, wp_ite, wp_b1, wp_b2, wp_b3, wp_b4, wp_b5, ↓reduceIte, wp_b6, wp_b7, wp_b8, wp_b9, eq_grd, eq_lb, eq_b1, eq_b2, eq_b3, eq_b4, eq_b5, eq_b6, eq_b7, eq_b8, eq_b9, p0, show ¬ (n ≤ 0) by omega, show ¬ (1 = 0) by omega, true_and]
        exact ⟨by omega, fin⟩
  exact key (F.1 0) 400 0 z0 (by omega) (by omega) (fun j hj => absurd hj (Nat.not_lt_zero j))
theorem L_frag {c w u x z : Rw} {M : Ob} {y : Cy} {G : Ob} {ch : Ch} {n0 n s : Nat} (hG : WGr G) (hW0 : LW0 c w u x M) (hs : s < 2) (hx : LCh y G ch n0) (hW : WCh G ch) (hn : n = evn M s) (hc : ∀ p, p < n → (ch (6 * p) = [] ↔ eC (evS M s) p = 0)) {v9 : Int32} (h9 : v9 = iN 0 ∨ (v9 = iN 1 ∧ ∃ i, wI G ch n = some i)) :
    wp (f_L_fragments c w u x (yj y) (yb y) (ym y) z (iN s) v9) (fun r => r.1 = iN ((frg G ch n).1 0) ∧ ZP r.2 (frg G ch n)) := by
  obtain ⟨n3, e8, -, -⟩ := LX_t hW0.2.2.2 hs
  rw [← hn] at n3 e8
  have hI := frg_I (G := G) (ch := ch) n
  have hR0 : RLf (fun _ => 0) (fun _ => 0) (fgO G ch n (n - n)) n n := by
    rw [Nat.sub_self]
    intro j h1 h2
    refine ⟨0, rfl, rfl, by omega, Nat.zero_le _, fun h => absurd h (by omega)⟩
  have key := L_fr25 (z := z) (N := 2) hG hW0 hs hx hW hn hc v9 n 400 (fun _ => 0) (fun _ => 0) (Nat.le_refl _) (by omega) hR0
  simp (disch := omega) only [f_L_fragments, ↓nM_lit, iN_lit, iN_add, iN_mul, iN_lt, iN_le, iN_eq, iN_c, gd_iN, iN_nM, nM_iN, iN_ltM, nM_lt, nM_le, iN_leM, iN_0M, nM_p1, iN_0s1, decide_true, decide_eq_true_eq, Nat.not_lt_zero, if_true, if_false, wp_some, wp_grd, wp_lb, wp_ite, wp_b1, wp_b2, wp_b3, wp_b4, wp_b5, ↓reduceIte, wp_b6, wp_b7, wp_b8, wp_b9, show 8 + s < 12 by omega, e8, true_and]
  refine wp_mono key ?_
  intro r hr
  have h9' : (v9 = iN 0 ∧ ∀ k, k < n → r.2.2 k = iN ((frg G ch n).2.2 k)) ∨ (v9 = iN 1 ∧ (frg G ch n).1 0 = 1 ∧ (frg G ch n).2.2 0 = n) := by
    rcases h9 with h | ⟨h, i, hi⟩
    · refine Or.inl ⟨h, fun k hk => ?_⟩
      obtain ⟨-, -, -, -, -, h5⟩ := hr k (Nat.zero_le _) (by omega)
      exact h5 hk
    · exact Or.inr ⟨h, frg_w hi⟩
  exact L_fr241 (z0 := z) (N := 2) n3 hI v9 h9'
