/-! Fragments: said once; by the class. -/
theorem tK_le {G : Ob} (hG : WGr G) (t : Tr) : WT G t → ∃ c, c ≤ 60 * (pre t).length ∧ tK G t = iN c := by
  induction t with
  | leaf a => intro _; exact ⟨0, Nat.zero_le _, rfl⟩
  | branch g l r ihl ihr =>
    intro h
    obtain ⟨w1, w2, w3, w4, w5, w6⟩ := h
    obtain ⟨a, ha, ea⟩ := ihl w2
    have hr : ∃ b, b ≤ 60 * (pre r).length ∧ tK G r = iN b := by
      by_cases hu : G 24 g = nM
      · rw [w5 hu]; exact ⟨0, Nat.zero_le _, rfl⟩
      · exact ihr (w6 hu).1
    obtain ⟨b, hb, eb⟩ := hr
    obtain ⟨-, -, -, n3, hn3, en3, -⟩ := hG.2 g w1
    cases hu : uni G g (tF G l) (tF G r) with
    | none => rw [hu] at w4; cases w4
    | some u =>
      obtain ⟨-, -, -, c, hc, ec⟩ := uni_UB hG w1 hu
      rw [en3, nn, iN_c (by omega)] at hc
      refine ⟨a + b + c, ?_, ?_⟩
      · simp only [pre, List.length_cons, List.length_append]; omega
      · rw [tK, ea, eb, hu]
        show iN a + iN b + u.2.1 = _
        rw [ec, iN_add, iN_add]
theorem tK_lt {G : Ob} (hG : WGr G) {ch : Ch} (hW : WCh G ch) {s : Nat} {t : Tr} (h : t ∈ ch s) : ∃ c, c ≤ 6600 ∧ tK G t = iN c := by
  obtain ⟨w, -, h6⟩ := hW.1 s t h
  obtain ⟨c, hc, e⟩ := tK_le hG t w
  have := (pre_len hG t w).2
  obtain ⟨d, hd, e2⟩ := tC_le hG t w
  have e1 : nn (tC G t) = d := by rw [e2, nn, iN_c (by omega)]
  exact ⟨c, by omega, e⟩
abbrev Fs : Type := (Nat → Nat) × (Nat → Int32) × (Nat → Nat)
def fgP (G : Ob) (ch : Ch) (b w : Nat) : Option Int32 := match bsI G nM (ch (6 * b + w - 1)) (ch (6 * b + w - 1)).length with
  | some i => some (tK G ((ch (6 * b + w - 1)).getD i dum))
  | none => if w = 1 then some (iN 0) else none
def fgT (F : Fs) (b : Nat) (n : Nat) (c : Int32) (w : Nat) : Fs := (uN F.1 b n, fun j => if j = b then c else F.2.1 j, uN F.2.2 b w)
def fgB (F : Fs) (b w : Nat) (c : Int32) : Prop := w = 1 ∨ F.1 (b + w) + 1 < F.1 b ∨ (F.1 (b + w) + 1 = F.1 b ∧ ¬ (F.2.1 b < F.2.1 (b + w) + c))
def fgW (G : Ob) (ch : Ch) (b w : Nat) (F : Fs) : Fs := match fgP G ch b w with
  | none => F
  | some c => if w = 1 ∨ F.1 (b + w) + 1 < F.1 b ∨ (F.1 (b + w) + 1 = F.1 b ∧ ¬ (F.2.1 b < F.2.1 (b + w) + c)) then fgT F b (F.1 (b + w) + 1) (F.2.1 (b + w) + c) w else F
def fgI (G : Ob) (ch : Ch) (b : Nat) : Nat → Fs → Fs
  | 0, F => F
  | w + 1, F => fgW G ch b (w + 1) (fgI G ch b w F)
def fgO (G : Ob) (ch : Ch) (n : Nat) : Nat → Fs
  | 0 => (fun _ => 0, fun _ => iN 0, fun _ => 0)
  | d + 1 => fgI G ch (n - (d + 1)) (d + 1) (fgO G ch n d)
def frg (G : Ob) (ch : Ch) (n : Nat) : Fs := fgO G ch n n
/-- places from b on are done -/
def FI (n b : Nat) (F : Fs) : Prop := F.1 n = 0 ∧ ∀ j, b ≤ j → j < n → F.1 j = F.1 (j + F.2.2 j) + 1 ∧ 1 ≤ F.2.2 j ∧ j + F.2.2 j ≤ n ∧ F.1 j + j ≤ n
/-- widths to w are done at the place b -/
def FJ (n b w : Nat) (F : Fs) : Prop := FI n (b + 1) F ∧ (w ≠ 0 → FI n b F ∧ F.2.2 b ≤ w)
theorem FI_le {n b : Nat} {F : Fs} (h : FI n b F) {j : Nat} (h1 : b ≤ j) (h2 : j ≤ n) : F.1 j + j ≤ n := by
  by_cases e : j = n
  · rw [e, h.1]; omega
  · exact (h.2 j h1 (by omega)).2.2.2
theorem fgT_J {n b w : Nat} {F : Fs} {c : Int32} (hw : 1 ≤ w) (hb : b + w ≤ n) (h : FI n (b + 1) F) : FJ n b w (fgT F b (F.1 (b + w) + 1) c w) := by
  have o1 : ∀ j, j ≠ b → (fgT F b (F.1 (b + w) + 1) c w).1 j = F.1 j := fun j hj => by simp only [fgT, uN, hj, if_false]
  have o2 : ∀ j, j ≠ b → (fgT F b (F.1 (b + w) + 1) c w).2.2 j = F.2.2 j := fun j hj => by simp only [fgT, uN, hj, if_false]
  have s1 : (fgT F b (F.1 (b + w) + 1) c w).1 b = F.1 (b + w) + 1 := by simp only [fgT, uN, if_true]
  have s2 : (fgT F b (F.1 (b + w) + 1) c w).2.2 b = w := by simp only [fgT, uN, if_true]
  have hI : FI n (b + 1) (fgT F b (F.1 (b + w) + 1) c w) := by
    refine ⟨by rw [o1 n (by omega)]; exact h.1, ?_⟩
    intro j h1 h2
    rw [o1 j (by omega), o2 j (by omega), o1 _ (by omega)]
    exact h.2 j h1 h2
  refine ⟨hI, fun _ => ⟨⟨hI.1, ?_⟩, Nat.le_of_eq s2⟩⟩
  intro j h1 h2
  by_cases e : j = b
  · subst e
    rw [s1, s2, o1 _ (by omega)]
    have := FI_le h (show j + 1 ≤ j + w by omega) hb
    exact ⟨rfl, hw, hb, by omega⟩
  · exact hI.2 j (by omega) h2
theorem fgW_J {G : Ob} {ch : Ch} {n b w : Nat} {F : Fs} (hb : b + (w + 1) ≤ n) (h : FJ n b w F) : FJ n b (w + 1) (fgW G ch b (w + 1) F) := by
  have keep : w ≠ 0 → FJ n b (w + 1) F := fun hw => ⟨h.1, fun _ => ⟨(h.2 hw).1, by have := (h.2 hw).2; omega⟩⟩
  unfold fgW
  cases hp : fgP G ch b (w + 1) with
  | none =>
    refine keep ?_
    intro e
    subst e
    unfold fgP at hp
    split at hp
    · cases hp
    · rw [if_pos rfl] at hp; cases hp
  | some c =>
    simp only
    split
    · exact fgT_J (by omega) hb h.1
    · rename_i hc
      refine keep ?_
      intro e
      subst e
      exact hc (Or.inl rfl)
theorem fgI_J {G : Ob} {ch : Ch} {n b : Nat} {F : Fs} (h : FI n (b + 1) F) (w : Nat) (hw : b + w ≤ n) : FJ n b w (fgI G ch b w F) := by
  induction w with
  | zero => exact ⟨h, fun h => absurd rfl h⟩
  | succ w ih => rw [fgI]; exact fgW_J hw (ih (by omega))
theorem fgO_I {G : Ob} {ch : Ch} {n : Nat} (d : Nat) (hd : d ≤ n) : FI n (n - d) (fgO G ch n d) := by
  induction d with
  | zero => exact ⟨rfl, fun j h1 h2 => by omega⟩
  | succ d ih =>
    have ih' := ih (by omega)
    rw [show n - d = n - (d + 1) + 1 by omega] at ih'
    exact ((fgI_J ih' (d + 1) (by omega)).2 (by omega)).1
theorem frg_I {G : Ob} {ch : Ch} (n : Nat) : FI n 0 (frg G ch n) := by
  have := fgO_I (G := G) (ch := ch) n (Nat.le_refl n)
  rw [Nat.sub_self] at this
  exact this
/-- three rows hold the fragments from b on -/
def RF (a1 a2 a3 : Nat → Int32) (F : Fs) (n b : Nat) : Prop := ∀ j, b ≤ j → j ≤ n → a1 j = iN (F.1 j) ∧ a2 j = F.2.1 j ∧ (j < n → a3 j = iN (F.2.2 j))
theorem RF_T {a1 a2 a3 : Nat → Int32} {F : Fs} {n b m w : Nat} {c : Int32} (h : RF a1 a2 a3 F n (b + 1)) {a1' a2' a3' : Nat → Int32} (h1 : ∀ j, a1' j = if j = b then iN m else a1 j) (h2 : ∀ j, a2' j = if j = b then c else a2 j) (h3 : ∀ j, a3' j = if j = b then iN w else a3 j) : RF a1' a2' a3' (fgT F b m c w) n b := by
  intro j k1 k2
  rw [h1, h2, h3]
  by_cases e : j = b
  · subst e
    simp only [fgT, uN, if_true]
    exact ⟨trivial, trivial, fun _ => trivial⟩
  · simp only [fgT, uN, e, if_false]
    exact h j (by omega) k2
/-- the class weighs an edge -/
theorem X1_weigh {x G y : Ob} {ch : Ch} {n b w : Nat} {F : Fs} (hx : RCh x G ch) (hW : WCh G ch) (hn : n ≤ 6) (hw : b + (w + 1) ≤ n) (hJ : FJ n b w F) (hR : RF (y 1) (y 2) (y 3) F n (b + 1)) (h0 : w = 0 → y 3 b = iN 0) (h1 : w ≠ 0 → RF (y 1) (y 2) (y 3) F n b) :
    wp (f_X1_weigh y x (iN b) (iN (w + 1))) (fun z => z 0 = y 0 ∧ RF (z 1) (z 2) (z 3) (fgW G ch b (w + 1) F) n b) := by
  have hc := X0_cheap hx (show 6 * b + (w + 1) - 1 < 36 by omega) (hW.2 _) nM
  obtain ⟨r1, r2, -⟩ := hR (b + (w + 1)) (by omega) (by omega)
  have hle := FI_le hJ.1 (show b + 1 ≤ b + (w + 1) by omega) hw
  -- a piece that is there
  have piece : ∀ (e : Int32) (c : Int32), f_X0_priceOf x e = some c → fgP G ch b (w + 1) = some c → wp (f_X1_weigh_J24 y x (iN b) (iN (w + 1)) e) (fun z => z 0 = y 0 ∧ RF (z 1) (z 2) (z 3) (fgW G ch b (w + 1) F) n b) := by
    intro e c he hP
    have put : wp (f_X1_weigh_J107 y x (iN b) (iN (w + 1)) (iN (F.1 (b + (w + 1)) + 1)) (F.2.1 (b + (w + 1)) + c)) (fun z => z 0 = y 0 ∧ RF (z 1) (z 2) (z 3) (fgT F b (F.1 (b + (w + 1)) + 1) (F.2.1 (b + (w + 1)) + c) (w + 1)) n b) := by
      simp (disch := omega) only [f_X1_weigh_J107, ↓nM_lit, iN_lit, iN_add, iN_mul, iN_lt, iN_le, iN_eq, iN_c, gd_iN, iN_nM, nM_iN, iN_ltM, nM_lt, nM_le, iN_leM, iN_0M, nM_p1, iN_0s1, decide_true, decide_eq_true_eq, Nat.not_lt_zero, if_true, if_false, wp_some, wp_grd, wp_lb, wp_ite, wp_b1, wp_b2, wp_b3, wp_b4, wp_b5, show b < 7 by omega, true_and]
      refine ⟨by rw [upo_ne (by decide), upo_ne (by decide), upo_ne (by decide)], ?_⟩
      refine RF_T hR ?_ ?_ ?_
      · intro j; rw [upo_ne (by decide), upo_ne (by decide), upo_ap]; simp only [true_and]
      · intro j; rw [upo_ne (by decide), upo_ap, upo_ne (by decide)]; simp only [true_and]
      · intro j; rw [upo_ap, upo_ne (by decide), upo_ne (by decide)]; simp only [true_and]
    unfold fgW
    rw [hP]
    simp only
    by_cases hw0 : w = 0
    · subst hw0
      have h3 := h0 rfl
      rw [if_pos (Or.inl rfl)]
      simp (disch := omega) only [f_X1_weigh_J24, f_X1_weigh_J86, f_X1_weigh_J90, f_X1_weigh_J91, ↓nM_lit, iN_lit, iN_add, iN_mul, iN_lt, iN_le, iN_eq, iN_c, gd_iN, iN_nM, nM_iN, iN_ltM, nM_lt, nM_le, iN_leM, iN_0M, nM_p1, iN_0s1, decide_true, decide_eq_true_eq, Nat.not_lt_zero, if_true, if_false, wp_some, wp_grd, wp_lb, wp_ite, wp_b1, wp_b2, wp_b3, wp_b4, wp_b5, eq_grd, eq_lb, eq_b1, eq_b2, eq_b3, eq_b4, eq_b5, show b + (0 + 1) < 7 by omega, show b < 7 by omega, r1, r2, he, h3, true_and]
      split
      · exact put
      · split
        · split
          · exact put
          · exact put
        · exact put
    · obtain ⟨s1, s2, s3⟩ := h1 hw0 b (Nat.le_refl b) (by omega)
      have s3' := s3 (by omega)
      obtain ⟨hI, -⟩ := hJ.2 hw0
      obtain ⟨-, g2, g3, g4⟩ := hI.2 b (Nat.le_refl b) (by omega)
      simp (disch := omega) only [f_X1_weigh_J24, f_X1_weigh_J86, f_X1_weigh_J90, f_X1_weigh_J91, ↓nM_lit, iN_lit, iN_add, iN_mul, iN_lt, iN_le, iN_eq, iN_c, gd_iN, iN_nM, nM_iN, iN_ltM, nM_lt, nM_le, iN_leM, iN_0M, nM_p1, iN_0s1, decide_true, decide_eq_true_eq, Nat.not_lt_zero, if_true, if_false, wp_some, wp_grd, wp_lb, wp_ite, wp_b1, wp_b2, wp_b3, wp_b4, wp_b5, eq_grd, eq_lb, eq_b1, eq_b2, eq_b3, eq_b4, eq_b5, show b + (w + 1) < 7 by omega, show b < 7 by omega, r1, r2, he, s1, s2, s3', show ¬ (F.2.2 b = 0) by omega, show ¬ (1 = 0) by decide, show ¬ (w + 1 = 1) by omega, false_or, true_and]
      by_cases c1 : F.1 (b + (w + 1)) + 1 < F.1 b
      · rw [if_pos c1, if_pos (Or.inl c1)]
        exact put
      · rw [if_neg c1]
        by_cases c2 : F.1 (b + (w + 1)) + 1 = F.1 b
        · rw [if_pos c2]
          by_cases c3 : F.2.1 b < F.2.1 (b + (w + 1)) + c
          · rw [if_pos c3, if_neg (by rintro (h | ⟨-, h⟩); exact c1 h; exact h c3)]
            exact h1 hw0
          · rw [if_neg c3, if_pos (Or.inr ⟨c2, c3⟩)]
            exact put
        · rw [if_neg c2, if_neg (by rintro (h | ⟨h, -⟩); exact c1 h; exact c2 h)]
          exact h1 hw0
  rw [f_X1_weigh]
  simp (disch := omega) only [spanN (show 1 ≤ w + 1 by omega), hc, ↓nM_lit, iN_lit, iN_add, iN_mul, iN_lt, iN_le, iN_eq, iN_c, gd_iN, iN_nM, nM_iN, iN_ltM, nM_lt, nM_le, iN_leM, iN_0M, nM_p1, iN_0s1, decide_true, decide_eq_true_eq, Nat.not_lt_zero, if_true, if_false, wp_some, wp_grd, wp_lb, wp_ite, wp_b1, wp_b2, wp_b3, wp_b4, wp_b5, eq_grd, eq_lb, eq_b1, eq_b2, eq_b3, eq_b4, eq_b5]
  cases hb : bsI G nM (ch (6 * b + (w + 1) - 1)) (ch (6 * b + (w + 1) - 1)).length with
  | none =>
    simp (disch := omega) only [oS, ↓nM_lit, iN_lit, iN_add, iN_mul, iN_lt, iN_le, iN_eq, iN_c, gd_iN, iN_nM, nM_iN, iN_ltM, nM_lt, nM_le, iN_leM, iN_0M, nM_p1, iN_0s1, decide_true, decide_eq_true_eq, Nat.not_lt_zero, if_true, if_false]
    by_cases hw0 : w = 0
    · subst hw0
      rw [if_pos (by omega)]
      exact piece nM (iN 0) (X0_get_no x).2.2 (by unfold fgP; rw [hb, if_pos rfl])
    · rw [if_neg (by omega)]
      have : fgW G ch b (w + 1) F = F := by
        unfold fgW fgP; rw [hb, if_neg (by omega)]
      rw [this]
      exact ⟨trivial, h1 hw0⟩
  | some i =>
    have hi := (bsI_lt hb).1
    have h8 := hW.2 (6 * b + (w + 1) - 1)
    obtain ⟨-, -, hp⟩ := X0_get ((hx (6 * b + (w + 1) - 1) (by omega)).2 i hi) (by omega)
    simp (disch := omega) only [oS, ↓nM_lit, iN_lit, iN_add, iN_mul, iN_lt, iN_le, iN_eq, iN_c, gd_iN, iN_nM, nM_iN, iN_ltM, nM_lt, nM_le, iN_leM, iN_0M, nM_p1, iN_0s1, decide_true, decide_eq_true_eq, Nat.not_lt_zero, if_true, if_false]
    exact piece _ _ hp (by unfold fgP; rw [hb])
theorem X1_cut {x G y : Ob} {ch : Ch} {n : Nat} (hx : RCh x G ch) (hW : WCh G ch) (h0 : x 0 0 = iN n) (hn : n ≤ 6) :
    wp (f_X1_cut y x) (fun z => z 0 0 = iN n ∧ RF (z 1) (z 2) (z 3) (frg G ch n) n 0) := by
  have en : (if iN 0 < (if iN 6 < iN n then iN 6 else iN n) then (if iN 6 < iN n then iN 6 else iN n) else iN 0) = iN n := by
    simp (disch := omega) only [↓nM_lit, iN_lit, iN_add, iN_mul, iN_lt, iN_le, iN_eq, iN_c, gd_iN, iN_nM, nM_iN, iN_ltM, nM_lt, nM_le, iN_leM, iN_0M, nM_p1, iN_0s1, decide_true, decide_eq_true_eq, Nat.not_lt_zero, if_true, if_false, show ¬ (6 < n) by omega, if_false]
    by_cases h : n = 0
    · subst h; rfl
    · rw [if_pos (by omega)]
  simp (disch := omega) only [f_X1_cut, iN_lit, h0, en, wp_some, wp_grd, wp_lb, wp_ite, wp_b1, wp_b2, wp_b3, wp_b4, wp_b5]
  have u0 : ∀ (v : Int32), upo y 0 0 v 0 0 = v := fun v => by rw [upo_ap, if_pos ⟨rfl, rfl⟩]
  have u1 : ∀ (z : Ob) (k i : Nat) (v : Int32), k ≠ 0 → upo z k i v 0 0 = z 0 0 := fun z k i v h => by rw [upo_ne (Ne.symm h)]
  simp (disch := omega) only [u0, u1, ↓nM_lit, iN_lit, iN_add, iN_mul, iN_lt, iN_le, iN_eq, iN_c, gd_iN, iN_nM, nM_iN, iN_ltM, nM_lt, nM_le, iN_leM, iN_0M, nM_p1, iN_0s1, decide_true, decide_eq_true_eq, Nat.not_lt_zero, if_true, if_false, show n < 7 by omega, true_and]
  have eD : iN n - iN 1 = iD n := rfl
  rw [eD]
  have hR0 : RF (upo (upo (upo (upo y 0 0 (iN n)) 1 n (iN 0)) 2 n (iN 0)) 3 n (iN 0) 1) (upo (upo (upo (upo y 0 0 (iN n)) 1 n (iN 0)) 2 n (iN 0)) 3 n (iN 0) 2) (upo (upo (upo (upo y 0 0 (iN n)) 1 n (iN 0)) 2 n (iN 0)) 3 n (iN 0) 3) (fgO G ch n 0) n n := by
    intro j k1 k2
    have : j = n := by omega
    subst this
    refine ⟨?_, ?_, fun h => absurd h (Nat.lt_irrefl _)⟩
    · rw [upo_ne (by decide), upo_ne (by decide), upo_ap, if_pos ⟨rfl, rfl⟩]; rfl
    · rw [upo_ne (by decide), upo_ap, if_pos ⟨rfl, rfl⟩]; rfl
  have h00 : upo (upo (upo (upo y 0 0 (iN n)) 1 n (iN 0)) 2 n (iN 0)) 3 n (iN 0) 0 0 = iN n := by
    rw [upo_ne (by decide), upo_ne (by decide), upo_ne (by decide), upo_ap, if_pos ⟨rfl, rfl⟩]
  refine lp_dn (F := fun f (y : Ob) j => f_X1_cut_L54 f y x j) (V := fun d z => d ≤ n ∧ z 0 0 = iN n ∧ RF (z 1) (z 2) (z 3) (fgO G ch n (n - d)) n d) ?_ ?_ 200 n _ (by omega) ⟨Nat.le_refl _, h00, by rw [Nat.sub_self]; exact hR0⟩
  · rintro f z ⟨-, z0, hz⟩
    simp (disch := omega) only [f_X1_cut_L54, ↓nM_lit, iN_lit, iN_add, iN_mul, iN_lt, iN_le, iN_eq, iN_c, gd_iN, iN_nM, nM_iN, iN_ltM, nM_lt, nM_le, iN_leM, iN_0M, nM_p1, iN_0s1, decide_true, decide_eq_true_eq, Nat.not_lt_zero, if_true, if_false, wp_some, wp_grd, wp_lb, wp_ite, wp_b1, wp_b2, wp_b3, wp_b4, wp_b5]
    exact ⟨z0, hz⟩
  · rintro f z d ⟨hd, z0, hz⟩ hk
    simp (disch := omega) only [f_X1_cut_L54, ↓nM_lit, iN_lit, iN_add, iN_mul, iN_lt, iN_le, iN_eq, iN_c, gd_iN, iN_nM, nM_iN, iN_ltM, nM_lt, nM_le, iN_leM, iN_0M, nM_p1, iN_0s1, decide_true, decide_eq_true_eq, Nat.not_lt_zero, if_true, if_false, wp_some, wp_grd, wp_lb, wp_ite, wp_b1, wp_b2, wp_b3, wp_b4, wp_b5, show d < 7 by omega, true_and]
    have inner : wp (f_X1_cut_L67 200 (upo z 3 d (iN 0)) x (iN d) (iN 1)) (fun q => q.2 0 0 = iN n ∧ RF (q.2 1) (q.2 2) (q.2 3) (fgI G ch d (n - d) (fgO G ch n (n - (d + 1)))) n d) := by
      have hI := fgO_I (G := G) (ch := ch) (n := n) (n - (d + 1)) (by omega)
      rw [show n - (n - (d + 1)) = d + 1 by omega] at hI
      refine lp_up (F := fun f (y : Ob) j => f_X1_cut_L67 f y x (iN d) j) (V := fun w q => 1 ≤ w ∧ q 0 0 = iN n ∧ RF (q 1) (q 2) (q 3) (fgI G ch d (w - 1) (fgO G ch n (n - (d + 1)))) n (d + 1) ∧ (w = 1 → q 3 d = iN 0) ∧ (w ≠ 1 → RF (q 1) (q 2) (q 3) (fgI G ch d (w - 1) (fgO G ch n (n - (d + 1)))) n d)) (hi := n - d + 1) ?_ 200 1 _ (by omega) (by omega) ⟨Nat.le_refl _, by rw [upo_ne (by decide)]; exact z0, ?_, fun _ => by rw [upo_ap, if_pos ⟨rfl, rfl⟩], fun h => absurd rfl h⟩
      · rintro f q w hw ⟨hw1, q0, qR, qa, qb⟩ hk2
        by_cases he : w = n - d + 1
        · subst he
          simp (disch := omega) only [f_X1_cut_L67, q0, ↓nM_lit, iN_lit, iN_add, iN_mul, iN_lt, iN_le, iN_eq, iN_c, gd_iN, iN_nM, nM_iN, iN_ltM, nM_lt, nM_le, iN_leM, iN_0M, nM_p1, iN_0s1, decide_true, decide_eq_true_eq, Nat.not_lt_zero, if_true, if_false, wp_some, wp_grd, wp_lb, wp_ite, wp_b1, wp_b2, wp_b3, wp_b4, wp_b5, show n < d + (n - d + 1) by omega]
          exact ⟨trivial, qb (by omega)⟩
        · obtain ⟨w', rfl⟩ : ∃ w', w = w' + 1 := ⟨w - 1, by omega⟩
          rw [show w' + 1 - 1 = w' by omega] at qR qb
          simp (disch := omega) only [f_X1_cut_L67, q0, ↓nM_lit, iN_lit, iN_add, iN_mul, iN_lt, iN_le, iN_eq, iN_c, gd_iN, iN_nM, nM_iN, iN_ltM, nM_lt, nM_le, iN_leM, iN_0M, nM_p1, iN_0s1, decide_true, decide_eq_true_eq, Nat.not_lt_zero, if_true, if_false, wp_some, wp_grd, wp_lb, wp_ite, wp_b1, wp_b2, wp_b3, wp_b4, wp_b5, show ¬ (n < d + (w' + 1)) by omega]
          refine wp_mono (X1_weigh hx hW hn (show d + (w' + 1) ≤ n by omega) (fgI_J hI w' (by omega)) qR (fun h => qa (by omega)) (fun h => qb (by omega))) ?_
          rintro v ⟨v0, vR⟩
          refine hk2 v (by omega) ⟨by omega, by rw [v0]; exact q0, ?_, fun h => by omega, fun _ => ?_⟩
          · rw [show w' + 1 + 1 - 1 = w' + 1 by omega, fgI]
            intro j k1 k2
            exact vR j (by omega) k2
          · rw [show w' + 1 + 1 - 1 = w' + 1 by omega, fgI]; exact vR
      · rw [show (1 : Nat) - 1 = 0 by omega, fgI]
        intro j k1 k2
        rw [upo_ne (by decide), upo_ne (by decide), upo_ap, if_neg (by omega)]
        exact hz j k1 k2
    refine wp_mono inner ?_
    rintro ⟨q1, q2⟩ ⟨a1, a2⟩
    simp only [iD_pM]
    refine hk q2 ⟨by omega, a1, ?_⟩
    have e : fgO G ch n (n - d) = fgI G ch d (n - d) (fgO G ch n (n - (d + 1))) := by
      obtain ⟨k, hk'⟩ : ∃ k, n - d = k + 1 := ⟨n - d - 1, by omega⟩
      rw [hk', fgO, show n - (k + 1) = d by omega, show n - (d + 1) = k by omega]
    rw [e]; exact a2
