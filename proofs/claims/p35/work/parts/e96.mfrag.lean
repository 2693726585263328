/-! Fragments: by the reference. -/
theorem bsI_some {G : Ob} {l : List Tr} {k : Nat} (h : 0 < k) : ∃ i, bsI G nM l k = some i := by
  obtain ⟨k, rfl⟩ : ∃ j, k = j + 1 := ⟨k - 1, by omega⟩
  rw [bsI, if_pos (Or.inl rfl)]
  cases bsI G nM l k with
  | none => exact ⟨k, rfl⟩
  | some i =>
    simp only
    split
    · exact ⟨i, rfl⟩
    · exact ⟨k, rfl⟩
def mnI (G : Ob) (l : List Tr) (o : Option Nat) : Int32 := match o with
  | none => iN 100000
  | some i => tK G (l.getD i dum)
theorem X11_min {M G : Ob} {ch : Ch} {n0 s : Nat} (hG : WGr G) (hx : MCh M G ch n0) (hn0 : n0 ≤ 40000) (hW : WCh G ch) (hs : s < 36) (v1 v2 v3 v4 : Int32) :
    wp (f_X11_findFragments_L95 200 M v1 v2 v3 v4 (iN s) (iN 100000) (iN 0)) (fun r => r.1 = mnI G (ch s) (bsI G nM (ch s) (ch s).length)) := by
  have h8 := hW.2 s
  obtain ⟨x1, xr⟩ := hx.2 s hs
  refine lp_up (F := fun f v j => f_X11_findFragments_L95 f M v1 v2 v3 v4 (iN s) v j) (V := fun k v => v = mnI G (ch s) (bsI G nM (ch s) k)) (hi := (ch s).length) ?_ 200 0 (iN 100000) (by omega) (by omega) rfl
  rintro f v k hk hv hkk
  by_cases he : k = (ch s).length
  · subst he
    simp (disch := omega) only [f_X11_findFragments_L95, ↓nM_lit, iN_lit, iN_add, iN_mul, iN_lt, iN_le, iN_eq, iN_c, gd_iN, iN_nM, nM_iN, iN_ltM, nM_lt, nM_le, iN_leM, iN_0M, nM_p1, iN_0s1, decide_true, decide_eq_true_eq, Nat.not_lt_zero, if_true, if_false, wp_some, wp_grd, wp_lb, wp_ite, wp_b1, wp_b2, wp_b3, wp_b4, wp_b5, hs, x1, Nat.le_refl, true_and]
    exact hv
  · have hlt : k < (ch s).length := by omega
    obtain ⟨d, hd, ed, hmd⟩ := xr k hlt
    obtain ⟨c2, c3, c4⟩ := MC_2 hmd
    obtain ⟨a, ha, ea⟩ := tK_lt hG hW (getD_mem hlt)
    simp (disch := omega) only [f_X11_findFragments_L95, ↓nM_lit, iN_lit, iN_add, iN_mul, iN_lt, iN_le, iN_eq, iN_c, gd_iN, iN_nM, nM_iN, iN_ltM, nM_lt, nM_le, iN_leM, iN_0M, nM_p1, iN_0s1, decide_true, decide_eq_true_eq, Nat.not_lt_zero, if_true, if_false, wp_some, wp_grd, wp_lb, wp_ite, wp_b1, wp_b2, wp_b3, wp_b4, wp_b5, eq_grd, eq_lb, eq_b1, eq_b2, eq_b3, eq_b4, eq_b5, hs, x1, show ¬ ((ch s).length ≤ k) by omega, show 8 * s + k < 288 by omega, ed, show d < 40000 by omega, c4, true_and]
    cases hb : bsI G nM (ch s) k with
    | none =>
      rw [hb] at hv
      subst hv
      rw [ea]
      simp (disch := omega) only [mnI, ↓nM_lit, iN_lit, iN_add, iN_mul, iN_lt, iN_le, iN_eq, iN_c, gd_iN, iN_nM, nM_iN, iN_ltM, nM_lt, nM_le, iN_leM, iN_0M, nM_p1, iN_0s1, decide_true, decide_eq_true_eq, Nat.not_lt_zero, if_true, if_false, show ¬ (100000 ≤ a) by omega, if_false]
      refine hkk _ (by omega) ?_
      rw [bsI, if_pos (Or.inl rfl), hb]; exact ea.symm
    | some j =>
      have hv2 : v = tK G ((ch s).getD j dum) := by rw [hv, hb]; rfl
      rw [hv2]
      by_cases hk2 : tK G ((ch s).getD j dum) ≤ tK G ((ch s).getD k dum)
      · rw [if_pos hk2]
        refine hkk _ (by omega) ?_
        rw [bsI, if_pos (Or.inl rfl), hb]
        simp only [if_pos hk2, mnI]
      · rw [if_neg hk2]
        refine hkk _ (by omega) ?_
        rw [bsI, if_pos (Or.inl rfl), hb]
        simp only [if_neg hk2, mnI]
/-- the reference's rows of fragments, and what else stands -/
def SF (M y : Ob) (F : Fs) (n b : Nat) : Prop := (∀ k, (k < 47 ∨ 51 < k) → y k = M k) ∧ RF (y 49) (y 50) (y 51) F n b
theorem X11_weigh {M G y : Ob} {ch : Ch} {n b w : Nat} {F : Fs} (hn : n ≤ 6) (hw : b + (w + 1) ≤ n) (hJ : FJ n b w F) (hR : SF M y F n (b + 1)) (h0 : w = 0 → y 49 b = iN 100) (h1 : w ≠ 0 → SF M y F n b) {c : Int32} {s0 v1 v2 v5 : Int32}
    (hL : wp (f_X11_findFragments_L95 200 y v1 v2 (iN b) (iN (w + 1)) v5 s0 (iN 0)) (fun r => r.1 = c)) (hP : (fgP G ch b (w + 1) = none ∧ c = iN 100000) ∨ (fgP G ch b (w + 1) = some c ∧ ∃ a, a ≤ 6600 ∧ c = iN a)) :
    wp (f_X11_findFragments_J90 y v1 v2 (iN b) (iN (w + 1)) v5 s0) (fun q => q.1 = 0 ∧ q.2.1 = iN (w + 1 + 1) ∧ SF M q.2.2 (fgW G ch b (w + 1) F) n b) := by
  obtain ⟨r1, r2, -⟩ := hR.2 (b + (w + 1)) (by omega) (by omega)
  have hle := FI_le hJ.1 (show b + 1 ≤ b + (w + 1) by omega) hw
  have ec1 : 1 + F.1 (b + (w + 1)) = F.1 (b + (w + 1)) + 1 := Nat.add_comm _ _
  have ec2 : c + F.2.1 (b + (w + 1)) = F.2.1 (b + (w + 1)) + c := Int32.add_comm _ _
  rw [f_X11_findFragments_J90]
  simp only [wp_some, wp_grd, wp_lb, wp_ite, wp_b1, wp_b2, wp_b3, wp_b4, wp_b5]
  refine wp_mono hL ?_
  rintro ⟨o1, o2⟩ ho
  simp only at ho
  subst ho
  simp (disch := omega) only [↓nM_lit, iN_lit, iN_add, iN_mul, iN_lt, iN_le, iN_eq, iN_c, gd_iN, iN_nM, nM_iN, iN_ltM, nM_lt, nM_le, iN_leM, iN_0M, nM_p1, iN_0s1, decide_true, decide_eq_true_eq, Nat.not_lt_zero, if_true, if_false, wp_some, wp_grd, wp_lb, wp_ite, wp_b1, wp_b2, wp_b3, wp_b4, wp_b5, eq_grd, eq_lb, eq_b1, eq_b2, eq_b3, eq_b4, eq_b5, show b + (w + 1) < 7 by omega, show b < 7 by omega, r1, r2, ec1, ec2, true_and]
  rcases hP with ⟨hP, hc⟩ | ⟨hP, a, ha, hc⟩
  · have hw0 : w ≠ 0 := by
      intro e; subst e
      unfold fgP at hP
      split at hP
      · cases hP
      · rw [if_pos rfl] at hP; cases hP
    have e : fgW G ch b (w + 1) F = F := by unfold fgW; rw [hP]
    rw [e]
    simp (disch := omega) only [hc, ↓nM_lit, iN_lit, iN_add, iN_mul, iN_lt, iN_le, iN_eq, iN_c, gd_iN, iN_nM, nM_iN, iN_ltM, nM_lt, nM_le, iN_leM, iN_0M, nM_p1, iN_0s1, decide_true, decide_eq_true_eq, Nat.not_lt_zero, if_true, if_false, Nat.le_refl, wp_some, wp_grd, wp_lb, wp_ite, wp_b1, wp_b2, wp_b3, wp_b4, wp_b5, true_and]
    exact h1 hw0
  · have hlt : ¬ (iN 100000 ≤ o1) := by rw [hc, iN_le (by omega) (by omega)]; omega
    rw [if_neg hlt]
    have put : wp (f_X11_findFragments_J229 y v1 v2 (iN b) (iN (w + 1)) (iN (F.1 (b + (w + 1)) + 1)) (F.2.1 (b + (w + 1)) + o1)) (fun q => q.1 = 0 ∧ q.2.1 = iN (w + 1 + 1) ∧ SF M q.2.2 (fgT F b (F.1 (b + (w + 1)) + 1) (F.2.1 (b + (w + 1)) + o1) (w + 1)) n b) := by
      simp (disch := omega) only [f_X11_findFragments_J229, ↓nM_lit, iN_lit, iN_add, iN_mul, iN_lt, iN_le, iN_eq, iN_c, gd_iN, iN_nM, nM_iN, iN_ltM, nM_lt, nM_le, iN_leM, iN_0M, nM_p1, iN_0s1, decide_true, decide_eq_true_eq, Nat.not_lt_zero, if_true, if_false, wp_some, wp_grd, wp_lb, wp_ite, wp_b1, wp_b2, wp_b3, wp_b4, wp_b5, show b < 7 by omega, true_and]
      refine ⟨fun k hk => by rw [upo_ne (by omega), upo_ne (by omega), upo_ne (by omega)]; exact hR.1 k hk, ?_⟩
      refine RF_T hR.2 ?_ ?_ ?_
      · intro j; rw [upo_ne (by decide), upo_ne (by decide), upo_ap]; simp only [true_and]
      · intro j; rw [upo_ne (by decide), upo_ap, upo_ne (by decide)]; simp only [true_and]
      · intro j; rw [upo_ap, upo_ne (by decide), upo_ne (by decide)]; simp only [true_and]
    unfold fgW
    rw [hP]
    simp only
    by_cases hw0 : w = 0
    · subst hw0
      rw [if_pos (Or.inl rfl)]
      simp (disch := omega) only [h0 rfl, ↓nM_lit, iN_lit, iN_add, iN_mul, iN_lt, iN_le, iN_eq, iN_c, gd_iN, iN_nM, nM_iN, iN_ltM, nM_lt, nM_le, iN_leM, iN_0M, nM_p1, iN_0s1, decide_true, decide_eq_true_eq, Nat.not_lt_zero, if_true, if_false, show F.1 (b + (0 + 1)) + 1 < 100 by omega]
      exact put
    · obtain ⟨s1, s2, s3⟩ := (h1 hw0).2 b (Nat.le_refl b) (by omega)
      obtain ⟨hI, -⟩ := hJ.2 hw0
      obtain ⟨-, g2, g3, g4⟩ := hI.2 b (Nat.le_refl b) (by omega)
      simp (disch := omega) only [s1, s2, ↓nM_lit, iN_lit, iN_add, iN_mul, iN_lt, iN_le, iN_eq, iN_c, gd_iN, iN_nM, nM_iN, iN_ltM, nM_lt, nM_le, iN_leM, iN_0M, nM_p1, iN_0s1, decide_true, decide_eq_true_eq, Nat.not_lt_zero, if_true, if_false, wp_some, wp_grd, wp_lb, wp_ite, wp_b1, wp_b2, wp_b3, wp_b4, wp_b5, show ¬ (w + 1 = 1) by omega, false_or, true_and]
      by_cases c1 : F.1 (b + (w + 1)) + 1 < F.1 b
      · rw [if_pos c1, if_pos (Or.inl c1)]
        exact put
      · rw [if_neg c1]
        by_cases c2 : F.1 (b + (w + 1)) + 1 = F.1 b
        · rw [if_pos c2]
          by_cases c3 : F.2.1 b < F.2.1 (b + (w + 1)) + o1
          · rw [if_pos c3, if_neg (by rintro (h | ⟨-, h⟩); exact c1 h; exact h c3)]
            exact h1 hw0
          · rw [if_neg c3, if_pos (Or.inr ⟨c2, c3⟩)]
            exact put
        · rw [if_neg c2, if_neg (by rintro (h | ⟨h, -⟩); exact c1 h; exact c2 h)]
          exact h1 hw0
def plc (F : Fs) : Nat → Nat
  | 0 => 0
  | k + 1 => plc F k + F.2.2 (plc F k)
theorem plc_at {n : Nat} {F : Fs} (h : FI n 0 F) (k : Nat) (hk : k ≤ F.1 0) : plc F k ≤ n ∧ F.1 (plc F k) + k = F.1 0 := by
  induction k with
  | zero => exact ⟨Nat.zero_le _, rfl⟩
  | succ k ih =>
    obtain ⟨a, b⟩ := ih (by omega)
    have hlt : plc F k < n := by
      by_cases e : plc F k = n
      · rw [e, h.1] at b; omega
      · omega
    obtain ⟨c1, c2, c3, c4⟩ := h.2 (plc F k) (Nat.zero_le _) hlt
    rw [plc]
    omega
theorem plc_lt {n : Nat} {F : Fs} (h : FI n 0 F) {k : Nat} (hk : k < F.1 0) : plc F k < n := by
  obtain ⟨a, b⟩ := plc_at h k (by omega)
  by_cases e : plc F k = n
  · rw [e, h.1] at b; omega
  · omega
theorem frg_w {G : Ob} {ch : Ch} {n i : Nat} (h : wI G ch n = some i) : (frg G ch n).1 0 = 1 ∧ (frg G ch n).2.2 0 = n := by
  obtain ⟨hn, hi, -⟩ := wI_lt h
  obtain ⟨j, hj⟩ := bsI_some (G := G) (l := ch (n - 1)) (show 0 < (ch (n - 1)).length by omega)
  obtain ⟨d, rfl⟩ : ∃ d, n = d + 1 := ⟨n - 1, by omega⟩
  have hP : fgP G ch 0 (d + 1) = some (tK G ((ch d).getD j dum)) := by
    unfold fgP
    rw [show 6 * 0 + (d + 1) - 1 = d by omega]
    rw [show d + 1 - 1 = d by omega] at hj
    rw [hj]
  have e1 : frg G ch (d + 1) = fgW G ch 0 (d + 1) (fgI G ch 0 d (fgO G ch (d + 1) d)) := by
    rw [frg, fgO, Nat.sub_self, fgI]
  have hI := fgO_I (G := G) (ch := ch) (n := d + 1) d (by omega)
  rw [show d + 1 - d = 0 + 1 by omega] at hI
  have hJ := fgI_J (G := G) (ch := ch) hI d (by omega)
  have e0 : (fgI G ch 0 d (fgO G ch (d + 1) d)).1 (0 + (d + 1)) = 0 := by rw [Nat.zero_add]; exact hJ.1.1
  have hset : fgW G ch 0 (d + 1) (fgI G ch 0 d (fgO G ch (d + 1) d)) = fgT (fgI G ch 0 d (fgO G ch (d + 1) d)) 0 1 ((fgI G ch 0 d (fgO G ch (d + 1) d)).2.1 (0 + (d + 1)) + tK G ((ch d).getD j dum)) (d + 1) := by
    unfold fgW
    rw [hP]
    simp only
    rw [if_pos, e0]
    rw [e0]
    by_cases hd : d = 0
    · exact Or.inl (by omega)
    · obtain ⟨hb, hle⟩ := hJ.2 hd
      obtain ⟨c1, c2, c3, c4⟩ := hb.2 0 (Nat.le_refl _) (by omega)
      have hlt : (fgI G ch 0 d (fgO G ch (d + 1) d)).2.2 0 < d + 1 := by omega
      obtain ⟨d1, -⟩ := hb.2 (0 + (fgI G ch 0 d (fgO G ch (d + 1) d)).2.2 0) (by omega) (by omega)
      exact Or.inr (Or.inl (by omega))
  rw [e1, hset]
  exact ⟨rfl, rfl⟩
theorem X11_frag {M G : Ob} {ch : Ch} {n0 n s : Nat} {E : Ev} {wd : Nat → Nat} (hG : WGr G) (hx : MCh M G ch n0) (hn0 : n0 ≤ 40000) (hW : WCh G ch) (hs : s < 4) (h9 : M 9 s = iN n) (hn : n ≤ 6)
    (hc : ∀ y : Ob, (∀ k, k < 11 → y k = M k) → ∀ b, b < n → y 10 (6 * s + b) = iN (wd b) ∧ f_X11_countOf y (iN (wd b)) = some (iN (eC E b)) ∧ eC E b ≤ 4 ∧ (ch (6 * b) = [] ↔ eC E b = 0)) :
    wp (f_X11_findFragments M (iN s)) (fun z => (∀ k, (k < 47 ∨ 51 < k) → z k = M k) ∧ z 47 0 = iN ((frg G ch n).1 0) ∧ ∀ k, k < (frg G ch n).1 0 → z 48 k = iN (10 * plc (frg G ch n) k + (frg G ch n).2.2 (plc (frg G ch n) k))) := by
  have hFI := frg_I (G := G) (ch := ch) n
  have hle := FI_le hFI (Nat.le_refl 0) (Nat.zero_le n)
  have eD : iN n - iN 1 = iD n := rfl
  simp (disch := omega) only [f_X11_findFragments, ↓nM_lit, iN_lit, iN_add, iN_mul, iN_lt, iN_le, iN_eq, iN_c, gd_iN, iN_nM, nM_iN, iN_ltM, nM_lt, nM_le, iN_leM, iN_0M, nM_p1, iN_0s1, decide_true, decide_eq_true_eq, Nat.not_lt_zero, if_true, if_false, wp_some, wp_grd, wp_lb, wp_ite, wp_b1, wp_b2, wp_b3, wp_b4, wp_b5, eq_grd, eq_lb, eq_b1, eq_b2, eq_b3, eq_b4, eq_b5, hs, h9, show n < 7 by omega, eD, true_and]
  have main : wp (f_X11_findFragments_L25 200 (upo (upo M 49 n (iN 0)) 50 n (iN 0)) (iN s) (iN n) (iD n)) (fun q => SF M q.2 (frg G ch n) n 0) := by
    refine lp_dn (F := fun f (y : Ob) j => f_X11_findFragments_L25 f y (iN s) (iN n) j) (V := fun d z => d ≤ n ∧ SF M z (fgO G ch n (n - d)) n d) ?_ ?_ 200 n _ (by omega) ⟨Nat.le_refl _, ?_⟩
    · rintro f z ⟨-, hz⟩
      simp (disch := omega) only [f_X11_findFragments_L25, ↓nM_lit, iN_lit, iN_add, iN_mul, iN_lt, iN_le, iN_eq, iN_c, gd_iN, iN_nM, nM_iN, iN_ltM, nM_lt, nM_le, iN_leM, iN_0M, nM_p1, iN_0s1, decide_true, decide_eq_true_eq, Nat.not_lt_zero, if_true, if_false, wp_some, wp_grd, wp_lb, wp_ite, wp_b1, wp_b2, wp_b3, wp_b4, wp_b5]
      exact hz
    · rintro f z d ⟨hd, hz⟩ hk
      simp (disch := omega) only [f_X11_findFragments_L25, ↓nM_lit, iN_lit, iN_add, iN_mul, iN_lt, iN_le, iN_eq, iN_c, gd_iN, iN_nM, nM_iN, iN_ltM, nM_lt, nM_le, iN_leM, iN_0M, nM_p1, iN_0s1, decide_true, decide_eq_true_eq, Nat.not_lt_zero, if_true, if_false, wp_some, wp_grd, wp_lb, wp_ite, wp_b1, wp_b2, wp_b3, wp_b4, wp_b5, show d < 7 by omega, true_and]
      have hI := fgO_I (G := G) (ch := ch) (n := n) (n - (d + 1)) (by omega)
      rw [show n - (n - (d + 1)) = d + 1 by omega] at hI
      have inner : wp (f_X11_findFragments_L40 200 (upo z 49 d (iN 100)) (iN s) (iN n) (iN d) (iN 1)) (fun q => SF M q.2 (fgI G ch d (n - d) (fgO G ch n (n - (d + 1)))) n d) := by
        refine lp_up (F := fun f (y : Ob) j => f_X11_findFragments_L40 f y (iN s) (iN n) (iN d) j) (V := fun w q => 1 ≤ w ∧ SF M q (fgI G ch d (w - 1) (fgO G ch n (n - (d + 1)))) n (d + 1) ∧ (w = 1 → q 49 d = iN 100) ∧ (w ≠ 1 → SF M q (fgI G ch d (w - 1) (fgO G ch n (n - (d + 1)))) n d)) (hi := n - d + 1) ?_ 200 1 _ (by omega) (by omega) ⟨Nat.le_refl _, ?_, fun _ => by rw [upo_ap, if_pos ⟨rfl, rfl⟩], fun h => absurd rfl h⟩
        · rintro f q w hw ⟨hw1, qR, qa, qb⟩ hk2
          by_cases he : w = n - d + 1
          · subst he
            simp (disch := omega) only [f_X11_findFragments_L40, ↓nM_lit, iN_lit, iN_add, iN_mul, iN_lt, iN_le, iN_eq, iN_c, gd_iN, iN_nM, nM_iN, iN_ltM, nM_lt, nM_le, iN_leM, iN_0M, nM_p1, iN_0s1, decide_true, decide_eq_true_eq, Nat.not_lt_zero, if_true, if_false, wp_some, wp_grd, wp_lb, wp_ite, wp_b1, wp_b2, wp_b3, wp_b4, wp_b5, show n < d + (n - d + 1) by omega]
            exact qb (by omega)
          · obtain ⟨w', rfl⟩ : ∃ w', w = w' + 1 := ⟨w - 1, by omega⟩
            rw [show w' + 1 - 1 = w' by omega] at qR qb
            have hxq : MCh q G ch n0 := MCh_cg (fun k h1 h2 => qR.1 k (by omega)) hx
            have hmin := X11_min hG hxq hn0 hW (show 6 * d + (w' + 1) - 1 < 36 by omega) (iN s) (iN n) (iN d) (iN (w' + 1))
            have hcont : ∀ o : Nat × Int32 × Ob, (o.1 = 0 ∧ o.2.1 = iN (w' + 1 + 1) ∧ SF M o.2.2 (fgW G ch d (w' + 1) (fgI G ch d w' (fgO G ch n (n - (d + 1))))) n d) → (if o.1 = 0 then wp (f_X11_findFragments_L40 f o.2.2 (iN s) (iN n) (iN d) o.2.1) (fun q => SF M q.2 (fgI G ch d (n - d) (fgO G ch n (n - (d + 1)))) n d) else SF M o.2.2 (fgI G ch d (n - d) (fgO G ch n (n - (d + 1)))) n d) := by
              rintro ⟨o1, o2, o3⟩ ⟨e1, e2, e3⟩
              simp only at e1 e2 e3 ⊢
              rw [if_pos e1, e2]
              refine hk2 o3 (by omega) ⟨by omega, ?_, fun h => by omega, fun _ => ?_⟩
              · rw [show w' + 1 + 1 - 1 = w' + 1 by omega, fgI]
                exact ⟨e3.1, fun j k1 k2 => e3.2 j (by omega) k2⟩
              · rw [show w' + 1 + 1 - 1 = w' + 1 by omega, fgI]; exact e3
            have weigh := fun (c : Int32) (s0 : Int32) (hL : wp (f_X11_findFragments_L95 200 q (iN s) (iN n) (iN d) (iN (w' + 1)) (iN (6 * d + (w' + 1) - 1)) s0 (iN 0)) (fun r => r.1 = c)) hP => X11_weigh (G := G) (ch := ch) hn (show d + (w' + 1) ≤ n by omega) (fgI_J hI w' (by omega)) qR (fun h => qa (by omega)) (fun h => qb (by omega)) (c := c) (s0 := s0) (v1 := iN s) (v2 := iN n) (v5 := iN (6 * d + (w' + 1) - 1)) hL hP
            have some_ok : ∀ i, bsI G nM (ch (6 * d + (w' + 1) - 1)) (ch (6 * d + (w' + 1) - 1)).length = some i → wp (f_X11_findFragments_J90 q (iN s) (iN n) (iN d) (iN (w' + 1)) (iN (6 * d + (w' + 1) - 1)) (iN 100000)) (fun q => q.1 = 0 ∧ q.2.1 = iN (w' + 1 + 1) ∧ SF M q.2.2 (fgW G ch d (w' + 1) (fgI G ch d w' (fgO G ch n (n - (d + 1))))) n d) := by
              intro i hi
              rw [hi] at hmin
              obtain ⟨a, ha, ea⟩ := tK_lt hG hW (getD_mem (bsI_lt hi).1)
              exact weigh _ _ hmin (Or.inr ⟨by unfold fgP; rw [hi]; rfl, a, ha, ea⟩)
            have es : iN (6 * d + (w' + 1)) - iN 1 = iN (6 * d + (w' + 1) - 1) := iN_sub (by omega)
            by_cases hw0 : w' = 0
            · subst hw0
              obtain ⟨c1, c2, c3, c4⟩ := hc q (fun k hk => qR.1 k (by omega)) d (by omega)
              rw [show 6 * d + (0 + 1) - 1 = 6 * d by omega] at *
              simp (disch := omega) only [f_X11_findFragments_L40, f_X11_findFragments_J87, ↓nM_lit, iN_lit, iN_add, iN_mul, iN_lt, iN_le, iN_eq, iN_c, gd_iN, iN_nM, nM_iN, iN_ltM, nM_lt, nM_le, iN_leM, iN_0M, nM_p1, iN_0s1, decide_true, decide_eq_true_eq, Nat.not_lt_zero, if_true, if_false, wp_some, wp_grd, wp_lb, wp_ite, wp_b1, wp_b2, wp_b3, wp_b4, wp_b5, eq_grd, eq_lb, eq_b1, eq_b2, eq_b3, eq_b4, eq_b5, show ¬ (n < d + (0 + 1)) by omega, es, show 0 + 1 = 1 by omega, show 6 * s + d < 24 by omega, c1, c2, true_and] at weigh some_ok hcont es ⊢
              by_cases hz : eC E d = 0
              · rw [if_pos hz]
                have hnil := c4.mpr hz
                refine wp_mono (weigh (iN 0) (iN 0) ?_ (Or.inr ⟨by unfold fgP; rw [show 6 * d + 1 - 1 = 6 * d by omega, hnil]; rfl, 0, by omega, rfl⟩)) hcont
                have r39 := (hxq.2 (6 * d) (by omega)).1
                rw [hnil] at r39
                rw [show (200 : Nat) = 199 + 1 from rfl, f_X11_findFragments_L95]
                simp (disch := omega) only [↓nM_lit, iN_lit, iN_add, iN_mul, iN_lt, iN_le, iN_eq, iN_c, gd_iN, iN_nM, nM_iN, iN_ltM, nM_lt, nM_le, iN_leM, iN_0M, nM_p1, iN_0s1, decide_true, decide_eq_true_eq, Nat.not_lt_zero, if_true, if_false, wp_some, wp_grd, wp_lb, wp_ite, wp_b1, wp_b2, wp_b3, wp_b4, wp_b5, show 6 * d < 36 by omega, r39, List.length_nil, Nat.le_refl, true_and]
              · rw [if_neg hz]
                have hpos : 0 < (ch (6 * d)).length := List.length_pos_iff.mpr (fun h => hz (c4.mp h))
                obtain ⟨i, hi⟩ := bsI_some (G := G) (l := ch (6 * d)) hpos
                exact wp_mono (some_ok i hi) hcont
            · simp (disch := omega) only [f_X11_findFragments_L40, f_X11_findFragments_J87, ↓nM_lit, iN_lit, iN_add, iN_mul, iN_lt, iN_le, iN_eq, iN_c, gd_iN, iN_nM, nM_iN, iN_ltM, nM_lt, nM_le, iN_leM, iN_0M, nM_p1, iN_0s1, decide_true, decide_eq_true_eq, Nat.not_lt_zero, if_true, if_false, wp_some, wp_grd, wp_lb, wp_ite, wp_b1, wp_b2, wp_b3, wp_b4, wp_b5, eq_grd, eq_lb, eq_b1, eq_b2, eq_b3, eq_b4, eq_b5, show ¬ (n < d + (w' + 1)) by omega, es, show ¬ (w' + 1 = 1) by omega]
              cases hb : bsI G nM (ch (6 * d + (w' + 1) - 1)) (ch (6 * d + (w' + 1) - 1)).length with
              | some i => exact wp_mono (some_ok i hb) hcont
              | none =>
                rw [hb] at hmin
                exact wp_mono (weigh _ _ hmin (Or.inl ⟨by unfold fgP; rw [hb, if_neg (by omega)], rfl⟩)) hcont
        · rw [show (1 : Nat) - 1 = 0 by omega, fgI]
          refine ⟨fun k hk => by rw [upo_ne (by omega)]; exact hz.1 k hk, ?_⟩
          intro j k1 k2
          rw [upo_ne (show (50 : Nat) ≠ 49 by decide), upo_ne (show (51 : Nat) ≠ 49 by decide), upo_ap, if_neg (by omega)]
          exact hz.2 j k1 k2
      refine wp_mono inner ?_
      rintro ⟨q1, q2⟩ a2
      simp only [iD_pM]
      refine hk q2 ⟨by omega, ?_⟩
      have e : fgO G ch n (n - d) = fgI G ch d (n - d) (fgO G ch n (n - (d + 1))) := by
        obtain ⟨k, hk'⟩ : ∃ k, n - d = k + 1 := ⟨n - d - 1, by omega⟩
        rw [hk', fgO, show n - (k + 1) = d by omega, show n - (d + 1) = k by omega]
      rw [e]; exact a2
    · refine ⟨fun k hk => by rw [upo_ne (by omega), upo_ne (by omega)], ?_⟩
      intro j k1 k2
      have : j = n := by omega
      subst this
      rw [Nat.sub_self]
      refine ⟨?_, ?_, fun h => absurd h (Nat.lt_irrefl _)⟩
      · rw [upo_ne (by decide), upo_ap, if_pos ⟨rfl, rfl⟩]; rfl
      · rw [upo_ap, if_pos ⟨rfl, rfl⟩]; rfl
  refine wp_mono main ?_
  rintro ⟨q1, q2⟩ ⟨a1, a2⟩
  simp only at a1 a2 ⊢
  have hxq : MCh (upo q2 47 0 (iN 0)) G ch n0 := MCh_cg (fun k h1 h2 => by rw [upo_ne (by omega)]; exact a1 k (by omega)) hx
  obtain ⟨hwh, -⟩ := X11_whole hxq hn0 hW hs (by rw [upo_ne (by decide), a1 9 (by omega)]; exact h9) hn
  -- the fragments in their order
  have lp : ∀ (fl : Int32) (d : Nat), (fl = iN 0 ∨ (fl = iN 1 ∧ (frg G ch n).1 0 = 1 ∧ (frg G ch n).2.2 0 = n)) → ∀ (f k : Nat) (z : Ob), k + d = (frg G ch n).1 0 → d < f → ((∀ k, (k < 47 ∨ 51 < k) → z k = M k) ∧ z 51 = q2 51 ∧ z 47 0 = iN k ∧ ∀ i, i < k → z 48 i = iN (10 * plc (frg G ch n) i + (frg G ch n).2.2 (plc (frg G ch n) i))) →
      wp (f_X11_findFragments_L288 f z (iN n) fl (iN (plc (frg G ch n) k))) (fun q => (∀ k, (k < 47 ∨ 51 < k) → q.2 k = M k) ∧ q.2 47 0 = iN ((frg G ch n).1 0) ∧ ∀ k, k < (frg G ch n).1 0 → q.2 48 k = iN (10 * plc (frg G ch n) k + (frg G ch n).2.2 (plc (frg G ch n) k))) := by
    intro fl d hfl
    induction d with
    | zero =>
      intro f k z hkd hf ⟨b1, b2, b3, b4⟩
      obtain ⟨f, rfl⟩ : ∃ m, f = m + 1 := ⟨f - 1, by omega⟩
      have hk : k = (frg G ch n).1 0 := by omega
      obtain ⟨p1, p2⟩ := plc_at hFI k (by omega)
      have hpn : plc (frg G ch n) k = n := by
        by_cases e : plc (frg G ch n) k = n
        · exact e
        · have := (hFI.2 _ (Nat.zero_le _) (show plc (frg G ch n) k < n by omega)).1
          omega
      simp (disch := omega) only [f_X11_findFragments_L288, ↓nM_lit, iN_lit, iN_add, iN_mul, iN_lt, iN_le, iN_eq, iN_c, gd_iN, iN_nM, nM_iN, iN_ltM, nM_lt, nM_le, iN_leM, iN_0M, nM_p1, iN_0s1, decide_true, decide_eq_true_eq, Nat.not_lt_zero, if_true, if_false, wp_some, wp_grd, wp_lb, wp_ite, wp_b1, wp_b2, wp_b3, wp_b4, wp_b5, hpn, Nat.le_refl]
      refine ⟨b1, by rw [b3, hk], ?_⟩
      rw [← hk]; exact b4
    | succ d ih =>
      intro f k z hkd hf ⟨b1, b2, b3, b4⟩
      obtain ⟨f, rfl⟩ : ∃ m, f = m + 1 := ⟨f - 1, by omega⟩
      have hlt := plc_lt hFI (show k < (frg G ch n).1 0 by omega)
      have e51 : ∀ j, z 51 j = q2 51 j := fun j => by rw [b2]
      have r51 := (a2 (plc (frg G ch n) k) (Nat.zero_le _) (by omega)).2.2 hlt
      obtain ⟨g1, g2, g3, g4⟩ := hFI.2 _ (Nat.zero_le _) hlt
      have nxt : ∀ z2 : Ob, z2 = upo (upo z 48 k (iN (10 * plc (frg G ch n) k + (frg G ch n).2.2 (plc (frg G ch n) k)))) 47 0 (iN (k + 1)) → wp (f_X11_findFragments_L288 f z2 (iN n) fl (iN (plc (frg G ch n) (k + 1)))) (fun q => (∀ k, (k < 47 ∨ 51 < k) → q.2 k = M k) ∧ q.2 47 0 = iN ((frg G ch n).1 0) ∧ ∀ k, k < (frg G ch n).1 0 → q.2 48 k = iN (10 * plc (frg G ch n) k + (frg G ch n).2.2 (plc (frg G ch n) k))) := by
        intro z2 hz2
        refine ih f (k + 1) z2 (by omega) (by omega) ⟨?_, ?_, ?_, ?_⟩
        · intro j hj; rw [hz2, upo_ne (by omega), upo_ne (by omega)]; exact b1 j hj
        · rw [hz2, upo_ne (by decide), upo_ne (by decide)]; exact b2
        · rw [hz2, upo_ap, if_pos ⟨rfl, rfl⟩]
        · intro i hi
          rw [hz2, upo_ne (by decide), upo_ap]
          by_cases e : i = k
          · subst e; rw [if_pos ⟨rfl, rfl⟩]
          · rw [if_neg (fun h => e h.2)]; exact b4 i (by omega)
      have q47 : ∀ (k : Nat) (z : Ob) (v : Int32) (i : Nat), k ≠ 47 → upo z k i v 47 0 = z 47 0 := fun k z v i h => by rw [upo_ne (Ne.symm h)]
      have q51 : ∀ (k : Nat) (z : Ob) (v : Int32) (i j : Nat), k ≠ 51 → upo z k i v 51 j = z 51 j := fun k z v i j h => by rw [upo_ne (Ne.symm h)]
      rcases hfl with e | ⟨e, h1, h2⟩
      · subst e
        simp (disch := omega) only [f_X11_findFragments_L288, f_X11_findFragments_J322, ↓nM_lit, iN_lit, iN_add, iN_mul, iN_lt, iN_le, iN_eq, iN_c, gd_iN, iN_nM, nM_iN, iN_ltM, nM_lt, nM_le, iN_leM, iN_0M, nM_p1, iN_0s1, decide_true, decide_eq_true_eq, Nat.not_lt_zero, if_true, if_false, wp_some, wp_grd, wp_lb, wp_ite, wp_b1, wp_b2, wp_b3, wp_b4, wp_b5, eq_grd, eq_lb, eq_b1, eq_b2, eq_b3, eq_b4, eq_b5, show ¬ (n ≤ plc (frg G ch n) k) by omega, show plc (frg G ch n) k < 7 by omega, b3, e51, r51, show k < 6 by omega, q47, q51, true_and]
        exact nxt _ rfl
      · subst e
        have hk0 : k = 0 := by omega
        subst hk0
        have e0 : plc (frg G ch n) 0 = 0 := rfl
        have en : plc (frg G ch n) (0 + 1) = n := by rw [plc, e0, h2]; omega
        rw [en, e0, h2] at nxt
        rw [e0] at hlt ⊢
        simp (disch := omega) only [f_X11_findFragments_L288, f_X11_findFragments_J322, ↓nM_lit, iN_lit, iN_add, iN_mul, iN_lt, iN_le, iN_eq, iN_c, gd_iN, iN_nM, nM_iN, iN_ltM, nM_lt, nM_le, iN_leM, iN_0M, nM_p1, iN_0s1, decide_true, decide_eq_true_eq, Nat.not_lt_zero, if_true, if_false, wp_some, wp_grd, wp_lb, wp_ite, wp_b1, wp_b2, wp_b3, wp_b4, wp_b5, eq_grd, eq_lb, eq_b1, eq_b2, eq_b3, eq_b4, eq_b5, show ¬ (n ≤ 0) by omega, b3, show ¬ (1 = 0) by decide, q47, q51, Nat.zero_add, true_and] at nxt ⊢
        exact ⟨by decide, nxt _ rfl⟩
  have st : (∀ k, (k < 47 ∨ 51 < k) → upo q2 47 0 (iN 0) k = M k) ∧ upo q2 47 0 (iN 0) 51 = q2 51 ∧ upo q2 47 0 (iN 0) 47 0 = iN 0 ∧ ∀ i, i < 0 → upo q2 47 0 (iN 0) 48 i = iN (10 * plc (frg G ch n) i + (frg G ch n).2.2 (plc (frg G ch n) i)) := by
    refine ⟨fun k hk => by rw [upo_ne (by omega)]; exact a1 k hk, upo_ne (by decide), by rw [upo_ap, if_pos ⟨rfl, rfl⟩], fun i hi => absurd hi (Nat.not_lt_zero i)⟩
  rw [hwh]
  cases hw : wI G ch n with
  | none =>
    simp (disch := omega) only [oM, ↓nM_lit, iN_lit, iN_add, iN_mul, iN_lt, iN_le, iN_eq, iN_c, gd_iN, iN_nM, nM_iN, iN_ltM, nM_lt, nM_le, iN_leM, iN_0M, nM_p1, iN_0s1, decide_true, decide_eq_true_eq, Nat.not_lt_zero, if_true, if_false, wp_some, wp_grd, wp_lb, wp_ite, wp_b1, wp_b2, wp_b3, wp_b4, wp_b5, eq_grd, eq_lb, eq_b1, eq_b2, eq_b3, eq_b4, eq_b5, f_X11_findFragments_J284]
    exact lp (iN 0) ((frg G ch n).1 0) (Or.inl rfl) 200 0 _ (by omega) (by omega) st
  | some i =>
    obtain ⟨w1, w2⟩ := frg_w hw
    obtain ⟨b, hb, -⟩ := wI_lt hw
    obtain ⟨d, hd, ed, -⟩ := (hxq.2 (n - 1) (by omega)).2 i hb
    have eo : oM (upo q2 47 0 (iN 0)) (n - 1) (some i) = iN d := ed
    simp (disch := omega) only [eo, ↓nM_lit, iN_lit, iN_add, iN_mul, iN_lt, iN_le, iN_eq, iN_c, gd_iN, iN_nM, nM_iN, iN_ltM, nM_lt, nM_le, iN_leM, iN_0M, nM_p1, iN_0s1, decide_true, decide_eq_true_eq, Nat.not_lt_zero, if_true, if_false, wp_some, wp_grd, wp_lb, wp_ite, wp_b1, wp_b2, wp_b3, wp_b4, wp_b5, eq_grd, eq_lb, eq_b1, eq_b2, eq_b3, eq_b4, eq_b5, f_X11_findFragments_J284]
    exact lp (iN 1) ((frg G ch n).1 0) (Or.inr ⟨rfl, w1, w2⟩) 200 0 _ (by omega) (by omega) st
