/-! What the class answers, said of the ghost. -/
theorem kt_0 (cs : List Nat) (r : Int32) : ktch cs 0 r = some r := if_pos rfl
theorem kt1_1 (r : Int32) : ktch [1] 1 r = some (-1001) := by unfold ktch; rw [if_neg (by decide), if_pos (by decide)]
theorem kt13_1 (r : Int32) : ktch [1, 3] 1 r = some (-1001) := by unfold ktch; rw [if_neg (by decide), if_pos (by decide)]
theorem nb_n {n : Nat} (h : n < 2147483648) : nb (iN n) n := Or.inr (by rw [iN_le h h]; exact Nat.le_refl n)
theorem an_word {j : Nat} {K : Nat → Ob} {M : Ob} (h : RI j K M) {s p : Nat} (hs : s < 4) (hp : p < evn M s) : f_L_two K (iN 2) (iN s) (iN p) = some (iN (evw M s p), K) := by
  obtain ⟨a1, a2, a3⟩ := RI_len h hs
  have w1 := (h.2.2.1 s hs).1.2.2 p hp
  have e : f_X10_wordAt K (iN s) (iN p) = some (0, iN (evw M s p)) := by
    simp (disch := omega) only [f_X10_wordAt, X10_sAt K hs, eq_grd, eq_lb, eq_b1, eq_b2, eq_b3, eq_b4, eq_b5, if_true, hs, decide_true, f_X10_requirePlace, a1, isB_y hp (show evn M s < 2147483648 by omega), ↓nM_lit, iN_lit, iN_add, iN_mul, iN_lt, iN_le, iN_eq, iN_c, gd_iN, iN_nM, nM_iN, iN_ltM, nM_lt, nM_le, iN_leM, iN_0M, nM_p1, iN_0s1, decide_true, decide_eq_true_eq, Nat.not_lt_zero, if_true, if_false, show ¬ (1 = 0) by decide, if_false, f_X6_wordIn, show ¬ (evn M s ≤ p) by omega, show p < 6 by omega, w1]
  simp (disch := omega) only [f_L_two, ↓nM_lit, iN_lit, iN_add, iN_mul, iN_lt, iN_le, iN_eq, iN_c, gd_iN, iN_nM, nM_iN, iN_ltM, nM_lt, nM_le, iN_leM, iN_0M, nM_p1, iN_0s1, decide_true, decide_eq_true_eq, Nat.not_lt_zero, if_true, if_false, ↓reduceIte, show ¬ (2 = 0) by decide, show ¬ (2 = 1) by decide, e, eq_grd, eq_lb, eq_b1, eq_b2, eq_b3, eq_b4, eq_b5, eq_b6, eq_b7, eq_b8, eq_b9, kt_0]
theorem an_word_n {j : Nat} {K : Nat → Ob} {M : Ob} (h : RI j K M) {s : Nat} (hs : s < 4) : f_L_two K (iN 2) (iN s) (iN (evn M s)) = some (-1001, K) := by
  obtain ⟨a1, a2, a3⟩ := RI_len h hs
  have hn := nb_n (n := evn M s) (by omega)
  have e : f_X10_wordAt K (iN s) (iN (evn M s)) = some (1, 0) := by
    simp (disch := omega) only [f_X10_wordAt, X10_sAt K hs, eq_grd, eq_lb, eq_b1, eq_b2, eq_b3, eq_b4, eq_b5, if_true, hs, decide_true, f_X10_requirePlace, a1, isB_n hn, ↓nM_lit, iN_lit, iN_add, iN_mul, iN_lt, iN_le, iN_eq, iN_c, gd_iN, iN_nM, nM_iN, iN_ltM, nM_lt, nM_le, iN_leM, iN_0M, nM_p1, iN_0s1, decide_true, decide_eq_true_eq, Nat.not_lt_zero, if_true, if_false, show ¬ (1 = 0) by decide, if_false]
  simp (disch := omega) only [f_L_two, ↓nM_lit, iN_lit, iN_add, iN_mul, iN_lt, iN_le, iN_eq, iN_c, gd_iN, iN_nM, nM_iN, iN_ltM, nM_lt, nM_le, iN_leM, iN_0M, nM_p1, iN_0s1, decide_true, decide_eq_true_eq, Nat.not_lt_zero, if_true, if_false, ↓reduceIte, show ¬ (2 = 0) by decide, show ¬ (2 = 1) by decide, e, eq_grd, eq_lb, eq_b1, eq_b2, eq_b3, eq_b4, eq_b5, eq_b6, eq_b7, eq_b8, eq_b9, kt13_1]
theorem an_left {j : Nat} {K : Nat → Ob} {M : Ob} (h : RI j K M) {s p : Nat} (hs : s < 4) (hp : p < evn M s) : ∃ K', f_L_two K (iN 3) (iN s) (iN p) = some (iN (Lk (sr M) M s p), K') ∧ RI j K' M := by
  obtain ⟨a1, a2, a3⟩ := RI_len h hs
  obtain ⟨K', e1, c1, c2, c3, c4⟩ := X10_asN h hs
  have e3 := (c1.2.2.1 s hs).1.1
  have e : f_X10_left K (iN s) (iN p) = some (0, iN (Lk (sr M) M s p), K') := by
    simp (disch := omega) only [f_X10_left, X10_sAt K hs, eq_grd, eq_lb, eq_b1, eq_b2, eq_b3, eq_b4, eq_b5, if_true, hs, decide_true, f_X10_requirePlace, a1, isB_y hp (show evn M s < 2147483648 by omega), ↓nM_lit, iN_lit, iN_add, iN_mul, iN_lt, iN_le, iN_eq, iN_c, gd_iN, iN_nM, nM_iN, iN_ltM, nM_lt, nM_le, iN_leM, iN_0M, nM_p1, iN_0s1, decide_true, decide_eq_true_eq, Nat.not_lt_zero, if_true, if_false, show ¬ (1 = 0) by decide, if_false, e1, f_X6_leftIn, e3, show ¬ (evn M s ≤ p) by omega, show p < 6 by omega, c2.2.1 p hp]
  refine ⟨K', ?_, c1⟩
  simp (disch := omega) only [f_L_two, ↓nM_lit, iN_lit, iN_add, iN_mul, iN_lt, iN_le, iN_eq, iN_c, gd_iN, iN_nM, nM_iN, iN_ltM, nM_lt, nM_le, iN_leM, iN_0M, nM_p1, iN_0s1, decide_true, decide_eq_true_eq, Nat.not_lt_zero, if_true, if_false, ↓reduceIte, show ¬ (3 = 0) by decide, show ¬ (3 = 1) by decide, show ¬ (3 = 2) by decide, e, eq_grd, eq_lb, eq_b1, eq_b2, eq_b3, eq_b4, eq_b5, eq_b6, eq_b7, eq_b8, eq_b9, kt_0]
theorem an_left_n {j : Nat} {K : Nat → Ob} {M : Ob} (h : RI j K M) {s : Nat} (hs : s < 4) : f_L_two K (iN 3) (iN s) (iN (evn M s)) = some (-1001, K) := by
  obtain ⟨a1, a2, a3⟩ := RI_len h hs
  have hn := nb_n (n := evn M s) (by omega)
  have e : f_X10_left K (iN s) (iN (evn M s)) = some (1, 0, K) := by
    simp (disch := omega) only [f_X10_left, X10_sAt K hs, eq_grd, eq_lb, eq_b1, eq_b2, eq_b3, eq_b4, eq_b5, if_true, hs, decide_true, f_X10_requirePlace, a1, isB_n hn, ↓nM_lit, iN_lit, iN_add, iN_mul, iN_lt, iN_le, iN_eq, iN_c, gd_iN, iN_nM, nM_iN, iN_ltM, nM_lt, nM_le, iN_leM, iN_0M, nM_p1, iN_0s1, decide_true, decide_eq_true_eq, Nat.not_lt_zero, if_true, if_false, show ¬ (1 = 0) by decide, if_false]
  simp (disch := omega) only [f_L_two, ↓nM_lit, iN_lit, iN_add, iN_mul, iN_lt, iN_le, iN_eq, iN_c, gd_iN, iN_nM, nM_iN, iN_ltM, nM_lt, nM_le, iN_leM, iN_0M, nM_p1, iN_0s1, decide_true, decide_eq_true_eq, Nat.not_lt_zero, if_true, if_false, ↓reduceIte, show ¬ (3 = 0) by decide, show ¬ (3 = 1) by decide, show ¬ (3 = 2) by decide, e, eq_grd, eq_lb, eq_b1, eq_b2, eq_b3, eq_b4, eq_b5, eq_b6, eq_b7, eq_b8, eq_b9, kt13_1]
theorem an_ref {j : Nat} {K : Nat → Ob} {M : Ob} (h : RI j K M) {s p : Nat} (hs : s < 4) (hp : p < evn M s) : ∃ K', f_L_two K (iN 4) (iN s) (iN p) = some (rnO (rfM (sr M) M s p), K') ∧ RI j K' M := by
  obtain ⟨a1, a2, a3⟩ := RI_len h hs
  obtain ⟨K1, e1, c1, c2, c3⟩ := X10_upTo h.1 h.2.1 h.2.2.1 hs
  have hx := RS_L (c2 s hs) (c3 s (by omega) (Nat.le_refl s))
  obtain ⟨⟨r0, r1, K2⟩, e2, b1, b2, b3⟩ := X10_refers hs (KS_of h.1 hs c2 c3) hx (WM_E h.1 hs).1 (WM_E h.1 hs).2 (show p < eL (evS M s) from hp)
  simp only at b1 b2 b3
  have hRI : RI j K2 M := by
    have h1 := RI_upTo h c1 c2
    refine RI_K ⟨fun i hi => b2 i (by omega), fun k _ _ _ => by rw [b2 3 (by omega)], by rw [b2 0 (by omega)]⟩ h1
  have e : f_X10_referent K (iN s) (iN p) = some (0, rnO (rfM (sr M) M s p), K2) := by
    simp (disch := omega) only [f_X10_referent, X10_sAt K hs, eq_grd, eq_lb, eq_b1, eq_b2, eq_b3, eq_b4, eq_b5, if_true, hs, decide_true, f_X10_requirePlace, a1, isB_y hp (show evn M s < 2147483648 by omega), ↓nM_lit, iN_lit, iN_add, iN_mul, iN_lt, iN_le, iN_eq, iN_c, gd_iN, iN_nM, nM_iN, iN_ltM, nM_lt, nM_le, iN_leM, iN_0M, nM_p1, iN_0s1, decide_true, decide_eq_true_eq, Nat.not_lt_zero, if_true, if_false, show ¬ (1 = 0) by decide, if_false, e1, e2, b1]
    unfold rfM
    cases hr : rfO (evS M) (Lk (sr M) M) (evS M s) (Lk (sr M) M s) s p with
    | none =>
      rw [hr] at b3
      simp only at b3
      simp only [b3, if_true, rnO]
    | some t =>
      rw [hr] at b3
      obtain ⟨f1, f2, f3, -⟩ := b3
      simp (disch := omega) only [f1, f2, f3, ↓nM_lit, iN_lit, iN_add, iN_mul, iN_lt, iN_le, iN_eq, iN_c, gd_iN, iN_nM, nM_iN, iN_ltM, nM_lt, nM_le, iN_leM, iN_0M, nM_p1, iN_0s1, decide_true, decide_eq_true_eq, Nat.not_lt_zero, if_true, if_false, show ¬ (1 = 0) by decide, if_false, rnO]
  refine ⟨K2, ?_, hRI⟩
  simp (disch := omega) only [f_L_two, ↓nM_lit, iN_lit, iN_add, iN_mul, iN_lt, iN_le, iN_eq, iN_c, gd_iN, iN_nM, nM_iN, iN_ltM, nM_lt, nM_le, iN_leM, iN_0M, nM_p1, iN_0s1, decide_true, decide_eq_true_eq, Nat.not_lt_zero, if_true, if_false, ↓reduceIte, show ¬ (4 = 0) by decide, show ¬ (4 = 1) by decide, show ¬ (4 = 2) by decide, show ¬ (4 = 3) by decide, e, eq_grd, eq_lb, eq_b1, eq_b2, eq_b3, eq_b4, eq_b5, eq_b6, eq_b7, eq_b8, eq_b9, kt_0]
theorem an_ref_n {j : Nat} {K : Nat → Ob} {M : Ob} (h : RI j K M) {s : Nat} (hs : s < 4) : f_L_two K (iN 4) (iN s) (iN (evn M s)) = some (-1001, K) := by
  obtain ⟨a1, a2, a3⟩ := RI_len h hs
  have hn := nb_n (n := evn M s) (by omega)
  have e : f_X10_referent K (iN s) (iN (evn M s)) = some (1, 0, K) := by
    simp (disch := omega) only [f_X10_referent, X10_sAt K hs, eq_grd, eq_lb, eq_b1, eq_b2, eq_b3, eq_b4, eq_b5, if_true, hs, decide_true, f_X10_requirePlace, a1, isB_n hn, ↓nM_lit, iN_lit, iN_add, iN_mul, iN_lt, iN_le, iN_eq, iN_c, gd_iN, iN_nM, nM_iN, iN_ltM, nM_lt, nM_le, iN_leM, iN_0M, nM_p1, iN_0s1, decide_true, decide_eq_true_eq, Nat.not_lt_zero, if_true, if_false, show ¬ (1 = 0) by decide, if_false]
  simp (disch := omega) only [f_L_two, ↓nM_lit, iN_lit, iN_add, iN_mul, iN_lt, iN_le, iN_eq, iN_c, gd_iN, iN_nM, nM_iN, iN_ltM, nM_lt, nM_le, iN_leM, iN_0M, nM_p1, iN_0s1, decide_true, decide_eq_true_eq, Nat.not_lt_zero, if_true, if_false, ↓reduceIte, show ¬ (4 = 0) by decide, show ¬ (4 = 1) by decide, show ¬ (4 = 2) by decide, show ¬ (4 = 3) by decide, e, eq_grd, eq_lb, eq_b1, eq_b2, eq_b3, eq_b4, eq_b5, eq_b6, eq_b7, eq_b8, eq_b9, kt13_1]
theorem an_len {j : Nat} {K : Nat → Ob} {M : Ob} (h : RI j K M) {s : Nat} (hs : s < 4) : f_L_one K (iN 1) (iN s) = some (iN (evn M s), K) := by
  obtain ⟨a1, a2, a3⟩ := RI_len h hs
  have e : f_X10_length K (iN s) = some (0, iN (evn M s)) := by
    simp only [f_X10_length, X10_sAt K hs, eq_grd, eq_lb, eq_b1, eq_b2, eq_b3, eq_b4, eq_b5, if_true, hs, decide_true, a1]
  simp (disch := omega) only [f_L_one, ↓nM_lit, iN_lit, iN_add, iN_mul, iN_lt, iN_le, iN_eq, iN_c, gd_iN, iN_nM, nM_iN, iN_ltM, nM_lt, nM_le, iN_leM, iN_0M, nM_p1, iN_0s1, decide_true, decide_eq_true_eq, Nat.not_lt_zero, if_true, if_false, ↓reduceIte, show ¬ (1 = 0) by decide, e, eq_grd, eq_lb, eq_b1, eq_b2, eq_b3, eq_b4, eq_b5, eq_b6, eq_b7, eq_b8, eq_b9, kt_0]
theorem an_stys {j : Nat} {K : Nat → Ob} {M : Ob} (h : RI j K M) {s n : Nat} (hs : s < 4) (e59 : M 59 0 = iN n) (hn12 : n ≤ 12) : ∃ K', f_L_one K (iN 8) (iN s) = some (iN (FLS M (evS M s) (Lk (sr M) M s) (evw M s) n (evn M s)).length, K') ∧ RI j K' M := by
  obtain ⟨K', e1, c1, c2, c3, c4⟩ := X10_asN h hs
  have hw : ∀ p, p < eL (evS M s) → K' (9 + s) 1 p = iN (evw M s p) ∧ evw M s p < 40 := fun p hp => by
    refine ⟨by rw [c3]; exact (h.2.2.1 s hs).1.2.2 p hp, ?_⟩
    exact Nat.lt_of_lt_of_le ((WTxt_at h.1.2.1 hs).2.2 p hp).1 (WLex_nw h.1.1)
  have hc := X8_count c1.2.1.2.2.2.2 e59 hn12 c2 (WM_E h.1 hs).1 (WM_E h.1 hs).2 hw
  have hc' : f_X8_countFaults (K' 7) (K' (9 + s)) = some (iN (FLS M (evS M s) (Lk (sr M) M s) (evw M s) n (evn M s)).length) := hc
  have e : f_X10_styleFaults K (iN s) = some (0, iN (FLS M (evS M s) (Lk (sr M) M s) (evw M s) n (evn M s)).length, K') := by
    simp only [f_X10_styleFaults, X10_sAt K hs, eq_grd, eq_lb, eq_b1, eq_b2, eq_b3, eq_b4, eq_b5, if_true, hs, decide_true, e1, hc']
  refine ⟨K', ?_, c1⟩
  simp (disch := omega) only [f_L_one, ↓nM_lit, iN_lit, iN_add, iN_mul, iN_lt, iN_le, iN_eq, iN_c, gd_iN, iN_nM, nM_iN, iN_ltM, nM_lt, nM_le, iN_leM, iN_0M, nM_p1, iN_0s1, decide_true, decide_eq_true_eq, Nat.not_lt_zero, if_true, if_false, ↓reduceIte, show ¬ (8 = 0) by decide, show ¬ (8 = 1) by decide, show ¬ (8 = 2) by decide, show ¬ (8 = 3) by decide, show ¬ (8 = 4) by decide, show ¬ (8 = 5) by decide, show ¬ (8 = 6) by decide, show ¬ (8 = 7) by decide, e, eq_grd, eq_lb, eq_b1, eq_b2, eq_b3, eq_b4, eq_b5, eq_b6, eq_b7, eq_b8, eq_b9, kt_0]
theorem an_sty {j : Nat} {K : Nat → Ob} {M : Ob} (h : RI j K M) {s n : Nat} (hs : s < 4) (e59 : M 59 0 = iN n) (hn12 : n ≤ 12) {i : Nat} (hi : i ≤ (FLS M (evS M s) (Lk (sr M) M s) (evw M s) n (evn M s)).length) : ∃ K', f_L_two K (iN 8) (iN s) (iN i) = some (if i < (FLS M (evS M s) (Lk (sr M) M s) (evw M s) n (evn M s)).length then iN ((FLS M (evS M s) (Lk (sr M) M s) (evw M s) n (evn M s)).getD i 0) else -1001, K') ∧ RI j K' M := by
  obtain ⟨K', e1, c1, c2, c3, c4⟩ := X10_asN h hs
  have hw : ∀ p, p < eL (evS M s) → K' (9 + s) 1 p = iN (evw M s p) ∧ evw M s p < 40 := fun p hp => by
    refine ⟨by rw [c3]; exact (h.2.2.1 s hs).1.2.2 p hp, ?_⟩
    exact Nat.lt_of_lt_of_le ((WTxt_at h.1.2.1 hs).2.2 p hp).1 (WLex_nw h.1.1)
  have hlen := FLS_len (M := M) (E := evS M s) (L := Lk (sr M) M s) (wd := evw M s) (n := n) (evn M s)
  have h6 := (RI_len h hs).2.2
  have hmul : n * evn M s ≤ 12 * 6 := Nat.mul_le_mul hn12 h6
  have hbd := fun i => FLS_bd (M := M) (E := evS M s) (L := Lk (sr M) M s) (wd := evw M s) (n := n) (m := evn M s) (i := i)
  obtain ⟨r8, e8, hc⟩ := X8_number (wd := evw M s) c1.2.1.2.2.2.2 e59 hn12 c2 (WM_E h.1 hs).1 (WM_E h.1 hs).2 hw (iN i)
  rw [evS_L] at hc
  have eT : f_X10_styleFault K (iN s) (iN i) = if r8 = nM then some (1, 0, K') else some (0, r8, K') := by
    simp only [f_X10_styleFault, X10_sAt K hs, eq_grd, eq_lb, eq_b1, eq_b2, eq_b3, eq_b4, eq_b5, if_true, hs, decide_true, e1, e8]
    rfl
  refine ⟨K', ?_, c1⟩
  have two : ∀ c r, f_X10_styleFault K (iN s) (iN i) = some (c, r, K') → f_L_two K (iN 8) (iN s) (iN i) = bnd1 (ktch [1, 3] c r) (fun v => some (v, K')) := by
    intro c r e
    simp (disch := omega) only [f_L_two, ↓nM_lit, iN_lit, iN_add, iN_mul, iN_lt, iN_le, iN_eq, iN_c, gd_iN, iN_nM, nM_iN, iN_ltM, nM_lt, nM_le, iN_leM, iN_0M, nM_p1, iN_0s1, decide_true, decide_eq_true_eq, Nat.not_lt_zero, if_true, if_false, ↓reduceIte, show ¬ (8 = 0) by decide, show ¬ (8 = 1) by decide, show ¬ (8 = 2) by decide, show ¬ (8 = 3) by decide, show ¬ (8 = 4) by decide, show ¬ (8 = 5) by decide, show ¬ (8 = 6) by decide, show ¬ (8 = 7) by decide, e, eq_grd, eq_lb, eq_b1, eq_b2, eq_b3, eq_b4, eq_b5, eq_b6, eq_b7, eq_b8, eq_b9]
  by_cases hlt : i < (FLS M (evS M s) (Lk (sr M) M s) (evw M s) n (evn M s)).length
  · rcases hc with ⟨hno, -⟩ | ⟨i', hi', hv', hc⟩
    · exact absurd rfl (hno i hlt)
    · have hii : i = i' := by rw [iN_eq (by omega) (by omega)] at hv'; exact hv'
      subst hii
      have hb := hbd i hlt
      have hne : ¬ (r8 = nM) := by rw [hc, iN_nM (by omega)]; exact id
      rw [if_neg hne] at eT
      rw [two _ _ eT, kt_0, eq_b1, if_pos hlt, hc]
  · rcases hc with ⟨-, hc⟩ | ⟨i', hi', hv', -⟩
    · rw [if_pos hc] at eT
      rw [two _ _ eT, kt13_1, eq_b1, if_neg hlt]
    · rw [iN_eq (by omega) (by omega)] at hv'
      omega
/-- the ghost of before, if nothing was due -/
theorem RI_back {j : Nat} {K : Nat → Ob} {M y : Ob} {s : Nat} (hM : WTxt M) (hs : s < 4) (hy : MN M y s) (hd : ¬ due M s) (h : RI j K y) : RI j K M := by
  obtain ⟨m1, m2, m3, m4, m5, m6, m7, m8, m9, m10⟩ := hy
  have d1 : M 54 s = M 52 0 := Classical.byContradiction (fun h => hd (Or.inl h))
  have d2 : M 56 s = M 55 s := Classical.byContradiction (fun h => hd (Or.inr (Or.inl h)))
  have d3 : ∀ p, p < evn M s → M 57 (6 * s + p) = iN (gvM (sr M) M s p % 4) ∧ M 58 (6 * s + p) = iN (gvM (sr M) M s p / 4) := fun p hp => Classical.byContradiction (fun h => hd (Or.inr (Or.inr ⟨p, hp, h⟩)))
  have m1' : cor y M := fun k hk => (m1 k hk).symm
  have e54 : ∀ t, M 54 t = y 54 t ∧ M 56 t = y 56 t := by
    intro t
    by_cases ht : t = s
    · subst ht; exact ⟨by rw [m7, d1], by rw [m8, d2]⟩
    · exact ⟨(m6 t ht).1.symm, (m6 t ht).2.symm⟩
  have e53 : y 53 0 = M 53 0 := by
    rcases m5 with ⟨k, -⟩ | ⟨-, k⟩
    · exact absurd k hd
    · exact k
  obtain ⟨h1, h2, h3, ⟨v, v1, v2, v3⟩, h5, h6⟩ := h
  refine ⟨WM_cg m1' h1, RK_cg m1' (fun k a b => (m2 k a).symm) h2, ?_, ⟨v, v1, by rw [← m3]; exact v2, ?_⟩, by rw [h5, e53], ZE_cg (m1 21 (by omega)).symm (m1 26 (by omega)).symm h6⟩
  · intro t ht
    refine RSen_cg m1' ⟨by rw [m3], (e54 t).1, by rw [m4], (e54 t).2⟩ ?_ (h3 t ht)
    intro p hp
    rw [evn_cg m1] at hp
    have h6 := (WTxt_at hM ht).1
    by_cases hts : t = s
    · subst hts
      obtain ⟨u1, u2⟩ := m9 p hp
      obtain ⟨w1, w2⟩ := d3 p hp
      exact ⟨by rw [u1, w1], by rw [u2, w2]⟩
    · obtain ⟨u1, u2⟩ := m10 (6 * t + p) (by omega)
      exact ⟨u1.symm, u2.symm⟩
  · intro t ht
    rw [(e54 t).1, (e54 t).2, ← m4]
    exact v3 t ht
theorem need_1 {j : Nat} {K : Nat → Ob} {M : Ob} (h : RI j K M) {s : Nat} (hs : s < 4) : ∃ K' y, f_X10_readAsNeeded K (iN s) = some (0, s, K') ∧ MN M y s ∧ RD j K' y s ∧ ¬ due y s := by
  obtain ⟨K', y, e1, e2, hR, -⟩ := both_need h hs
  obtain ⟨y', e2', hy, -⟩ := X11_need h.1 hs
  have ey : y' = y := by rw [e2] at e2'; exact (Option.some.inj e2').symm
  subst ey
  refine ⟨K', y', e1, hy, hR, ?_⟩
  obtain ⟨m1, m2, m3, m4, m5, m6, m7, m8, m9, m10⟩ := hy
  rintro (d | d | ⟨p, hp, d⟩)
  · exact d (by rw [m7, m3])
  · exact d (by rw [m8, m4])
  · rw [evn_cg m1] at hp
    refine d ?_
    rw [sr_cg m1, gvM_cg m1]
    exact m9 p hp
/-- reading again, nothing due -/
theorem need_2 {j : Nat} {K : Nat → Ob} {M : Ob} (h : RI j K M) {s : Nat} (hs : s < 4) (hd : ¬ due M s) : ∃ K' y, f_X10_readAsNeeded K (iN s) = some (0, s, K') ∧ RD j K' y s ∧ cor M y ∧ ∀ K'', RI j K'' y → RI j K'' M := by
  obtain ⟨K', y, e1, hy, hR, -⟩ := need_1 h hs
  exact ⟨K', y, e1, hR, hy.1, fun K'' h' => RI_back h.1.2.1 hs hy hd h'⟩
theorem an_cost {j : Nat} {K : Nat → Ob} {M : Ob} (h : RI j K M) {s : Nat} (hs : s < 4) : ∃ K' y, f_L_one K (iN 2) (iN s) = some (wK (gr M) (cM M s) (evn M s), K') ∧ MN M y s ∧ RI j K' y ∧ ¬ due y s ∧ WCh (gr M) (cM M s) := by
  obtain ⟨K', y, e1, hy, hR, hd⟩ := need_1 h hs
  obtain ⟨w1, -⟩ := RD_w hs hR
  have m1 := hy.1
  have e1' : f_X10_readAsNeeded K (iN s) = some (0, s, K') := e1
  have e : f_X10_cost K (iN s) = some (0, wK (gr M) (cM M s) (evn M s), K') := by
    have w1' : f_X0_wholePrice (K' (14 + s)) = some (wK (gr M) (cM M s) (evn M s)) := by
      rw [w1]
      have ec : cM y s = cM M s := cM_cg m1 s
      rw [ec, gr_cg m1, evn_cg m1]
    simp only [f_X10_cost, e1', eq_grd, eq_lb, eq_b1, eq_b2, eq_b3, eq_b4, eq_b5, if_true, hs, decide_true, w1']
  have hW := hR.2.2.2
  have ec : cM y s = cM M s := cM_cg m1 s
  rw [ec, gr_cg m1] at hW
  refine ⟨K', y, ?_, hy, hR.1, hd, hW⟩
  simp (disch := omega) only [f_L_one, ↓nM_lit, iN_lit, iN_add, iN_mul, iN_lt, iN_le, iN_eq, iN_c, gd_iN, iN_nM, nM_iN, iN_ltM, nM_lt, nM_le, iN_leM, iN_0M, nM_p1, iN_0s1, decide_true, decide_eq_true_eq, Nat.not_lt_zero, if_true, if_false, ↓reduceIte, show ¬ (2 = 0) by decide, show ¬ (2 = 1) by decide, e, eq_grd, eq_lb, eq_b1, eq_b2, eq_b3, eq_b4, eq_b5, eq_b6, eq_b7, eq_b8, eq_b9, kt_0]
theorem an_costAnew {j : Nat} {K : Nat → Ob} {M : Ob} (h : RI j K M) {s : Nat} (hs : s < 4) (hd : ¬ due M s) : ∃ K', f_L_one K (iN 3) (iN s) = some (wK (gr M) (cM M s) (evn M s), K') ∧ RI j K' M := by
  obtain ⟨K', y, e1, hR, m1, hback⟩ := need_2 h hs hd
  obtain ⟨z, g1, g2⟩ := RD_grow hs hR (K' 5)
  have hI := hR.1
  obtain ⟨⟨r1, r2, r3⟩, f1, f2, f3⟩ := X9_price (y := z) (q2 := K' 3) hI.1.2.2.2 hI.2.1.2.2.1 (fun _ _ _ _ => rfl) hR.2.2.2 g2
  simp only at f2 f3
  have e1' : f_X10_readAsNeeded K (iN s) = some (0, s, K') := e1
  have u5 : va_up K' 5 z 5 = z := vu_eq _ _ _
  have u14 : va_up K' 5 z (14 + s) = K' (14 + s) := by rw [vu_ap, if_neg (by omega)]
  have u3 : va_up K' 5 z 3 = K' 3 := by rw [vu_ap, if_neg (by omega)]
  have ew : wK (gr y) (cM y s) (evn y s) = wK (gr M) (cM M s) (evn M s) := by
    have ec : cM y s = cM M s := cM_cg m1 s
    rw [ec, gr_cg m1, evn_cg m1]
  have e : f_X10_costAnew K (iN s) = some (0, wK (gr M) (cM M s) (evn M s), va_up (va_up (va_up K' 5 z) 5 r2) 3 r3) := by
    rw [← ew]
    simp only [f_X10_costAnew, e1', eq_grd, eq_lb, eq_b1, eq_b2, eq_b3, eq_b4, eq_b5, if_true, hs, decide_true, g1, u5, u14, u3, f1, f2]
  refine ⟨va_up (va_up (va_up K' 5 z) 5 r2) 3 r3, ?_, hback _ (RI_K ⟨fun k hk => by rw [vu_ap, if_neg (by omega), vu_ap, if_neg (by omega), vu_ap, if_neg (by omega)], fun k k1 k2 k3 => by rw [vu_ap, if_pos rfl]; exact f3 k k1 k2 k3, by rw [vu_ap, if_neg (by omega), vu_ap, if_neg (by omega), vu_ap, if_neg (by omega)]⟩ hI)⟩
  simp (disch := omega) only [f_L_one, ↓nM_lit, iN_lit, iN_add, iN_mul, iN_lt, iN_le, iN_eq, iN_c, gd_iN, iN_nM, nM_iN, iN_ltM, nM_lt, nM_le, iN_leM, iN_0M, nM_p1, iN_0s1, decide_true, decide_eq_true_eq, Nat.not_lt_zero, if_true, if_false, ↓reduceIte, show ¬ (3 = 0) by decide, show ¬ (3 = 1) by decide, show ¬ (3 = 2) by decide, e, eq_grd, eq_lb, eq_b1, eq_b2, eq_b3, eq_b4, eq_b5, eq_b6, eq_b7, eq_b8, eq_b9, kt_0]
theorem an_edges {j : Nat} {K : Nat → Ob} {M : Ob} (h : RI j K M) {s b w : Nat} (hs : s < 4) (hd : ¬ due M s) (hw : 1 ≤ w) (hb : b + w ≤ evn M s) (v0 : Int32) : ∃ K', f_L_more K (iN 1) (iN s) (iN b) (iN w) v0 = some (iN (cM M s (6 * b + w - 1)).length, K') ∧ RI j K' M := by
  obtain ⟨q1, -⟩ := sp_y h hs hw hb
  obtain ⟨K', y, e1, hR, m1, hback⟩ := need_2 h hs hd
  have h6 := (RI_len h hs).2.2
  obtain ⟨hI, ⟨-, -, -, -, c0, -, hC⟩, -, hW⟩ := id hR
  have r1 := (hC (6 * b + w - 1) (by omega)).1
  have ec : cM y s = cM M s := cM_cg m1 s
  have ec' : chM (gr y) (sr y) y s = cM M s := ec
  rw [ec'] at r1
  have e : f_X10_edges K (iN s) (iN b) (iN w) = some (0, iN (cM M s (6 * b + w - 1)).length, K') := by
    simp (disch := omega) only [f_X10_edges, X10_sAt K hs, eq_grd, eq_lb, eq_b1, eq_b2, eq_b3, eq_b4, eq_b5, if_true, hs, decide_true, q1, e1, spanN hw, f_X0_edgesOf, ↓nM_lit, iN_lit, iN_add, iN_mul, iN_lt, iN_le, iN_eq, iN_c, gd_iN, iN_nM, nM_iN, iN_ltM, nM_lt, nM_le, iN_leM, iN_0M, nM_p1, iN_0s1, decide_true, decide_eq_true_eq, Nat.not_lt_zero, if_true, if_false, show ¬ (36 ≤ 6 * b + w - 1) by omega, show 6 * b + w - 1 < 36 by omega, r1]
  refine ⟨K', ?_, hback _ hI⟩
  simp (disch := omega) only [f_L_more, ↓nM_lit, iN_lit, iN_add, iN_mul, iN_lt, iN_le, iN_eq, iN_c, gd_iN, iN_nM, nM_iN, iN_ltM, nM_lt, nM_le, iN_leM, iN_0M, nM_p1, iN_0s1, decide_true, decide_eq_true_eq, Nat.not_lt_zero, if_true, if_false, ↓reduceIte, show ¬ (1 = 0) by decide, e, eq_grd, eq_lb, eq_b1, eq_b2, eq_b3, eq_b4, eq_b5, eq_b6, eq_b7, eq_b8, eq_b9, kt_0]
theorem an_edges_n {j : Nat} {K : Nat → Ob} {M : Ob} (h : RI j K M) {s : Nat} (hs : s < 4) (v0 : Int32) : f_L_more K (iN 1) (iN s) (iN 0) (iN (evn M s + 1)) v0 = some (-1001, K) := by
  have h6 := (RI_len h hs).2.2
  obtain ⟨q1, -⟩ := sp_n h (p2 := iN 0) (p3 := iN (evn M s + 1)) hs (by
    by_cases h0 : evn M s = 0
    · refine Or.inl ?_
      rw [h0]; exact nb_n (by omega)
    · refine Or.inr ⟨0, by omega, rfl, Or.inr ?_⟩
      rw [iN_lt (by omega) (by omega)]; omega)
  have e : f_X10_edges K (iN s) (iN 0) (iN (evn M s + 1)) = some (1, 0, K) := by
    simp (disch := omega) only [f_X10_edges, X10_sAt K hs, eq_grd, eq_lb, eq_b1, eq_b2, eq_b3, eq_b4, eq_b5, if_true, hs, decide_true, q1, ↓nM_lit, iN_lit, iN_add, iN_mul, iN_lt, iN_le, iN_eq, iN_c, gd_iN, iN_nM, nM_iN, iN_ltM, nM_lt, nM_le, iN_leM, iN_0M, nM_p1, iN_0s1, decide_true, decide_eq_true_eq, Nat.not_lt_zero, if_true, if_false, show ¬ (1 = 0) by decide, if_false]
  simp (disch := omega) only [f_L_more, ↓nM_lit, iN_lit, iN_add, iN_mul, iN_lt, iN_le, iN_eq, iN_c, gd_iN, iN_nM, nM_iN, iN_ltM, nM_lt, nM_le, iN_leM, iN_0M, nM_p1, iN_0s1, decide_true, decide_eq_true_eq, Nat.not_lt_zero, if_true, if_false, ↓reduceIte, show ¬ (1 = 0) by decide, e, eq_grd, eq_lb, eq_b1, eq_b2, eq_b3, eq_b4, eq_b5, eq_b6, eq_b7, eq_b8, eq_b9, kt1_1]
/-- an edge that is asked for -/
theorem an_eAt {j : Nat} {K : Nat → Ob} {M : Ob} (h : RI j K M) {s b w i : Nat} (hs : s < 4) (hd : ¬ due M s) (hw : 1 ≤ w) (hb : b + w ≤ evn M s) (hi : i ≤ (cM M s (6 * b + w - 1)).length) : ∃ K', f_X10_requireSpan K s (iN b) (iN w) = some 0 ∧ f_X10_readAsNeeded K (iN s) = some (0, s, K') ∧ RI j K' M ∧ f_X10_edgeAt K' s (iN (6 * b + w - 1)) (iN i) = (if i < (cM M s (6 * b + w - 1)).length then some (0, iN (8 * (6 * b + w - 1) + i)) else some (1, 0)) ∧ (i < (cM M s (6 * b + w - 1)).length → 8 * (6 * b + w - 1) + i < 288 ∧ WT (gr M) ((cM M s (6 * b + w - 1)).getD i dum) ∧ RC (K' (14 + s)) (gr M) ((cM M s (6 * b + w - 1)).getD i dum) (8 * (6 * b + w - 1) + i)) := by
  obtain ⟨q1, -⟩ := sp_y h hs hw hb
  obtain ⟨K', y, e1, hR, m1, hback⟩ := need_2 h hs hd
  have h6 := (RI_len h hs).2.2
  obtain ⟨hI, ⟨-, -, -, -, c0, -, hC⟩, -, hW⟩ := id hR
  obtain ⟨r1, rr⟩ := hC (6 * b + w - 1) (by omega)
  have ec : cM y s = cM M s := cM_cg m1 s
  have ec' : chM (gr y) (sr y) y s = cM M s := ec
  rw [ec, gr_cg m1] at hW
  rw [ec'] at r1 rr
  rw [gr_cg m1] at rr
  have h8 := hW.2 (6 * b + w - 1)
  refine ⟨K', q1, e1, hback _ hI, ?_, ?_⟩
  · by_cases hlt : i < (cM M s (6 * b + w - 1)).length
    · have i1 := isB_y hlt (by omega)
      simp (disch := omega) only [f_X10_edgeAt, f_X0_edgesOf, ↓nM_lit, iN_lit, iN_add, iN_mul, iN_lt, iN_le, iN_eq, iN_c, gd_iN, iN_nM, nM_iN, iN_ltM, nM_lt, nM_le, iN_leM, iN_0M, nM_p1, iN_0s1, decide_true, decide_eq_true_eq, Nat.not_lt_zero, if_true, if_false, eq_grd, eq_lb, eq_b1, eq_b2, eq_b3, eq_b4, eq_b5, show ¬ (36 ≤ 6 * b + w - 1) by omega, show 6 * b + w - 1 < 36 by omega, r1, i1, show ¬ (1 = 0) by decide, if_false, show (6 * b + w - 1) * 8 + i = 8 * (6 * b + w - 1) + i by omega, if_pos hlt]
    · have i1 := isB_n (p := iN i) (n := (cM M s (6 * b + w - 1)).length) (Or.inr (by rw [iN_le (by omega) (by omega)]; omega))
      simp (disch := omega) only [f_X10_edgeAt, f_X0_edgesOf, ↓nM_lit, iN_lit, iN_add, iN_mul, iN_lt, iN_le, iN_eq, iN_c, gd_iN, iN_nM, nM_iN, iN_ltM, nM_lt, nM_le, iN_leM, iN_0M, nM_p1, iN_0s1, decide_true, decide_eq_true_eq, Nat.not_lt_zero, if_true, if_false, eq_grd, eq_lb, eq_b1, eq_b2, eq_b3, eq_b4, eq_b5, show ¬ (36 ≤ 6 * b + w - 1) by omega, show 6 * b + w - 1 < 36 by omega, r1, i1, if_true, if_neg hlt]
  · intro hlt
    exact ⟨by omega, (hW.1 _ _ (getD_mem hlt)).1, rr i hlt⟩
theorem an_edge {j : Nat} {K : Nat → Ob} {M : Ob} (h : RI j K M) {s b w i : Nat} (hs : s < 4) (hd : ¬ due M s) (hw : 1 ≤ w) (hb : b + w ≤ evn M s) (hi : i < (cM M s (6 * b + w - 1)).length) : ∃ K', f_L_more K (iN 2) (iN s) (iN b) (iN w) (iN i) = some (iN (1000 * nn (tC (gr M) ((cM M s (6 * b + w - 1)).getD i dum)) + dec (tF (gr M) ((cM M s (6 * b + w - 1)).getD i dum))), K') ∧ RI j K' M := by
  obtain ⟨K', q1, e1, hI, f1, f2⟩ := an_eAt h hs hd hw hb (Nat.le_of_lt hi)
  rw [if_pos hi] at f1
  obtain ⟨f4, f7, f8⟩ := f2 hi
  have f6 := h.1.2.2.2
  generalize (cM M s (6 * b + w - 1)).getD i dum = t at f7 f8
  obtain ⟨g1, g2, -⟩ := X0_get f8 f4
  obtain ⟨c, hc, ec⟩ := tC_le f6 t f7
  have hF := tF_lt f6 t f7
  have v0 := fea_get hF (show 0 < 3 by decide)
  have v1 := fea_get hF (show 1 < 3 by decide)
  have v2 := fea_get hF (show 2 < 3 by decide)
  have hans : (((iN 1000 * tC (gr M) t) + (iN 100 * iN (fv (tF (gr M) t) 0))) + (iN 10 * iN (fv (tF (gr M) t) 1))) + iN (fv (tF (gr M) t) 2) = iN (1000 * nn (tC (gr M) t) + dec (tF (gr M) t)) := by
    rw [ec, show nn (iN c) = c from iN_c (by omega)]
    simp only [iN_mul, iN_add, dec]
    congr 1; omega
  have e : f_X10_edge K (iN s) (iN b) (iN w) (iN i) = some (0, iN (1000 * nn (tC (gr M) t) + dec (tF (gr M) t)), K') := by
    rw [f_X10_edge, X10_sAt K hs]
    simp only [eq_grd, eq_lb, eq_b1, eq_b2, eq_b3, eq_b4, eq_b5, if_true, hs, decide_true, q1, e1, spanN hw, f1, g1, g2, f_X10_valueOf, iN_lit, iN_mul 2, v0, v1, v2, hans]
  refine ⟨K', ?_, hI⟩
  simp (disch := omega) only [f_L_more, ↓nM_lit, iN_lit, iN_add, iN_mul, iN_lt, iN_le, iN_eq, iN_c, gd_iN, iN_nM, nM_iN, iN_ltM, nM_lt, nM_le, iN_leM, iN_0M, nM_p1, iN_0s1, decide_true, decide_eq_true_eq, Nat.not_lt_zero, if_true, if_false, ↓reduceIte, show ¬ (2 = 0) by decide, show ¬ (2 = 1) by decide, e, eq_grd, eq_lb, eq_b1, eq_b2, eq_b3, eq_b4, eq_b5, eq_b6, eq_b7, eq_b8, eq_b9, kt_0]
theorem an_edge_n {j : Nat} {K : Nat → Ob} {M : Ob} (h : RI j K M) {s b w : Nat} (hs : s < 4) (hd : ¬ due M s) (hw : 1 ≤ w) (hb : b + w ≤ evn M s) : ∃ K', f_L_more K (iN 2) (iN s) (iN b) (iN w) (iN (cM M s (6 * b + w - 1)).length) = some (-1001, K') ∧ RI j K' M := by
  obtain ⟨K', q1, e1, hI, f1, -⟩ := an_eAt h hs hd hw hb (Nat.le_refl _)
  rw [if_neg (Nat.lt_irrefl _)] at f1
  have e : f_X10_edge K (iN s) (iN b) (iN w) (iN (cM M s (6 * b + w - 1)).length) = some (1, 0, K') := by
    simp (disch := omega) only [f_X10_edge, X10_sAt K hs, eq_grd, eq_lb, eq_b1, eq_b2, eq_b3, eq_b4, eq_b5, if_true, hs, decide_true, q1, e1, spanN hw, f1, show ¬ (1 = 0) by decide, if_false]
  refine ⟨K', ?_, hI⟩
  simp (disch := omega) only [f_L_more, ↓nM_lit, iN_lit, iN_add, iN_mul, iN_lt, iN_le, iN_eq, iN_c, gd_iN, iN_nM, nM_iN, iN_ltM, nM_lt, nM_le, iN_leM, iN_0M, nM_p1, iN_0s1, decide_true, decide_eq_true_eq, Nat.not_lt_zero, if_true, if_false, ↓reduceIte, show ¬ (2 = 0) by decide, show ¬ (2 = 1) by decide, e, eq_grd, eq_lb, eq_b1, eq_b2, eq_b3, eq_b4, eq_b5, eq_b6, eq_b7, eq_b8, eq_b9, kt1_1]
theorem an_eCost {j : Nat} {K : Nat → Ob} {M : Ob} (h : RI j K M) {s b w i : Nat} (hs : s < 4) (hd : ¬ due M s) (hw : 1 ≤ w) (hb : b + w ≤ evn M s) (hi : i < (cM M s (6 * b + w - 1)).length) : ∃ K', f_L_more K (iN 3) (iN s) (iN b) (iN w) (iN i) = some (tK (gr M) ((cM M s (6 * b + w - 1)).getD i dum), K') ∧ RI j K' M := by
  obtain ⟨K', q1, e1, hI, f1, f2⟩ := an_eAt h hs hd hw hb (Nat.le_of_lt hi)
  rw [if_pos hi] at f1
  obtain ⟨f4, f7, f8⟩ := f2 hi
  generalize (cM M s (6 * b + w - 1)).getD i dum = t at f7 f8
  obtain ⟨-, -, g3⟩ := X0_get f8 f4
  have e : f_X10_edgeCost K (iN s) (iN b) (iN w) (iN i) = some (0, tK (gr M) t, K') := by
    rw [f_X10_edgeCost, X10_sAt K hs]
    simp only [eq_grd, eq_lb, eq_b1, eq_b2, eq_b3, eq_b4, eq_b5, if_true, hs, decide_true, q1, e1, spanN hw, f1, g3]
  refine ⟨K', ?_, hI⟩
  simp (disch := omega) only [f_L_more, ↓nM_lit, iN_lit, iN_add, iN_mul, iN_lt, iN_le, iN_eq, iN_c, gd_iN, iN_nM, nM_iN, iN_ltM, nM_lt, nM_le, iN_leM, iN_0M, nM_p1, iN_0s1, decide_true, decide_eq_true_eq, Nat.not_lt_zero, if_true, if_false, ↓reduceIte, show ¬ (3 = 0) by decide, show ¬ (3 = 1) by decide, show ¬ (3 = 2) by decide, e, eq_grd, eq_lb, eq_b1, eq_b2, eq_b3, eq_b4, eq_b5, eq_b6, eq_b7, eq_b8, eq_b9, kt_0]
theorem an_faults {j : Nat} {K : Nat → Ob} {M : Ob} (h : RI j K M) {s : Nat} (hs : s < 4) (hd : ¬ due M s) : ∃ K', f_L_one K (iN 4) (iN s) = some (iN (fM M s).length, K') ∧ RI j K' M := by
  obtain ⟨K', y, e1, hR, m1, hback⟩ := need_2 h hs hd
  obtain ⟨z, g1, g2⟩ := RD_grow hs hR (K' 5)
  have hc := X9_count hR.1.1.2.2.2 g2 (wL_W hR.1.1.2.2.2 hR.2.2.2 _)
  have ec : cM y s = cM M s := cM_cg m1 s
  have hc' : f_X9_countRelaxed z (K' (14 + s)) = some (iN (fM M s).length) := by
    rw [hc, ec, gr_cg m1, evn_cg m1]
  have e1' : f_X10_readAsNeeded K (iN s) = some (0, s, K') := e1
  have u5 : va_up K' 5 z 5 = z := vu_eq _ _ _
  have u14 : va_up K' 5 z (14 + s) = K' (14 + s) := by rw [vu_ap, if_neg (by omega)]
  have e : f_X10_faults K (iN s) = some (0, iN (fM M s).length, va_up K' 5 z) := by
    simp only [f_X10_faults, e1', eq_grd, eq_lb, eq_b1, eq_b2, eq_b3, eq_b4, eq_b5, if_true, hs, decide_true, g1, u5, u14, hc']
  refine ⟨va_up K' 5 z, ?_, hback _ (RI_K5 hR.1 (by omega) _)⟩
  simp (disch := omega) only [f_L_one, ↓nM_lit, iN_lit, iN_add, iN_mul, iN_lt, iN_le, iN_eq, iN_c, gd_iN, iN_nM, nM_iN, iN_ltM, nM_lt, nM_le, iN_leM, iN_0M, nM_p1, iN_0s1, decide_true, decide_eq_true_eq, Nat.not_lt_zero, if_true, if_false, ↓reduceIte, show ¬ (4 = 0) by decide, show ¬ (4 = 1) by decide, show ¬ (4 = 2) by decide, show ¬ (4 = 3) by decide, e, eq_grd, eq_lb, eq_b1, eq_b2, eq_b3, eq_b4, eq_b5, eq_b6, eq_b7, eq_b8, eq_b9, kt_0]
theorem an_fault {j : Nat} {K : Nat → Ob} {M : Ob} (h : RI j K M) {s i : Nat} (hs : s < 4) (hd : ¬ due M s) (hi : i ≤ (fM M s).length) : ∃ K' r, f_L_two K (iN 5) (iN s) (iN i) = some (r, K') ∧ RI j K' M ∧ (if i < (fM M s).length then ∃ D, r = iN D ∧ D < 100000 ∧ D / 100 = fcd ((fM M s).getD i (dum, 0)) else r = -1001) := by
  obtain ⟨K', y, e1, hR, m1, hback⟩ := need_2 h hs hd
  have ec : cM y s = cM M s := cM_cg m1 s
  have ef : fM y s = fM M s := by
    unfold fM
    rw [ec, gr_cg m1, evn_cg m1]
  have e1' : f_X10_readAsNeeded K (iN s) = some (0, s, K') := e1
  obtain ⟨⟨r0, r1, K2⟩, g1, gR, g14, g9, gN, gc⟩ := RD_fa hs hR (iN i)
  have hlen := fM_len hR
  simp only at gR g14 g9 gc
  rw [ef] at hlen gc
  have two : ∀ c r, f_X10_fault K (iN s) (iN i) = some (c, r, K2) → f_L_two K (iN 5) (iN s) (iN i) = bnd1 (ktch [1, 3] c r) (fun v => some (v, K2)) := by
    intro c r e
    simp (disch := omega) only [f_L_two, ↓nM_lit, iN_lit, iN_add, iN_mul, iN_lt, iN_le, iN_eq, iN_c, gd_iN, iN_nM, nM_iN, iN_ltM, nM_lt, nM_le, iN_leM, iN_0M, nM_p1, iN_0s1, decide_true, decide_eq_true_eq, Nat.not_lt_zero, if_true, if_false, ↓reduceIte, show ¬ (5 = 0) by decide, show ¬ (5 = 1) by decide, show ¬ (5 = 2) by decide, show ¬ (5 = 3) by decide, show ¬ (5 = 4) by decide, e, eq_grd, eq_lb, eq_b1, eq_b2, eq_b3, eq_b4, eq_b5, eq_b6, eq_b7, eq_b8, eq_b9]
  rcases gc with ⟨c1, c2⟩ | ⟨c1, i', σ, f1, f2, f3, f4, f5, f6, f7, f8⟩
  · have hlt : ¬ (i < (fM M s).length) := fun hlt => c2 i hlt rfl
    subst c1
    have e : f_X10_fault K (iN s) (iN i) = some (1, 0, K2) := by
      simp only [f_X10_fault, e1', eq_grd, eq_lb, eq_b1, eq_b2, eq_b3, eq_b4, eq_b5, if_true, hs, decide_true, g1, show ¬ (1 = 0) by decide, if_false]
    refine ⟨K2, -1001, ?_, hback _ gR.1, by rw [if_neg hlt]⟩
    rw [two _ _ e, kt13_1, eq_b1]
  · rw [iN_eq (by omega) (by omega)] at f2
    subst f2
    subst c1
    obtain ⟨g, l, r, et⟩ := tR_branch f5
    have efc : fcd ((fM M s).getD i (dum, 0)) = 10 * g + ((fM M s).getD i (dum, 0)).2 := by
      have : (fM M s).getD i (dum, 0) = ((.branch g l r : Tr), ((fM M s).getD i (dum, 0)).2) := by rw [← et]
      rw [this]; rfl
    rw [efc]
    rw [et] at f7 f8
    generalize ((fM M s).getD i (dum, 0)).2 = ee at f4 f5 f6
    have hg16 : g < 16 := by have := ng_le hR.1.1.2.2.2; have := f8.1; omega
    obtain ⟨σl, σr, -, -, pr, -, -, -, -⟩ := X0_partB hg16 f7 f3
    have hsp := RC_s f8 f7
    rw [← g14] at pr
    have hd3 : iN (3 * σ + ee) / iN 3 = iN σ := by rw [iN_div (by omega) (by decide)]; congr 1; omega
    have hm3 : iN (3 * σ + ee) - iN (σ * 3) = iN ee := by rw [iN_sub (by omega)]; congr 1; omega
    have hd8 : iN σ / iN 8 = iN (sp (.branch g l r)) := by rw [iN_div (by omega) (by decide), hsp]
    have hspl : sp (.branch g l r) < 36 := by omega
    have hd6 : iN (sp (.branch g l r)) / iN 6 = iN (sp (.branch g l r) / 6) := iN_div (by omega) (by decide)
    have hm6 : iN (sp (.branch g l r)) - iN (sp (.branch g l r) / 6 * 6) = iN (sp (.branch g l r) % 6) := by rw [iN_sub (by omega)]; congr 1; omega
    have e : f_X10_fault K (iN s) (iN i) = some (0, iN (1000 * g + 100 * ee + 10 * (sp (.branch g l r) / 6) + (sp (.branch g l r) % 6 + 1)), K2) := by
      simp only [f_X10_fault, e1', eq_grd, eq_lb, eq_b1, eq_b2, eq_b3, eq_b4, eq_b5, if_true, hs, decide_true, g1, iN_lit, f6, hd3, hm3, pr, f_X10_placeOfEdge, f_X10_wordsOfEdge, hd8, hd6, hm6, iN_mul, iN_add]
    refine ⟨K2, iN (1000 * g + 100 * ee + 10 * (sp (.branch g l r) / 6) + (sp (.branch g l r) % 6 + 1)), ?_, hback _ gR.1, ?_⟩
    · rw [two _ _ e, kt_0, eq_b1]
    · rw [if_pos f1]
      exact ⟨_, rfl, by omega, by omega⟩
theorem an_frags {j : Nat} {K : Nat → Ob} {M : Ob} (h : RI j K M) {s : Nat} (hs : s < 4) (hd : ¬ due M s) : ∃ K', f_L_one K (iN 5) (iN s) = some (iN ((frg (gr M) (cM M s) (evn M s)).1 0), K') ∧ RI j K' M := by
  obtain ⟨K', y, e1, hR, m1, hback⟩ := need_2 h hs hd
  obtain ⟨⟨z, g1, g2, g3⟩, -⟩ := both_frag hs hR (K' 6)
  have ec : cM y s = cM M s := cM_cg m1 s
  have r1 := (g3 0 (Nat.le_refl 0) (Nat.zero_le _)).1
  rw [ec, gr_cg m1, evn_cg m1] at r1
  have e1' : f_X10_readAsNeeded K (iN s) = some (0, s, K') := e1
  have u6 : va_up K' 6 z 6 = z := vu_eq _ _ _
  have e : f_X10_fragments K (iN s) = some (0, iN ((frg (gr M) (cM M s) (evn M s)).1 0), va_up K' 6 z) := by
    simp only [f_X10_fragments, e1', eq_grd, eq_lb, eq_b1, eq_b2, eq_b3, eq_b4, eq_b5, if_true, hs, decide_true, g1, u6, f_X1_pieces, iN_lit]
    rw [iN_c (by decide), r1]
  refine ⟨va_up K' 6 z, ?_, hback _ (RI_K5 hR.1 (by omega) _)⟩
  simp (disch := omega) only [f_L_one, ↓nM_lit, iN_lit, iN_add, iN_mul, iN_lt, iN_le, iN_eq, iN_c, gd_iN, iN_nM, nM_iN, iN_ltM, nM_lt, nM_le, iN_leM, iN_0M, nM_p1, iN_0s1, decide_true, decide_eq_true_eq, Nat.not_lt_zero, if_true, if_false, ↓reduceIte, show ¬ (5 = 0) by decide, show ¬ (5 = 1) by decide, show ¬ (5 = 2) by decide, show ¬ (5 = 3) by decide, show ¬ (5 = 4) by decide, e, eq_grd, eq_lb, eq_b1, eq_b2, eq_b3, eq_b4, eq_b5, eq_b6, eq_b7, eq_b8, eq_b9, kt_0]
theorem an_frag {j : Nat} {K : Nat → Ob} {M : Ob} (h : RI j K M) {s i : Nat} (hs : s < 4) (hd : ¬ due M s) (hi : i ≤ (frg (gr M) (cM M s) (evn M s)).1 0) : ∃ K', f_L_two K (iN 6) (iN s) (iN i) = some (if i < (frg (gr M) (cM M s) (evn M s)).1 0 then iN (10 * plc (frg (gr M) (cM M s) (evn M s)) i + (frg (gr M) (cM M s) (evn M s)).2.2 (plc (frg (gr M) (cM M s) (evn M s)) i)) else -1001, K') ∧ RI j K' M := by
  obtain ⟨K', y, e1, hR, m1, hback⟩ := need_2 h hs hd
  obtain ⟨⟨z, g1, g2, g3⟩, -⟩ := both_frag hs hR (K' 6)
  have ec : cM y s = cM M s := cM_cg m1 s
  rw [evn_cg m1] at g2
  rw [ec, gr_cg m1, evn_cg m1] at g3
  have r1 := (g3 0 (Nat.le_refl 0) (Nat.zero_le _)).1
  have h6 := (RI_len h hs).2.2
  have hFI := frg_I (G := gr M) (ch := cM M s) (evn M s)
  have hle := FI_le hFI (Nat.le_refl 0) (Nat.zero_le _)
  have e1' : f_X10_readAsNeeded K (iN s) = some (0, s, K') := e1
  have u6 : va_up K' 6 z 6 = z := vu_eq _ _ _
  have hp : f_X1_pieces z = some (iN ((frg (gr M) (cM M s) (evn M s)).1 0)) := by
    simp only [f_X1_pieces, iN_lit]
    rw [iN_c (by decide), r1]
  have two : ∀ c r, f_X10_fragment K (iN s) (iN i) = some (c, r, va_up K' 6 z) → f_L_two K (iN 6) (iN s) (iN i) = bnd1 (ktch [1, 3] c r) (fun v => some (v, va_up K' 6 z)) := by
    intro c r e
    simp (disch := omega) only [f_L_two, ↓nM_lit, iN_lit, iN_add, iN_mul, iN_lt, iN_le, iN_eq, iN_c, gd_iN, iN_nM, nM_iN, iN_ltM, nM_lt, nM_le, iN_leM, iN_0M, nM_p1, iN_0s1, decide_true, decide_eq_true_eq, Nat.not_lt_zero, if_true, if_false, ↓reduceIte, show ¬ (6 = 0) by decide, show ¬ (6 = 1) by decide, show ¬ (6 = 2) by decide, show ¬ (6 = 3) by decide, show ¬ (6 = 4) by decide, show ¬ (6 = 5) by decide, e, eq_grd, eq_lb, eq_b1, eq_b2, eq_b3, eq_b4, eq_b5, eq_b6, eq_b7, eq_b8, eq_b9]
  refine ⟨va_up K' 6 z, ?_, hback _ (RI_K5 hR.1 (by omega) _)⟩
  by_cases hlt : i < (frg (gr M) (cM M s) (evn M s)).1 0
  · obtain ⟨f1, f2⟩ := X1_place g2 h6 g3 hFI hlt
    have i1 := isB_y hlt (by omega)
    have e : f_X10_fragment K (iN s) (iN i) = some (0, iN (10 * plc (frg (gr M) (cM M s) (evn M s)) i + (frg (gr M) (cM M s) (evn M s)).2.2 (plc (frg (gr M) (cM M s) (evn M s)) i)), va_up K' 6 z) := by
      simp (disch := omega) only [f_X10_fragment, e1', eq_grd, eq_lb, eq_b1, eq_b2, eq_b3, eq_b4, eq_b5, if_true, hs, decide_true, g1, u6, hp, i1, f1, f2, ↓nM_lit, iN_lit, iN_add, iN_mul, iN_lt, iN_le, iN_eq, iN_c, gd_iN, iN_nM, nM_iN, iN_ltM, nM_lt, nM_le, iN_leM, iN_0M, nM_p1, iN_0s1, decide_true, decide_eq_true_eq, Nat.not_lt_zero, if_true, if_false, show ¬ (1 = 0) by decide, if_false]
    rw [two _ _ e, kt_0, eq_b1, if_pos hlt]
  · have i1 := isB_n (p := iN i) (n := (frg (gr M) (cM M s) (evn M s)).1 0) (Or.inr (by rw [iN_le (by omega) (by omega)]; omega))
    have e : f_X10_fragment K (iN s) (iN i) = some (1, 0, va_up K' 6 z) := by
      simp (disch := omega) only [f_X10_fragment, e1', eq_grd, eq_lb, eq_b1, eq_b2, eq_b3, eq_b4, eq_b5, if_true, hs, decide_true, g1, u6, hp, i1, ↓nM_lit, iN_lit, iN_add, iN_mul, iN_lt, iN_le, iN_eq, iN_c, gd_iN, iN_nM, nM_iN, iN_ltM, nM_lt, nM_le, iN_leM, iN_0M, nM_p1, iN_0s1, decide_true, decide_eq_true_eq, Nat.not_lt_zero, if_true, if_false]
    rw [two _ _ e, kt13_1, eq_b1, if_neg hlt]
theorem an_reads {j : Nat} {K : Nat → Ob} {M : Ob} (h : RI j K M) : f_X10_reads K = some (M 53 0) := by
  rw [← h.2.2.2.2.1]; rfl
