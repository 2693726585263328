/-- all readings left stand in the law's row -/
def RLs (l : Rw) (M : Ob) (Ls : Nat → Nat → Nat) : Prop := ∀ t, t < 2 → RLl l M t (Ls t) ∧ LB (evS M t) (Ls t)
theorem L112_0 (n : Nat) (c w u x l f v : Rw) (i9 m9 t9 r9 : Int32) : f_L_refers_L112 (n + 1) c w u x l f v i9 m9 t9 (iN 0) r9 = some (r9, f, v) := by
  simp (disch := omega) only [f_L_refers_L112, ↓nM_lit, iN_lit, iN_add, iN_mul, iN_lt, iN_le, iN_eq, iN_c, gd_iN, iN_nM, nM_iN, iN_ltM, nM_lt, nM_le, iN_leM, iN_0M, nM_p1, iN_0s1, decide_true, decide_eq_true_eq, Nat.not_lt_zero, if_true, if_false]
theorem L112_400 (c w u x l f v : Rw) (i9 m9 t9 r9 : Int32) : f_L_refers_L112 400 c w u x l f v i9 m9 t9 (iN 0) r9 = some (r9, f, v) := L112_0 399 c w u x l f v i9 m9 t9 r9
theorem L_J107_0 (c w u x l f v : Rw) (i9 m9 : Int32) (T : Nat) : f_L_refers_J107 c w u x l f v i9 m9 (iN T) (iN 0) = some (0, iD T, f, v) := by
  have e : iN T + (-1) = iD T := iD_pM T
  unfold f_L_refers_J107
  rw [L112_400, eq_b3, eq_lb, e]
theorem L_J107_1 {c w u x l f0 v0 f v : Rw} {M : Ob} {t q T : Nat} {L : Nat → Nat} (h : LW0 c w u x M) (ht : t < 2) (hl : RLl l M t L) (hL : LB (evS M t) L) (hq : q < evn M t) {i φ : Nat} (hi : i < 6) (hφ : φ < 64) (hT : T = 3 * t + q) (hPF : PF i f0 v0 none f v) : wp (f_L_refers_J107 c w u x l f v (iN i) (iN (1000 + dec φ)) (iN T) (iN 1)) (fun z => z.1 = 0 ∧ z.2.1 = iD T ∧ PF i f0 v0 (nS M t q (nG (nOk (evS M t) L φ q) 4 0)) z.2.2.1 z.2.2.2) := by
  have e : iN T + (-1) = iD T := iD_pM T
  have k1 := L_ref_in (f0 := f0) (v0 := v0) h ht hl hL hq hi hφ 4 400 0 f v rfl (Nat.zero_le _) (by omega) hPF
  rw [← hT] at k1
  have e0 : (0 : Int32) = iN 0 := rfl
  obtain ⟨r, er, hr⟩ := k1
  unfold f_L_refers_J107
  rw [e0, er, eq_b3, eq_lb, e]
  exact ⟨_, rfl, rfl, rfl, hr⟩
theorem L_ref_out {c w u x l f0 v0 : Rw} {M : Ob} {Ls : Nat → Nat → Nat} (h : LW0 c w u x M) (hl : RLs l M Ls) {i φ : Nat} (hi : i < 6) (hφ : φ < 64) : ∀ (T n : Nat) (f v : Rw), T ≤ 6 → T < n → PF i f0 v0 none f v →
    wp (f_L_refers_L73 n c w u x l f v (iN i) (iN (1000 + dec φ)) (iD T)) (fun z => PF i f0 v0 (nA M Ls φ T) z.2.1 z.2.2) := by
  intro T
  induction T with
  | zero =>
    intro n f v _ hn hPF
    obtain ⟨n, rfl⟩ : ∃ m, n = m + 1 := ⟨n - 1, by omega⟩
    rw [iD_0]
    simp (disch := omega) only [f_L_refers_L73, ↓nM_lit, iN_lit, iN_add, iN_mul, iN_lt, iN_le, iN_eq, iN_c, gd_iN, iN_nM, nM_iN, iN_ltM, nM_lt, nM_le, iN_leM, iN_0M, nM_p1, iN_0s1, decide_true, decide_eq_true_eq, Nat.not_lt_zero, if_true, if_false, wp_some, wp_grd, wp_lb, wp_ite, wp_b1, wp_b2, wp_b3, wp_b4, wp_b5]
    exact hPF
  | succ T ih =>
    intro n f v hT hn hPF
    obtain ⟨n, rfl⟩ : ∃ m, n = m + 1 := ⟨n - 1, by omega⟩
    rw [iD_s]
    have hfi : f i = nM := by rw [hPF.1 i, if_pos rfl]; rfl
    obtain ⟨t, q, ht, hq3, hTe⟩ : ∃ t q, t < 2 ∧ q < 3 ∧ T = 3 * t + q := ⟨T / 3, T % 3, by omega, by omega, by omega⟩
    have t1 : T / 3 = t := by omega
    have t2 : T - t * 3 = q := by omega
    have t3 : T % 3 = q := by omega
    obtain ⟨n3, c8, -, -⟩ := LX_t h.2.2.2 ht
    rw [nA, t1, t3]
    by_cases hq : q < evn M t
    · rw [if_pos hq]
      simp (disch := omega) only [f_L_refers_L73, ↓nM_lit, iN_lit, iN_add, iN_mul, iN_lt, iN_le, iN_eq, iN_c, gd_iN, iN_nM, nM_iN, iN_ltM, nM_lt, nM_le, iN_leM, iN_0M, nM_p1, iN_0s1, decide_true, decide_eq_true_eq, Nat.not_lt_zero, if_true, if_false, wp_some, wp_grd, wp_lb, wp_ite, wp_b1, wp_b2, wp_b3, wp_b4, wp_b5, eq_grd, eq_lb, eq_b1, eq_b2, eq_b3, eq_b4, eq_b5, hi, hfi, iN_div, iN_sub, t1, t2, show 8 + t < 12 by omega, c8, show ¬ (evn M t ≤ q) by omega, true_and]
      refine wp_mono (L_J107_1 h ht (hl t ht).1 (hl t ht).2 hq hi hφ hTe hPF) ?_
      rintro z ⟨z1, z2, hz⟩
      rw [z1, z2, if_pos rfl]
      cases hg : nG (nOk (evS M t) (Ls t) φ q) 4 0 with
      | none =>
        rw [hg] at hz
        exact ih n z.2.2.1 z.2.2.2 (by omega) (by omega) hz
      | some k =>
        rw [hg] at hz
        obtain ⟨n, rfl⟩ : ∃ m, n = m + 1 := ⟨n - 1, by omega⟩
        have hzi : z.2.2.1 i = iN (10 * t + q) := by rw [hz.1 i, if_pos rfl]; rfl
        cases T with
        | zero =>
          rw [iD_0]
          simp (disch := omega) only [f_L_refers_L73, ↓nM_lit, iN_lit, iN_add, iN_mul, iN_lt, iN_le, iN_eq, iN_c, gd_iN, iN_nM, nM_iN, iN_ltM, nM_lt, nM_le, iN_leM, iN_0M, nM_p1, iN_0s1, decide_true, decide_eq_true_eq, Nat.not_lt_zero, if_true, if_false, wp_some, wp_grd, wp_lb, wp_ite, wp_b1, wp_b2, wp_b3, wp_b4, wp_b5]
          exact hz
        | succ T =>
          rw [iD_s]
          simp (disch := omega) only [f_L_refers_L73, ↓nM_lit, iN_lit, iN_add, iN_mul, iN_lt, iN_le, iN_eq, iN_c, gd_iN, iN_nM, nM_iN, iN_ltM, nM_lt, nM_le, iN_leM, iN_0M, nM_p1, iN_0s1, decide_true, decide_eq_true_eq, Nat.not_lt_zero, if_true, if_false, wp_some, wp_grd, wp_lb, wp_ite, wp_b1, wp_b2, wp_b3, wp_b4, wp_b5, eq_grd, eq_lb, eq_b1, eq_b2, eq_b3, eq_b4, eq_b5, hi, hzi, Nat.zero_le, true_and]
          exact hz
    · rw [if_neg hq]
      simp (disch := omega) only [f_L_refers_L73, ↓nM_lit, iN_lit, iN_add, iN_mul, iN_lt, iN_le, iN_eq, iN_c, gd_iN, iN_nM, nM_iN, iN_ltM, nM_lt, nM_le, iN_leM, iN_0M, nM_p1, iN_0s1, decide_true, decide_eq_true_eq, Nat.not_lt_zero, if_true, if_false, wp_some, wp_grd, wp_lb, wp_ite, wp_b1, wp_b2, wp_b3, wp_b4, wp_b5, eq_grd, eq_lb, eq_b1, eq_b2, eq_b3, eq_b4, eq_b5, hi, hfi, iN_div, iN_sub, t1, t2, show 8 + t < 12 by omega, c8, show evn M t ≤ q by omega, true_and, L_J107_0]
      exact ih n f v (by omega) (by omega) hPF
theorem nA_in {M : Ob} {Ls : Nat → Nat → Nat} {φ s : Nat} (p : Nat) (hp : p ≤ evn M s) (h3 : p ≤ 3) : nA M Ls φ (3 * s + p) = (match fD (evS M s) (Ls s) φ p with | some q => some (s, q) | none => nA M Ls φ (3 * s)) := by
  induction p with
  | zero => rfl
  | succ p ih =>
    rw [← Nat.add_assoc, nA, show (3 * s + p) / 3 = s by omega, show (3 * s + p) % 3 = p by omega, if_pos (by omega), fD]
    cases nG (nOk (evS M s) (Ls s) φ p) 4 0 with
    | some k => rfl
    | none => exact ih (by omega) (by omega)
theorem nA_3 {M : Ob} {Ls : Nat → Nat → Nat} {φ : Nat} (h3 : evn M 0 ≤ 3) : nA M Ls φ 3 = (match fD (evS M 0) (Ls 0) φ (evn M 0) with | some q => some (0, q) | none => none) := by
  have up : ∀ d, evn M 0 + d ≤ 3 → nA M Ls φ (evn M 0 + d) = nA M Ls φ (evn M 0) := by
    intro d
    induction d with
    | zero => intro _; rfl
    | succ d ih =>
      intro hd
      rw [← Nat.add_assoc, nA, show (evn M 0 + d) / 3 = 0 by omega, show (evn M 0 + d) % 3 = evn M 0 + d by omega, if_neg (by omega)]
      exact ih (by omega)
  have h1 := up (3 - evn M 0) (by omega)
  rw [show evn M 0 + (3 - evn M 0) = 3 by omega] at h1
  have h2 := nA_in (M := M) (Ls := Ls) (φ := φ) (s := 0) (evn M 0) (Nat.le_refl _) h3
  rw [Nat.mul_zero, Nat.zero_add] at h2
  rw [h1, h2]
  rfl
theorem fb_2 {S : Nat} (h : S < 4) (h0 : S ≠ 0) : fb S = some (if S % 2 = 1 then 0 else 1) := by
  have : S = 1 ∨ S = 2 ∨ S = 3 := by omega
  rcases this with rfl | rfl | rfl <;> rfl
theorem L_refer {c w u x l f v : Rw} {M : Ob} {Ls : Nat → Nat → Nat} (h : LW0 c w u x M) (hl : RLs l M Ls) {s p : Nat} (hs : s < 2) (hp : p < evn M s) :
    wp (f_L_refers c w u x l f v (iN (3 * s + p))) (fun z => PF (3 * s + p) f v (rfO (evS M) Ls (evS M s) (Ls s) s p) z.1 z.2) := by
  have hE := LW_E h hs
  obtain ⟨ex, -, ec, c2, et⟩ := LW_at h hs hp
  obtain ⟨n3, c8, -, -⟩ := LX_t h.2.2.2 hs
  obtain ⟨hls, hLs⟩ := hl s hs
  have hp' : p < eL (evS M s) := by rw [evS_L]; exact hp
  have hL4 := hLs p hp'
  have h16 := LB16 hE hLs hp'
  have hlf := lf_lt hE hLs hp' (iN 1)
  have hlo : lf (evS M s) (Ls s) p (iN 1) ≤ Ls s p := by rw [lf, if_pos hp']; exact lo_le h16 _
  have hle : lf (evS M s) (Ls s) p (iN 1) < 4 := by
    have : 2 ^ eC (evS M s) p ≤ 2 ^ 2 := Nat.pow_le_pow_right (by decide) c2
    omega
  have hi : 3 * s + p < 6 := by omega
  have hP0 : PF (3 * s + p) f v none (upd f (3 * s + p) nM) (upd (upd v (2 * (3 * s + p)) (iN 0)) (2 * (3 * s + p) + 1) (iN 0)) := by
    refine ⟨fun j => rfl, fun j => ?_⟩
    rw [upd_ap, upd_ap]
    show _ = if j = 2 * (3 * s + p) then iN 0 else if j = 2 * (3 * s + p) + 1 then iN 0 else v j
    by_cases hj : j = 2 * (3 * s + p)
    · rw [if_neg (by omega), if_pos hj, if_pos hj]
    · by_cases hj2 : j = 2 * (3 * s + p) + 1
      · rw [if_pos hj2, if_neg hj, if_pos hj2]
      · rw [if_neg hj2, if_neg hj, if_neg hj, if_neg hj2]
  generalize hS : lf (evS M s) (Ls s) p (iN 1) = S at *
  have el := L_left h hs hls hLs hp (iN 1)
  rw [hS] at el
  unfold rfO
  rw [hS]
  by_cases h0 : S = 0
  · subst h0
    rw [fb_zero]
    simp (disch := omega) only [f_L_refers, ↓nM_lit, iN_lit, iN_add, iN_mul, iN_lt, iN_le, iN_eq, iN_c, gd_iN, iN_nM, nM_iN, iN_ltM, nM_lt, nM_le, iN_leM, iN_0M, nM_p1, iN_0s1, decide_true, decide_eq_true_eq, Nat.not_lt_zero, if_true, if_false, wp_some, wp_grd, wp_lb, wp_ite, wp_b1, wp_b2, wp_b3, wp_b4, wp_b5, eq_grd, eq_lb, eq_b1, eq_b2, eq_b3, eq_b4, eq_b5, hi, show 2 * (3 * s + p) < 12 by omega, show 2 * (3 * s + p) + 1 < 12 by omega, el, true_and]
    exact hP0
  · have hfb := fb_2 hle h0
    obtain ⟨hb1, hb2, hb3⟩ := fb_lt hE hLs (by rw [hS]; exact hfb)
    generalize hr : (if S % 2 = 1 then 0 else 1) = r at *
    rw [hfb]
    simp only
    obtain ⟨er, et1, et2, et3⟩ := et r hb2
    have ht1 : nn (eT (evS M s) p r) = 1 := by
      have hbit : S.testBit r = true := by
        rw [← hr]
        have : S = 1 ∨ S = 2 ∨ S = 3 := by omega
        rcases this with rfl | rfl | rfl <;> rfl
      rw [← hS, lf, if_pos hp', lo_bit h16 (show r < 4 by omega)] at hbit
      have : eT (evS M s) p r = iN 1 := by
        have := Bool.and_eq_true_iff.mp hbit
        exact of_decide_eq_true this.2
      rw [this]; rfl
    have hPl : eP (evS M s) p r < 64 := ((hE.2 p hp').2 r hb2).1
    have key := L_ref_out (f0 := f) (v0 := v) h hl hi hPl (3 * s + p) 400 _ _ (by omega) (by omega) hP0
    have res : nA M Ls (eP (evS M s) p r) (3 * s + p) = (match fD (evS M s) (Ls s) (eP (evS M s) p r) p with | some q => some (s, q) | none => fA (evS M) Ls (eP (evS M s) p r) 2 s) := by
      rw [nA_in p (by omega) (by omega)]
      cases fD (evS M s) (Ls s) (eP (evS M s) p r) p with
      | some q => rfl
      | none =>
        simp only
        have hs01 : s = 0 ∨ s = 1 := by omega
        rcases hs01 with rfl | rfl
        · rfl
        · have n0 := (LX_t h.2.2.2 (show 0 < 2 by decide)).1
          rw [Nat.mul_one, nA_3 n0, fA]
          rw [evS_L]
          cases fD (evS M 0) (Ls 0) (eP (evS M 1) p r) (evn M 0) <;> rfl
    rw [res] at key
    have e1 : 1000 * nn (eT (evS M s) p r) + dec (eP (evS M s) p r) = 1000 + dec (eP (evS M s) p r) := by rw [ht1]
    have hJ : f_L_refers_J62 c w u x l (upd f (3 * s + p) nM) (upd (upd v (2 * (3 * s + p)) (iN 0)) (2 * (3 * s + p) + 1) (iN 0)) (iN (3 * s + p)) (iN (evw M s p)) (iN r) = bnd3 (f_L_refers_L73 400 c w u x l (upd f (3 * s + p) nM) (upd (upd v (2 * (3 * s + p)) (iN 0)) (2 * (3 * s + p) + 1) (iN 0)) (iN (3 * s + p)) (iN (1000 + dec (eP (evS M s) p r))) (iD (3 * s + p))) (fun o10_u59 y_f_u59 y_v_u59 => some (y_f_u59, y_v_u59)) := by
      simp (disch := omega) only [f_L_refers_J62, ↓nM_lit, iN_lit, iN_add, iN_mul, iN_lt, iN_le, iN_eq, iN_c, gd_iN, iN_nM, nM_iN, iN_ltM, nM_lt, nM_le, iN_leM, iN_0M, nM_p1, iN_0s1, decide_true, decide_eq_true_eq, Nat.not_lt_zero, if_true, if_false, eq_grd, eq_lb, eq_b1, eq_b2, eq_b3, eq_b4, eq_b5, er, e1]
      rfl
    have hm : S - S / 2 * 2 = S % 2 := by omega
    by_cases hodd : S % 2 = 1
    · rw [if_pos hodd] at hr
      subst hr
      simp (disch := omega) only [f_L_refers, ↓nM_lit, iN_lit, iN_add, iN_mul, iN_lt, iN_le, iN_eq, iN_c, gd_iN, iN_nM, nM_iN, iN_ltM, nM_lt, nM_le, iN_leM, iN_0M, nM_p1, iN_0s1, decide_true, decide_eq_true_eq, Nat.not_lt_zero, if_true, if_false, wp_some, wp_grd, wp_lb, wp_ite, wp_b1, wp_b2, wp_b3, wp_b4, wp_b5, eq_grd, eq_lb, eq_b1, eq_b2, eq_b3, eq_b4, eq_b5, hi, show 2 * (3 * s + p) < 12 by omega, show 2 * (3 * s + p) + 1 < 12 by omega, el, true_and, h0, iN_div, iN_sub, hm, hodd, ex, hJ]
      exact wp_mono key (fun z hz => hz)
    · rw [if_neg hodd] at hr
      subst hr
      simp (disch := omega) only [f_L_refers, ↓nM_lit, iN_lit, iN_add, iN_mul, iN_lt, iN_le, iN_eq, iN_c, gd_iN, iN_nM, nM_iN, iN_ltM, nM_lt, nM_le, iN_leM, iN_0M, nM_p1, iN_0s1, decide_true, decide_eq_true_eq, Nat.not_lt_zero, if_true, if_false, wp_some, wp_grd, wp_lb, wp_ite, wp_b1, wp_b2, wp_b3, wp_b4, wp_b5, eq_grd, eq_lb, eq_b1, eq_b2, eq_b3, eq_b4, eq_b5, hi, show 2 * (3 * s + p) < 12 by omega, show 2 * (3 * s + p) + 1 < 12 by omega, el, true_and, h0, iN_div, iN_sub, hm, hodd, ex, hJ]
      exact wp_mono key (fun z hz => hz)
/-- the law has looked at both sentences -/
def LK (l f v : Rw) (M : Ob) : Prop := RLs l M (Lk (sr M) M) ∧ ∀ s, s < 2 → ∀ p, p < evn M s → f (3 * s + p) = rnO (rfM (sr M) M s p) ∧ v (2 * (3 * s + p)) = iN (gvM (sr M) M s p % 4) ∧ v (2 * (3 * s + p) + 1) = iN (gvM (sr M) M s p / 4)
theorem L_looks {c w u x l f v t : Rw} {M : Ob} (hT : TSr c t (sr M)) (h : LW0 c w u x M) : wp (f_L_looks c w u x l f v t) (fun z => LK z.1 z.2.1 z.2.2 M) := by
  have a0 : evn M 0 ≤ 3 := (LX_t h.2.2.2 (show 0 < 2 by decide)).1
  rw [f_L_looks]
  simp (disch := omega) only [wp_some, wp_grd, wp_lb, wp_ite, wp_b1, wp_b2, wp_b3, wp_b4, wp_b5, ↓nM_lit, iN_lit, iN_add, iN_mul, iN_lt, iN_le, iN_eq, iN_c, gd_iN, iN_nM, nM_iN, iN_ltM, nM_lt, nM_le, iN_leM, iN_0M, nM_p1, iN_0s1, decide_true, decide_eq_true_eq, Nat.not_lt_zero, if_true, if_false]
  refine wp_mono (L_strikes hT h (show 0 < 2 by decide)) ?_
  rintro l1 ⟨h1, -⟩
  refine wp_mono (L_strikes hT h (show 1 < 2 by decide)) ?_
  rintro l2 ⟨h2, h3⟩
  have hl : RLs l2 M (Lk (sr M) M) := by
    intro t ht
    refine ⟨?_, sI_LB (LW_E h ht) 25 _ (l0_LB _)⟩
    have ht2 : t = 0 ∨ t = 1 := by omega
    rcases ht2 with rfl | rfl
    · intro p hp
      rw [h3 _ (Or.inl (by omega))]
      exact h1 p hp
    · exact h2
  have key : wp (f_L_looks_L27 400 c w u x l2 f v t (iN 0)) (fun z => ∀ s, s < 2 → ∀ p, p < evn M s → 3 * s + p < 6 → z.2.1 (3 * s + p) = rnO (rfM (sr M) M s p) ∧ z.2.2 (2 * (3 * s + p)) = iN (gvM (sr M) M s p % 4) ∧ z.2.2 (2 * (3 * s + p) + 1) = iN (gvM (sr M) M s p / 4)) := by
    refine lp_up (F := fun n (y : Rw × Rw) i => f_L_looks_L27 n c w u x l2 y.1 y.2 t i) (V := fun i y => ∀ s, s < 2 → ∀ p, p < evn M s → 3 * s + p < i → y.1 (3 * s + p) = rnO (rfM (sr M) M s p) ∧ y.2 (2 * (3 * s + p)) = iN (gvM (sr M) M s p % 4) ∧ y.2 (2 * (3 * s + p) + 1) = iN (gvM (sr M) M s p / 4)) (hi := 6) ?_ 400 0 (f, v) (by omega) (by omega) (fun s _ p _ hh => absurd hh (Nat.not_lt_zero _))
    intro n y i hi hv hk
    by_cases he : i = 6
    · subst he
      simp (disch := omega) only [f_L_looks_L27, ↓nM_lit, iN_lit, iN_add, iN_mul, iN_lt, iN_le, iN_eq, iN_c, gd_iN, iN_nM, nM_iN, iN_ltM, nM_lt, nM_le, iN_leM, iN_0M, nM_p1, iN_0s1, decide_true, decide_eq_true_eq, Nat.not_lt_zero, if_true, if_false, wp_some, wp_grd, wp_lb, wp_ite, wp_b1, wp_b2, wp_b3, wp_b4, wp_b5, Nat.le_refl]
      exact hv
    · obtain ⟨t', q, ht, hq3, hTe⟩ : ∃ t q, t < 2 ∧ q < 3 ∧ i = 3 * t + q := ⟨i / 3, i % 3, by omega, by omega, by omega⟩
      have t1 : i / 3 = t' := by omega
      have t2 : i - t' * 3 = q := by omega
      obtain ⟨n3, c8, -, -⟩ := LX_t h.2.2.2 ht
      by_cases hq : q < evn M t'
      · simp (disch := omega) only [f_L_looks_L27, ↓nM_lit, iN_lit, iN_add, iN_mul, iN_lt, iN_le, iN_eq, iN_c, gd_iN, iN_nM, nM_iN, iN_ltM, nM_lt, nM_le, iN_leM, iN_0M, nM_p1, iN_0s1, decide_true, decide_eq_true_eq, Nat.not_lt_zero, if_true, if_false, wp_some, wp_grd, wp_lb, wp_ite, wp_b1, wp_b2, wp_b3, wp_b4, wp_b5, show ¬ (6 ≤ i) by omega, iN_div, iN_sub, t1, t2, show 8 + t' < 12 by omega, c8, show ¬ (evn M t' ≤ q) by omega, true_and]
        have k1 := L_refer (f := y.1) (v := y.2) h hl ht hq
        rw [← hTe] at k1
        refine wp_mono k1 ?_
        intro z hz
        refine hk (z.1, z.2) (by omega) ?_
        intro s hs p hp hlt
        by_cases e : 3 * s + p = i
        · have e1 : s = t' := by have := (LX_t h.2.2.2 hs).1; omega
          have e2 : p = q := by omega
          subst e1; subst e2
          refine ⟨?_, ?_, ?_⟩
          · rw [hz.1 _, if_pos e]; rfl
          · rw [hz.2 _, if_pos (by omega)]; rfl
          · rw [hz.2 _, if_neg (by omega), if_pos (by omega)]; rfl
        · obtain ⟨b1, b2, b3⟩ := hv s hs p hp (by omega)
          refine ⟨?_, ?_, ?_⟩
          · rw [hz.1 _, if_neg e]; exact b1
          · rw [hz.2 _, if_neg (by omega), if_neg (by omega)]; exact b2
          · rw [hz.2 _, if_neg (by omega), if_neg (by omega)]; exact b3
      · simp (disch := omega) only [f_L_looks_L27, ↓nM_lit, iN_lit, iN_add, iN_mul, iN_lt, iN_le, iN_eq, iN_c, gd_iN, iN_nM, nM_iN, iN_ltM, nM_lt, nM_le, iN_leM, iN_0M, nM_p1, iN_0s1, decide_true, decide_eq_true_eq, Nat.not_lt_zero, if_true, if_false, wp_some, wp_grd, wp_lb, wp_ite, wp_b1, wp_b2, wp_b3, wp_b4, wp_b5, show ¬ (6 ≤ i) by omega, iN_div, iN_sub, t1, t2, show 8 + t' < 12 by omega, c8, show evn M t' ≤ q by omega, true_and]
        refine hk y (by omega) ?_
        intro s hs p hp hlt
        exact hv s hs p hp (by
          rcases Nat.lt_or_ge (3 * s + p) i with h9 | h9
          · exact h9
          · have e1 : s = t' := by have := (LX_t h.2.2.2 hs).1; omega
            subst e1; omega)
  refine wp_mono key ?_
  intro z hz
  exact ⟨hl, fun s hs p hp => hz s hs p hp (by have := (LX_t h.2.2.2 hs).1; omega)⟩
