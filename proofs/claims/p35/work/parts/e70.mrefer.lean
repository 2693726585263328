/-! The reference refers. -/
theorem nG_none {ok : Nat → Bool} (d : Nat) : ∀ r, (∀ k, r ≤ k → k < r + d → ok k = false) → nG ok d r = none := by
  induction d with
  | zero => intro r _; rfl
  | succ d ih =>
    intro r h
    rw [nG, h r (Nat.le_refl _) (by omega), ih (r + 1) (fun k h1 h2 => h k (by omega) (by omega))]
    rfl
theorem agN_pk {x y z f : Nat} (hx : x ≤ 3) (hy : y ≤ 3) (hz : z ≤ 3) : agN (pk3 x y z) f = ((decide (x = f % 4) || decide (x = 0) || decide (f % 4 = 0)) && (decide (y = f / 4 % 4) || decide (y = 0) || decide (f / 4 % 4 = 0))) := by
  have e1 : pk3 x y z % 4 = x := by unfold pk3; omega
  have e2 : pk3 x y z / 4 % 4 = y := by unfold pk3; omega
  rw [agN, e1, e2]
theorem ite3 {c1 c2 c3 : Prop} [Decidable c1] [Decidable c2] [Decidable c3] {T Y : Prop} (h : c1 ∨ c2 ∨ c3) (hT : T) : if c1 then T else if c2 then T else if c3 then T else Y := by
  by_cases h1 : c1
  · rw [if_pos h1]; exact hT
  · rw [if_neg h1]
    by_cases h2 : c2
    · rw [if_pos h2]; exact hT
    · rw [if_neg h2, if_pos ((h.resolve_left h1).resolve_left h2)]; exact hT
def evn (M : Ob) (s : Nat) : Nat := nn (M 9 s)
def evw (M : Ob) (s p : Nat) : Nat := nn (M 10 (6 * s + p))
theorem evS_e (M : Ob) (s : Nat) : evS M s = evW M (evn M s) (evw M s) := rfl
theorem evS_L (M : Ob) (s : Nat) : eL (evS M s) = evn M s := rfl
/-- all sentences to s struck -/
def MS (M0 M : Ob) (s : Nat) (Ls : Nat → Nat → Nat) : Prop := ∀ t, t ≤ s → RM M0 M t (evn M0 t) (evw M0 t) (Ls t) ∧ LB (evS M0 t) (Ls t)
theorem X11_noun {M0 M : Ob} {s : Nat} {L : Nat → Nat} (h : RM M0 M s (evn M0 s) (evw M0 s) L) (hL : LB (evS M0 s) L) {p f : Nat} (hp : p < evn M0 s) (hf : f < 64) :
    f_X11_nounAt M (iN (6 * s + p)) (iN (f % 4)) (iN (f / 4 % 4)) = some (match nG (nOk (evS M0 s) L f p) 4 0 with | none => nM | some r => iN r) := by
  have hE : EvB (evS M0 s) := RM_E h
  have hp' : p < eL (evS M0 s) := hp
  have h16 := LB16 hE hL hp'
  have hc4 := (hE.2 p hp').1
  obtain ⟨e10, ec, et, ef⟩ := RM_at h hp
  rw [← evS_e] at ec et
  have hn := h.2.2.1
  have hs := h.2.1
  have hlx := h.1
  have hw40 := Nat.lt_of_lt_of_le (h.2.2.2.2.1 p hp).1 (WLex_nw h.1)
  have e11 := h.2.2.2.2.2.2 p hp
  have key : ∀ (d n r : Nat), r + d = 4 → r ≤ eC (evS M0 s) p → d < n → wp (f_X11_nounAt_L3 n M (iN (6 * s + p)) (iN (f % 4)) (iN (f / 4 % 4)) (iN r)) (fun q => match nG (nOk (evS M0 s) L f p) d r with | none => q.1 = 1 | some k => q.1 = 2 ∧ q.2 = iN k) := by
    intro d
    induction d with
    | zero =>
      intro n r hr hrc hn
      obtain ⟨n, rfl⟩ : ∃ m, n = m + 1 := ⟨n - 1, by omega⟩
      simp (disch := omega) only [f_X11_nounAt_L3, ↓nM_lit, iN_lit, iN_add, iN_mul, iN_lt, iN_le, iN_eq, iN_c, gd_iN, iN_nM, nM_iN, iN_ltM, nM_lt, nM_le, iN_leM, iN_0M, nM_p1, iN_0s1, decide_true, decide_eq_true_eq, Nat.not_lt_zero, if_true, if_false, wp_some, wp_grd, wp_lb, wp_ite, wp_b1, wp_b2, wp_b3, wp_b4, wp_b5, eq_grd, eq_lb, eq_b1, eq_b2, eq_b3, eq_b4, eq_b5, show 6 * s + p < 24 by omega, e10, ec, show eC (evS M0 s) p ≤ r by omega, nG, true_and]
    | succ d ih =>
      intro n r hr hrc hn
      obtain ⟨n, rfl⟩ : ∃ m, n = m + 1 := ⟨n - 1, by omega⟩
      by_cases hlt : r < eC (evS M0 s) p
      · have ih' := ih n (r + 1) (by omega) (by omega) (by omega)
        have et' := et r hlt
        have ef0 := ef r 0 (by omega) (by omega)
        have ef1 := ef r 1 (by omega) (by omega)
        have hf0 : feM M0 (evw M0 s p) r 0 ≤ 3 := feM_le hlx hw40 (by omega) (by omega)
        have hf1 : feM M0 (evw M0 s p) r 1 ≤ 3 := feM_le hlx hw40 (by omega) (by omega)
        have hf2 : feM M0 (evw M0 s p) r 2 ≤ 3 := feM_le hlx hw40 (by omega) (by omega)
        have hlt2 : r < cnM M0 (evw M0 s p) := by rw [evS_e, evW_C hp] at hlt; exact hlt
        have eP' : eP (evS M0 s) p r = pk3 (feM M0 (evw M0 s p) r 0) (feM M0 (evw M0 s p) r 1) (feM M0 (evw M0 s p) r 2) := by rw [evS_e, evW_P hp hlt2]; rfl
        have eok : nOk (evS M0 s) L f p r = ((L p).testBit r && decide (eT (evS M0 s) p r = iN 0) && ((decide (feM M0 (evw M0 s p) r 0 = f % 4) || decide (feM M0 (evw M0 s p) r 0 = 0) || decide (f % 4 = 0)) && (decide (feM M0 (evw M0 s p) r 1 = f / 4 % 4) || decide (feM M0 (evw M0 s p) r 1 = 0) || decide (f / 4 % 4 = 0)))) := by
          rw [nOk, eP', agN_pk hf0 hf1 hf2]
        simp (maxSteps := 4000000) (disch := omega) only [f_X11_nounAt_L3, ↓nM_lit, iN_lit, iN_add, iN_mul, iN_lt, iN_le, iN_eq, iN_c, gd_iN, iN_nM, nM_iN, iN_ltM, nM_lt, nM_le, iN_leM, iN_0M, nM_p1, iN_0s1, decide_true, decide_eq_true_eq, Nat.not_lt_zero, if_true, if_false, wp_some, wp_grd, wp_lb, wp_ite, wp_b1, wp_b2, wp_b3, wp_b4, wp_b5, eq_grd, eq_lb, eq_b1, eq_b2, eq_b3, eq_b4, eq_b5, show 6 * s + p < 24 by omega, e10, ec, show ¬ (eC (evS M0 s) p ≤ r) by omega, e11, bit_1 h16 (show r < 4 by omega), et', ef0, ef1, nG, true_and]
        by_cases hb : (L p).testBit r = true
        · by_cases hc : eT (evS M0 s) p r = iN 0
          · simp only [hb, hc, if_true]
            by_cases ha : feM M0 (evw M0 s p) r 0 = f % 4 ∨ feM M0 (evw M0 s p) r 0 = 0 ∨ f % 4 = 0
            · by_cases hd : feM M0 (evw M0 s p) r 1 = f / 4 % 4 ∨ feM M0 (evw M0 s p) r 1 = 0 ∨ f / 4 % 4 = 0
              · have ok : nOk (evS M0 s) L f p r = true := by
                  rw [eok, hb, hc]
                  simp only [Bool.and_eq_true, Bool.or_eq_true, decide_eq_true_eq, true_and, decide_true]
                  exact ⟨by rcases ha with h | h | h <;> simp [h], by rcases hd with h | h | h <;> simp [h]⟩
                have j93 : f_X11_nounAt_J93 M (iN (6 * s + p)) (iN (f % 4)) (iN (f / 4 % 4)) (iN r) (iN (feM M0 (evw M0 s p) r 1)) = some (2, iN r) := by
                  simp (disch := omega) only [f_X11_nounAt_J93, ↓nM_lit, iN_lit, iN_add, iN_mul, iN_lt, iN_le, iN_eq, iN_c, gd_iN, iN_nM, nM_iN, iN_ltM, nM_lt, nM_le, iN_leM, iN_0M, nM_p1, iN_0s1, decide_true, decide_eq_true_eq, Nat.not_lt_zero, if_true, if_false, eq_grd, eq_lb, eq_b1, eq_b2, eq_b3, eq_b4, eq_b5]
                  rcases hd with h | h | h <;> simp only [h, if_true, ite_self]
                simp only [ok, if_true, j93, show ¬ (2 = 0) by decide, if_false, wp_some]
                exact ite3 ha ⟨trivial, trivial⟩
              · have ok : nOk (evS M0 s) L f p r = false := by
                  rw [eok, hb, hc]
                  simp only [not_or] at hd
                  simp [hd]
                have j93 : f_X11_nounAt_J93 M (iN (6 * s + p)) (iN (f % 4)) (iN (f / 4 % 4)) (iN r) (iN (feM M0 (evw M0 s p) r 1)) = some (0, iN (r + 1)) := by
                  simp only [not_or] at hd
                  simp (disch := omega) only [f_X11_nounAt_J93, ↓nM_lit, iN_lit, iN_add, iN_mul, iN_lt, iN_le, iN_eq, iN_c, gd_iN, iN_nM, nM_iN, iN_ltM, nM_lt, nM_le, iN_leM, iN_0M, nM_p1, iN_0s1, decide_true, decide_eq_true_eq, Nat.not_lt_zero, if_true, if_false, eq_grd, eq_lb, eq_b1, eq_b2, eq_b3, eq_b4, eq_b5, hd]
                simp only [ok, Bool.false_eq_true, if_false, j93, if_true, wp_some]
                exact ite3 ha ih'
            · have ok : nOk (evS M0 s) L f p r = false := by
                rw [eok, hb, hc]
                simp only [not_or] at ha
                simp [ha]
              simp only [not_or] at ha
              simp only [ha, ok, Bool.false_eq_true, if_false]
              exact ih'
          · have ok : nOk (evS M0 s) L f p r = false := by rw [eok]; simp [hc]
            simp only [hb, hc, ok, if_true, Bool.false_eq_true, if_false]; exact ih'
        · have hb' : (L p).testBit r = false := by cases h : (L p).testBit r; rfl; exact absurd h hb
          have ok : nOk (evS M0 s) L f p r = false := by rw [eok, hb']; rfl
          simp only [hb', ok, Bool.false_eq_true, if_false]; exact ih'
      · rw [nG_none]
        · simp (disch := omega) only [f_X11_nounAt_L3, ↓nM_lit, iN_lit, iN_add, iN_mul, iN_lt, iN_le, iN_eq, iN_c, gd_iN, iN_nM, nM_iN, iN_ltM, nM_lt, nM_le, iN_leM, iN_0M, nM_p1, iN_0s1, decide_true, decide_eq_true_eq, Nat.not_lt_zero, if_true, if_false, wp_some, wp_grd, wp_lb, wp_ite, wp_b1, wp_b2, wp_b3, wp_b4, wp_b5, eq_grd, eq_lb, eq_b1, eq_b2, eq_b3, eq_b4, eq_b5, show 6 * s + p < 24 by omega, e10, ec, show eC (evS M0 s) p ≤ r by omega, true_and]
        · intro k h1 h2
          have : (L p).testBit k = false := by
            cases h : (L p).testBit k
            · rfl
            · have := bit_cn (hL p hp') h; omega
          rw [nOk, this]; rfl
  obtain ⟨q, e, hq⟩ := key 4 200 0 (by omega) (by omega) (by omega)
  simp only [f_X11_nounAt, iN_0, e, eq_grd, eq_lb, eq_b1, eq_b2, eq_b3, eq_b4, eq_b5]
  cases hg : nG (nOk (evS M0 s) L f p) 4 0 with
  | none => rw [hg] at hq; simp only [hq, if_true]; rfl
  | some k => rw [hg] at hq; simp only [hq.1, show ¬ (2 = 1) by decide, if_false, hq.2]
theorem X11_down {M0 M : Ob} {s t : Nat} {L : Nat → Nat} (h : RM M0 M t (evn M0 t) (evw M0 t) L) (hL : LB (evS M0 t) L) {f : Nat} (hf : f < 64) (v1 v2 v3 : Int32) (n d : Nat) (hd : d ≤ evn M0 t) (hn : d < n) :
    wp (f_X11_refer_L130 n M v1 v2 v3 (iN (f % 4)) (iN (f / 4 % 4)) (iN t) (iD d)) (fun q => match fD (evS M0 t) L f d with | none => q.1 = 1 | some k => q.1 = 2 ∧ q.2.1 = iN k.1 ∧ k.1 < evn M0 t ∧ ∃ r, q.2.2 = iN r ∧ r < eC (evS M0 t) k.1 ∧ k.2 = eP (evS M0 t) k.1 r % 16) := by
  have hn6 := h.2.2.1
  have hs := h.2.1
  have hE : EvB (evS M0 t) := RM_E h
  refine lp_dn (F := fun n (_ : Unit) i => f_X11_refer_L130 n M v1 v2 v3 (iN (f % 4)) (iN (f / 4 % 4)) (iN t) i) (V := fun i _ => i ≤ evn M0 t ∧ fD (evS M0 t) L f d = fD (evS M0 t) L f i) ?_ ?_ n d () hn ⟨hd, rfl⟩
  · intro n _ ⟨_, hv⟩
    rw [hv]
    simp (disch := omega) only [f_X11_refer_L130, wp_some, wp_grd, wp_lb, wp_ite, wp_b1, wp_b2, wp_b3, wp_b4, wp_b5, fD, show nM < 0 ↔ True by decide, if_true]
  · intro n _ i ⟨hi, hv⟩ hk
    have hp : i < evn M0 t := by omega
    rw [fD] at hv
    simp (disch := omega) only [f_X11_refer_L130, ↓nM_lit, iN_lit, iN_add, iN_mul, iN_lt, iN_le, iN_eq, iN_c, gd_iN, iN_nM, nM_iN, iN_ltM, nM_lt, nM_le, iN_leM, iN_0M, nM_p1, iN_0s1, decide_true, decide_eq_true_eq, Nat.not_lt_zero, if_true, if_false, wp_some, wp_grd, wp_lb, wp_ite, wp_b1, wp_b2, wp_b3, wp_b4, wp_b5, eq_grd, eq_lb, eq_b1, eq_b2, eq_b3, eq_b4, eq_b5, X11_noun h hL hp hf]
    cases hg : nG (nOk (evS M0 t) L f i) 4 0 with
    | none =>
      rw [hg] at hv
      simp only [if_true, iD_pM]
      exact hk () ⟨by omega, hv⟩
    | some k =>
      rw [hg] at hv
      obtain ⟨q4, -, hk4⟩ := nG_ok 4 0 k hg
      have hbit : (L i).testBit k = true := by
        cases h : (L i).testBit k
        · rw [nOk, h] at q4; cases q4
        · rfl
      have hcn := bit_cn (hL i hp) hbit
      rw [hv]
      simp (disch := omega) only [↓nM_lit, iN_lit, iN_add, iN_mul, iN_lt, iN_le, iN_eq, iN_c, gd_iN, iN_nM, nM_iN, iN_ltM, nM_lt, nM_le, iN_leM, iN_0M, nM_p1, iN_0s1, decide_true, decide_eq_true_eq, Nat.not_lt_zero, if_true, if_false]
      rw [wp_some]
      exact ⟨rfl, rfl, hp, k, rfl, hcn, rfl⟩
theorem lt_s2 {s t : Nat} (hs : s < 4) (ht : t < 4) : (iN t < iN s - iN 2) ↔ t + 2 < s := by
  have := b4_s (P := fun s => b4 (fun t => decide ((iN t < iN s - iN 2) ↔ t + 2 < s))) (by decide +kernel) hs
  exact of_decide_eq_true (b4_s this ht)
theorem X11_ahead {M0 M : Ob} {s : Nat} {Ls : Nat → Nat → Nat} (hM : MS M0 M s Ls) (hs : s < 4) {f : Nat} (hf : f < 64) (v2 v3 : Int32) : ∀ (n c t : Nat), t + 2 = s + c → t ≤ s → (t < s ∨ c = 2) → c < n → t ≤ s →
    wp (f_X11_refer_L94 n M (iN s) v2 v3 (iN (f % 4)) (iN (f / 4 % 4)) (iD t)) (fun q => match fA (evS M0) Ls f c t with | none => q.1 = 1 | some k => q.1 = 2 ∧ q.2.1 = iN k.1 ∧ q.2.2.1 = iN k.2.1 ∧ k.1 ≤ s ∧ k.2.1 < evn M0 k.1 ∧ ∃ r, q.2.2.2 = iN r ∧ r < eC (evS M0 k.1) k.2.1 ∧ k.2.2 = eP (evS M0 k.1) k.2.1 r % 16) := by
  intro n c
  induction c generalizing n with
  | zero =>
    intro t ht hts _ hn _
    obtain ⟨n, rfl⟩ : ∃ m, n = m + 1 := ⟨n - 1, by omega⟩
    cases t with
    | zero =>
      rw [iD_0]
      simp (disch := omega) only [f_X11_refer_L94, wp_some, wp_grd, wp_lb, wp_ite, wp_b1, wp_b2, wp_b3, wp_b4, wp_b5, fA, show nM < 0 ↔ True by decide, if_true]
    | succ t =>
      rw [iD_s]
      simp (disch := omega) only [f_X11_refer_L94, wp_some, wp_grd, wp_lb, wp_ite, wp_b1, wp_b2, wp_b3, wp_b4, wp_b5, ↓nM_lit, iN_lit, iN_add, iN_mul, iN_lt, iN_le, iN_eq, iN_c, gd_iN, iN_nM, nM_iN, iN_ltM, nM_lt, nM_le, iN_leM, iN_0M, nM_p1, iN_0s1, decide_true, decide_eq_true_eq, Nat.not_lt_zero, if_true, if_false, fA, lt_s2 hs (show t < 4 by omega), show t + 2 < s by omega]
  | succ c ih =>
    intro t ht hts hc hn _
    obtain ⟨n, rfl⟩ : ∃ m, n = m + 1 := ⟨n - 1, by omega⟩
    cases t with
    | zero =>
      rw [iD_0]
      simp (disch := omega) only [f_X11_refer_L94, wp_some, wp_grd, wp_lb, wp_ite, wp_b1, wp_b2, wp_b3, wp_b4, wp_b5, fA, show nM < 0 ↔ True by decide, if_true]
    | succ t =>
      obtain ⟨hR, hL⟩ := hM t (by omega)
      have ih' := ih n t (by omega) (by omega) (Or.inl (by omega)) (by omega) (by omega)
      have e9 : M 9 t = iN (evn M0 t) := by rw [hR.2.2.2.2.2.1 9 (by decide) (by decide) (by decide) (by decide)]; exact hR.2.2.2.1
      have hn6 := hR.2.2.1
      rw [iD_s]
      have eD : iN (evn M0 t) - iN 1 = iD (evn M0 t) := rfl
      simp (disch := omega) only [f_X11_refer_L94, f_X11_refer_J128, wp_some, wp_grd, wp_lb, wp_ite, wp_b1, wp_b2, wp_b3, wp_b4, wp_b5, ↓nM_lit, iN_lit, iN_add, iN_mul, iN_lt, iN_le, iN_eq, iN_c, gd_iN, iN_nM, nM_iN, iN_ltM, nM_lt, nM_le, iN_leM, iN_0M, nM_p1, iN_0s1, decide_true, decide_eq_true_eq, Nat.not_lt_zero, if_true, if_false, fA, lt_s2 hs (show t < 4 by omega), show ¬ (t + 2 < s) by omega, show ¬ (t = s) by omega, show t < 4 by omega, e9, eD, true_and]
      refine wp_mono (X11_down (s := s) hR hL hf (iN s) v2 v3 200 (evn M0 t) (Nat.le_refl _) (by omega)) ?_
      intro q hq
      rw [evS_L]
      cases hg : fD (evS M0 t) (Ls t) f (evn M0 t) with
      | none =>
        rw [hg] at hq
        simp only [hq, if_true, wp_some, wp_grd, wp_lb, wp_ite, wp_b1, wp_b2, wp_b3, wp_b4, wp_b5, iD_pM]
        exact ih'
      | some k =>
        rw [hg] at hq
        obtain ⟨q1, q2, q3, r, q4, q5, q6⟩ := hq
        simp only [q1, show ¬ (2 = 1) by decide, show ¬ (2 = 0) by decide, if_false, wp_some, wp_grd, wp_lb, wp_ite, wp_b1, wp_b2, wp_b3, wp_b4, wp_b5]
        exact ⟨trivial, q2, by omega, q3, r, q4, q5, q6⟩
