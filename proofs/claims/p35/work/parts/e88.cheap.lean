/-! The cheapest edge of a span; the edge for the whole. -/
theorem wp_eq {R : Type} {o : Option R} {v : R} (h : wp o (fun r => r = v)) : o = some v := by
  obtain ⟨r, e, h⟩ := h; rw [e, h]
def bsI (G : Ob) (c : Int32) (l : List Tr) : Nat → Option Nat
  | 0 => none
  | k + 1 => if c = nM ∨ tC G (l.getD k dum) = c then (match bsI G c l k with
    | none => some k
    | some i => if tK G (l.getD i dum) ≤ tK G (l.getD k dum) then some i else some k) else bsI G c l k
def oS (s : Nat) (o : Option Nat) : Int32 := match o with
  | none => nM
  | some i => iN (8 * s + i)
def oM (M : Ob) (s : Nat) (o : Option Nat) : Int32 := match o with
  | none => nM
  | some i => M 40 (8 * s + i)
theorem bsI_lt {G : Ob} {c : Int32} {l : List Tr} {k i : Nat} (h : bsI G c l k = some i) : i < k ∧ (c = nM ∨ tC G (l.getD i dum) = c) := by
  induction k generalizing i with
  | zero => cases h
  | succ k ih =>
    rw [bsI] at h
    split at h
    · rename_i hc
      cases hb : bsI G c l k with
      | none => rw [hb] at h; cases h; exact ⟨Nat.lt_succ_self k, hc⟩
      | some j =>
        rw [hb] at h
        simp only at h
        split at h
        · cases h; have := ih hb; exact ⟨by omega, this.2⟩
        · cases h; exact ⟨Nat.lt_succ_self k, hc⟩
    · have := ih h; exact ⟨by omega, this.2⟩
theorem X0_cheap {x G : Ob} {ch : Ch} (hx : RCh x G ch) {s : Nat} (hs : s < 36) (h8 : (ch s).length ≤ 8) (c : Int32) :
    f_X0_cheapest x (iN s) c = some (oS s (bsI G c (ch s) (ch s).length)) := by
  obtain ⟨x1, xr⟩ := hx s hs
  have key : wp (f_X0_cheapest_L23 200 x (iN s) c (iN (8 * s)) nM (iN (8 * s))) (fun r => r.1 = oS s (bsI G c (ch s) (ch s).length)) := by
    refine lp_up (F := fun n v j => f_X0_cheapest_L23 n x (iN s) c (iN (8 * s)) v j) (V := fun i v => 8 * s ≤ i ∧ v = oS s (bsI G c (ch s) (i - 8 * s))) (hi := 8 * s + (ch s).length) ?_ 200 (8 * s) nM (by omega) (by omega) ⟨Nat.le_refl _, by rw [Nat.sub_self]; rfl⟩
    rintro n v i hi ⟨h1, hv⟩ hk
    obtain ⟨k, rfl⟩ : ∃ k, i = 8 * s + k := ⟨i - 8 * s, by omega⟩
    rw [show 8 * s + k - 8 * s = k by omega] at hv
    by_cases he : k = (ch s).length
    · subst he
      simp (disch := omega) only [f_X0_cheapest_L23, ↓nM_lit, iN_lit, iN_add, iN_mul, iN_lt, iN_le, iN_eq, iN_c, gd_iN, iN_nM, nM_iN, iN_ltM, nM_lt, nM_le, iN_leM, iN_0M, nM_p1, iN_0s1, decide_true, decide_eq_true_eq, Nat.not_lt_zero, if_true, if_false, wp_some, wp_grd, wp_lb, wp_ite, wp_b1, wp_b2, wp_b3, wp_b4, wp_b5, hs, x1, Nat.le_refl, true_and]
      exact hv
    · have hlt : k < (ch s).length := by omega
      obtain ⟨c2, c3, c4⟩ := RC_2 (xr k hlt)
      have step : ∀ v', v' = oS s (bsI G c (ch s) (k + 1)) → wp (f_X0_cheapest_L23 n x (iN s) c (iN (8 * s)) v' (iN (8 * s + k + 1))) (fun r => r.1 = oS s (bsI G c (ch s) (ch s).length)) := fun v' h => hk v' (by omega) ⟨by omega, by rw [show 8 * s + k + 1 - 8 * s = k + 1 by omega]; exact h⟩
      have up : (c = nM ∨ tC G ((ch s).getD k dum) = c) → wp (f_X0_cheapest_J65 x (iN s) c (iN (8 * s)) v (iN (8 * s + k)) (iN 1)) (fun q => if q.1 = 0 then wp (f_X0_cheapest_L23 n x (iN s) c (iN (8 * s)) q.2.1 q.2.2) (fun r => r.1 = oS s (bsI G c (ch s) (ch s).length)) else q.2.1 = oS s (bsI G c (ch s) (ch s).length)) := by
        intro hc
        cases hb : bsI G c (ch s) k with
        | none =>
          rw [hb] at hv
          subst hv
          simp (disch := omega) only [f_X0_cheapest_J65, oS, ↓nM_lit, iN_lit, iN_add, iN_mul, iN_lt, iN_le, iN_eq, iN_c, gd_iN, iN_nM, nM_iN, iN_ltM, nM_lt, nM_le, iN_leM, iN_0M, nM_p1, iN_0s1, decide_true, decide_eq_true_eq, Nat.not_lt_zero, if_true, if_false, wp_some, wp_grd, wp_lb, wp_ite, wp_b1, wp_b2, wp_b3, wp_b4, wp_b5, eq_grd, eq_lb, eq_b1, eq_b2, eq_b3, eq_b4, eq_b5, show ¬ (1 = 0) by decide]
          refine step _ ?_
          rw [bsI, if_pos hc, hb]; rfl
        | some j =>
          rw [hb] at hv
          subst hv
          have hj := (bsI_lt hb).1
          obtain ⟨d2, d3, d4⟩ := RC_2 (xr j (by omega))
          simp (disch := omega) only [f_X0_cheapest_J65, oS, ↓nM_lit, iN_lit, iN_add, iN_mul, iN_lt, iN_le, iN_eq, iN_c, gd_iN, iN_nM, nM_iN, iN_ltM, nM_lt, nM_le, iN_leM, iN_0M, nM_p1, iN_0s1, decide_true, decide_eq_true_eq, Nat.not_lt_zero, if_true, if_false, wp_some, wp_grd, wp_lb, wp_ite, wp_b1, wp_b2, wp_b3, wp_b4, wp_b5, eq_grd, eq_lb, eq_b1, eq_b2, eq_b3, eq_b4, eq_b5, show ¬ (1 = 0) by decide, show 8 * s + k < 288 by omega, show 8 * s + j < 288 by omega, c4, d4, true_and]
          by_cases hk2 : tK G ((ch s).getD j dum) ≤ tK G ((ch s).getD k dum)
          · rw [if_pos hk2]
            refine step _ ?_
            rw [bsI, if_pos hc, hb]
            simp only [if_pos hk2, oS]
          · rw [if_neg hk2]
            refine step _ ?_
            rw [bsI, if_pos hc, hb]
            simp only [if_neg hk2, oS]
      simp (disch := omega) only [f_X0_cheapest_L23, ↓nM_lit, iN_lit, iN_add, iN_mul, iN_lt, iN_le, iN_eq, iN_c, gd_iN, iN_nM, nM_iN, iN_ltM, nM_lt, nM_le, iN_leM, iN_0M, nM_p1, iN_0s1, decide_true, decide_eq_true_eq, Nat.not_lt_zero, if_true, if_false, wp_some, wp_grd, wp_lb, wp_ite, wp_b1, wp_b2, wp_b3, wp_b4, wp_b5, eq_grd, eq_lb, eq_b1, eq_b2, eq_b3, eq_b4, eq_b5, hs, x1, show ¬ (8 * s + (ch s).length ≤ 8 * s + k) by omega, show ¬ (288 ≤ 8 * s + k) by omega, show 8 * s + k < 288 by omega, c2, f_X0_cheapest_J60, true_and]
      by_cases hm : c = nM
      · rw [if_pos hm]
        exact up (Or.inl hm)
      · rw [if_neg hm]
        by_cases hc : tC G ((ch s).getD k dum) = c
        · rw [if_pos hc]
          exact up (Or.inr hc)
        · rw [if_neg hc]
          simp (disch := omega) only [f_X0_cheapest_J65, ↓nM_lit, iN_lit, iN_add, iN_mul, iN_lt, iN_le, iN_eq, iN_c, gd_iN, iN_nM, nM_iN, iN_ltM, nM_lt, nM_le, iN_leM, iN_0M, nM_p1, iN_0s1, decide_true, decide_eq_true_eq, Nat.not_lt_zero, if_true, if_false, wp_some, wp_grd, wp_lb, wp_ite, wp_b1, wp_b2, wp_b3, wp_b4, wp_b5]
          refine step _ ?_
          rw [bsI, if_neg (by rintro (h | h); exact hm h; exact hc h)]; exact hv
  refine wp_eq ?_
  simp (disch := omega) only [f_X0_cheapest, ↓nM_lit, iN_lit, iN_add, iN_mul, iN_lt, iN_le, iN_eq, iN_c, gd_iN, iN_nM, nM_iN, iN_ltM, nM_lt, nM_le, iN_leM, iN_0M, nM_p1, iN_0s1, decide_true, decide_eq_true_eq, Nat.not_lt_zero, if_true, if_false, wp_some, wp_grd, wp_lb, wp_ite, wp_b1, wp_b2, wp_b3, wp_b4, wp_b5, hs, show s * 8 = 8 * s by omega]
  exact key
/-- the edge for the whole: its place in its row -/
def wI (G : Ob) (ch : Ch) (n : Nat) : Option Nat := if n = 0 then none else bsI G (iN 9) (ch (n - 1)) (ch (n - 1)).length
def wT (ch : Ch) (n i : Nat) : Tr := (ch (n - 1)).getD i dum
def wK (G : Ob) (ch : Ch) (n : Nat) : Int32 := match wI G ch n with
  | none => iN 1000
  | some i => tK G (wT ch n i)
theorem wI_lt {G : Ob} {ch : Ch} {n i : Nat} (h : wI G ch n = some i) : 1 ≤ n ∧ i < (ch (n - 1)).length ∧ tC G (wT ch n i) = iN 9 := by
  unfold wI at h
  split at h
  · cases h
  · obtain ⟨a, b⟩ := bsI_lt h
    refine ⟨by omega, a, ?_⟩
    rcases b with b | b
    · exact absurd b (by decide)
    · exact b
theorem X0_whole {x G : Ob} {ch : Ch} {n : Nat} (hx : RCh x G ch) (hW : WCh G ch) (h0 : x 0 0 = iN n) (hn : n ≤ 6) :
    f_X0_wholeEdge x = some (oS (n - 1) (wI G ch n)) ∧ f_X0_wholePrice x = some (wK G ch n) := by
  have h1 : f_X0_wholeEdge x = some (oS (n - 1) (wI G ch n)) := by
    by_cases h : n = 0
    · subst h
      simp (disch := omega) only [f_X0_wholeEdge, h0, ↓nM_lit, iN_lit, iN_add, iN_mul, iN_lt, iN_le, iN_eq, iN_c, gd_iN, iN_nM, nM_iN, iN_ltM, nM_lt, nM_le, iN_leM, iN_0M, nM_p1, iN_0s1, decide_true, decide_eq_true_eq, Nat.not_lt_zero, if_true, if_false, wI]
      rfl
    · have hc := X0_cheap hx (show n - 1 < 36 by omega) (hW.2 _) (iN 9)
      have hsp : f_X10_spanOf (iN 0) (iN n) = some (iN (n - 1)) := by
        have := spanN (b := 0) (show 1 ≤ n by omega)
        rw [Nat.mul_zero, Nat.zero_add] at this
        exact this
      simp (disch := omega) only [f_X0_wholeEdge, h0, ↓nM_lit, iN_lit, iN_add, iN_mul, iN_lt, iN_le, iN_eq, iN_c, gd_iN, iN_nM, nM_iN, iN_ltM, nM_lt, nM_le, iN_leM, iN_0M, nM_p1, iN_0s1, decide_true, decide_eq_true_eq, Nat.not_lt_zero, if_true, if_false, eq_grd, eq_lb, eq_b1, eq_b2, eq_b3, eq_b4, eq_b5, show ¬ (n = 0) by omega, hsp, hc, wI]
  refine ⟨h1, ?_⟩
  rw [f_X0_wholePrice, h1]
  cases hw : wI G ch n with
  | none => simp only [eq_grd, eq_lb, eq_b1, eq_b2, eq_b3, eq_b4, eq_b5, oS, wK, hw]; rfl
  | some i =>
    obtain ⟨a, b, -⟩ := wI_lt hw
    have h8 := hW.2 (n - 1)
    obtain ⟨-, -, hp⟩ := X0_get ((hx (n - 1) (by omega)).2 i b) (by omega)
    simp (disch := omega) only [eq_grd, eq_lb, eq_b1, eq_b2, eq_b3, eq_b4, eq_b5, oS, wK, hw, ↓nM_lit, iN_lit, iN_add, iN_mul, iN_lt, iN_le, iN_eq, iN_c, gd_iN, iN_nM, nM_iN, iN_ltM, nM_lt, nM_le, iN_leM, iN_0M, nM_p1, iN_0s1, decide_true, decide_eq_true_eq, Nat.not_lt_zero, if_true, if_false, hp, wT]
theorem X11_whole {M G : Ob} {ch : Ch} {n0 n s : Nat} (hx : MCh M G ch n0) (hn0 : n0 ≤ 40000) (hW : WCh G ch) (hs : s < 4) (h9 : M 9 s = iN n) (hn : n ≤ 6) :
    f_X11_whole M (iN s) = some (oM M (n - 1) (wI G ch n)) ∧ f_X11_costNow M (iN s) = some (wK G ch n) := by
  have h1 : f_X11_whole M (iN s) = some (oM M (n - 1) (wI G ch n)) := by
    by_cases h : n = 0
    · subst h
      simp (disch := omega) only [f_X11_whole, h9, ↓nM_lit, iN_lit, iN_add, iN_mul, iN_lt, iN_le, iN_eq, iN_c, gd_iN, iN_nM, nM_iN, iN_ltM, nM_lt, nM_le, iN_leM, iN_0M, nM_p1, iN_0s1, decide_true, decide_eq_true_eq, Nat.not_lt_zero, if_true, if_false, eq_grd, eq_lb, eq_b1, eq_b2, eq_b3, eq_b4, eq_b5, hs, iN_0s1]
      rw [show (200 : Nat) = 199 + 1 from rfl, f_X11_whole_L14]
      rfl
    · have h8 := hW.2 (n - 1)
      obtain ⟨x1, xr⟩ := hx.2 (n - 1) (by omega)
      have key : wp (f_X11_whole_L14 200 M nM (iN (n - 1)) (iN 0)) (fun r => r.1 = oM M (n - 1) (bsI G (iN 9) (ch (n - 1)) (ch (n - 1)).length)) := by
        refine lp_up (F := fun f v j => f_X11_whole_L14 f M v (iN (n - 1)) j) (V := fun k v => v = oM M (n - 1) (bsI G (iN 9) (ch (n - 1)) k)) (hi := (ch (n - 1)).length) ?_ 200 0 nM (by omega) (by omega) rfl
        rintro f v k hk hv hkk
        by_cases he : k = (ch (n - 1)).length
        · subst he
          simp (disch := omega) only [f_X11_whole_L14, ↓nM_lit, iN_lit, iN_add, iN_mul, iN_lt, iN_le, iN_eq, iN_c, gd_iN, iN_nM, nM_iN, iN_ltM, nM_lt, nM_le, iN_leM, iN_0M, nM_p1, iN_0s1, decide_true, decide_eq_true_eq, Nat.not_lt_zero, if_true, if_false, wp_some, wp_grd, wp_lb, wp_ite, wp_b1, wp_b2, wp_b3, wp_b4, wp_b5, show n - 1 < 36 by omega, x1, Nat.le_refl, true_and]
          exact hv
        · have hlt : k < (ch (n - 1)).length := by omega
          obtain ⟨d, hd, ed, hmd⟩ := xr k hlt
          obtain ⟨c2, c3, c4⟩ := MC_2 hmd
          simp (disch := omega) only [f_X11_whole_L14, ↓nM_lit, iN_lit, iN_add, iN_mul, iN_lt, iN_le, iN_eq, iN_c, gd_iN, iN_nM, nM_iN, iN_ltM, nM_lt, nM_le, iN_leM, iN_0M, nM_p1, iN_0s1, decide_true, decide_eq_true_eq, Nat.not_lt_zero, if_true, if_false, wp_some, wp_grd, wp_lb, wp_ite, wp_b1, wp_b2, wp_b3, wp_b4, wp_b5, eq_grd, eq_lb, eq_b1, eq_b2, eq_b3, eq_b4, eq_b5, show n - 1 < 36 by omega, x1, show ¬ ((ch (n - 1)).length ≤ k) by omega, show 8 * (n - 1) + k < 288 by omega, ed, show d < 40000 by omega, c2, true_and]
          by_cases hc : tC G ((ch (n - 1)).getD k dum) = iN 9
          · rw [if_pos hc]
            cases hb : bsI G (iN 9) (ch (n - 1)) k with
            | none =>
              rw [hb] at hv
              rw [hv]
              simp only [oM, if_true]
              refine hkk _ (by omega) ?_
              rw [bsI, if_pos (Or.inr hc), hb]; exact ed.symm
            | some j =>
              rw [hb] at hv
              have hj := (bsI_lt hb).1
              obtain ⟨q, hq, eq, hmq⟩ := xr j (by omega)
              obtain ⟨e2, e3, e4⟩ := MC_2 hmq
              have hv2 : v = iN q := by rw [hv]; exact eq
              rw [hv2]
              simp (disch := omega) only [↓nM_lit, iN_lit, iN_add, iN_mul, iN_lt, iN_le, iN_eq, iN_c, gd_iN, iN_nM, nM_iN, iN_ltM, nM_lt, nM_le, iN_leM, iN_0M, nM_p1, iN_0s1, decide_true, decide_eq_true_eq, Nat.not_lt_zero, if_true, if_false, show q < 40000 by omega, c4, e4, true_and]
              by_cases hk2 : tK G ((ch (n - 1)).getD j dum) ≤ tK G ((ch (n - 1)).getD k dum)
              · rw [if_pos hk2]
                refine hkk _ (by omega) ?_
                rw [bsI, if_pos (Or.inr hc), hb]
                simp only [if_pos hk2, oM]; exact eq.symm
              · rw [if_neg hk2]
                refine hkk _ (by omega) ?_
                rw [bsI, if_pos (Or.inr hc), hb]
                simp only [if_neg hk2, oM]; exact ed.symm
          · rw [if_neg hc]
            refine hkk _ (by omega) ?_
            rw [bsI, if_neg (by rintro (h | h); exact absurd h (by decide); exact hc h)]; exact hv
      refine wp_eq ?_
      simp (disch := omega) only [f_X11_whole, h9, ↓nM_lit, iN_lit, iN_add, iN_mul, iN_lt, iN_le, iN_eq, iN_c, gd_iN, iN_nM, nM_iN, iN_ltM, nM_lt, nM_le, iN_leM, iN_0M, nM_p1, iN_0s1, decide_true, decide_eq_true_eq, Nat.not_lt_zero, if_true, if_false, wp_some, wp_grd, wp_lb, wp_ite, wp_b1, wp_b2, wp_b3, wp_b4, wp_b5, hs, iN_s1 (show 0 < n by omega), true_and, wI, h]
      exact key
  refine ⟨h1, ?_⟩
  rw [f_X11_costNow, h1]
  cases hw : wI G ch n with
  | none => simp only [eq_grd, eq_lb, eq_b1, eq_b2, eq_b3, eq_b4, eq_b5, oM, wK, hw]; rfl
  | some i =>
    obtain ⟨a, b, -⟩ := wI_lt hw
    obtain ⟨d, hd, ed, hmd⟩ := (hx.2 (n - 1) (by omega)).2 i b
    obtain ⟨c2, c3, c4⟩ := MC_2 hmd
    simp (disch := omega) only [eq_grd, eq_lb, eq_b1, eq_b2, eq_b3, eq_b4, eq_b5, oM, wK, hw, ↓nM_lit, iN_lit, iN_add, iN_mul, iN_lt, iN_le, iN_eq, iN_c, gd_iN, iN_nM, nM_iN, iN_ltM, nM_lt, nM_le, iN_leM, iN_0M, nM_p1, iN_0s1, decide_true, decide_eq_true_eq, Nat.not_lt_zero, if_true, if_false, ed, show d < 40000 by omega, c4, wT]
