def pu2 (M : Ob) (s : Nat) (o1 o2 : Mo) : Ob := puM (puM M s o1) s o2
def prc (M : Ob) (s : Nat) (o1 o2 : Mo) : Int32 := wK (gr M) (cM (pu2 M s o1 o2) s) (evn M s)
theorem pu2_all {M : Ob} {s : Nat} {o1 o2 : Mo} (hM : WM M) (hs : s < 4) (h1 : okm M s o1) (h2 : okm M s o2) : WM (pu2 M s o1 o2) ∧ evn (pu2 M s o1 o2) s = evn M s ∧ gr (pu2 M s o1 o2) = gr M ∧ sr (pu2 M s o1 o2) = sr M ∧ evw (pu2 M s o1 o2) s = puW (puW (evw M s) o1) o2 ∧ (∀ k, k ≠ 10 → pu2 M s o1 o2 k = M k) ∧ ∀ t, t < 4 → t ≠ s → evS (pu2 M s o1 o2) t = evS M t := by
  obtain ⟨a1, a2, a3⟩ := puM_WM hM hs h1
  have h2' : okm (puM M s o1) s o2 := by rw [a2]; exact h2
  obtain ⟨b1, b2, b3⟩ := puM_WM a1 hs h2'
  have hne : ∀ k, k ≠ 10 → pu2 M s o1 o2 k = M k := fun k hk => by unfold pu2; rw [puM_ne hk, puM_ne hk]
  have h6 := (WTxt_at hM.2.1 hs).1
  refine ⟨b1, b3.trans a3, puM_gr.1.trans puM_gr.1, puM_gr.2.trans puM_gr.2, ?_, hne, ?_⟩
  · funext p
    unfold pu2
    rw [puM_evw a1.1 h2' p]
    have : evw (puM M s o1) s = puW (evw M s) o1 := funext (fun p => puM_evw hM.1 h1 p)
    rw [this]
  · intro t ht hts
    rw [evS_e, evS_e]
    have en : evn (pu2 M s o1 o2) t = evn M t := by unfold evn; rw [hne 9 (by decide)]
    have h6t := (WTxt_at hM.2.1 ht).1
    rw [en, evW_wd (wd := evw M t) (fun p hp => by
      unfold pu2
      rw [puM_oth (by rw [a3]; exact h6) h2' hts (by omega), puM_oth h6 h1 hts (by omega)])]
    exact evW_cg (fun k hk => hne k (by omega)) _ _
theorem X10_price {j : Nat} {K : Nat → Ob} {M : Ob} {s : Nat} (hI : RI j K M) (hS : KSS K s) (hs : s < 4) (o1 o2 : Mo) (h1 : okm M s o1) (h2 : okm M s o2) :
    wp (f_X10_priceWith K (iN s) (moI o1) (moI o2)) (fun r => r.1 = 0 ∧ r.2.1 = prc M s o1 o2 ∧ (∀ i, i ≠ 0 → i ≠ 3 → i ≠ 4 → i ≠ 13 → i ≠ 18 → r.2.2 i = K i) ∧ (∀ k, k ≠ 12 → k ≠ 13 → k ≠ 14 → r.2.2 3 k = K 3 k) ∧ ∀ k, k ≠ 10 → r.2.2 0 k = K 0 k) := by
  obtain ⟨n1, n2, n3, n4, n5, n6, n7⟩ := pu2_all hI.1 hs h1 h2
  unfold prc
  generalize pu2 M s o1 o2 = N at *
  have hn40 := WLex_nw hI.1.1
  have hk := hI.2.1
  have h6 := (WTxt_at hI.1.2.1 hs).1
  rw [f_X10_priceWith, X10_sAt K hs]
  simp only [wp_some, wp_grd, wp_lb, wp_ite, wp_b1, wp_b2, wp_b3, wp_b4, wp_b5, eq_grd, eq_lb, eq_b1, eq_b2, eq_b3, eq_b4, eq_b5, if_true, hs, decide_true, true_and]
  refine wp_mono (X6_copy (hI.2.2.1 s hs).1) ?_
  intro y1 w1
  simp only [vu_eq, vu_vu]
  refine wp_mono (X10_put w1 o1 (fun p w e => ⟨(h1 p w e).1, by have := (h1 p w e).2; omega⟩)) ?_
  intro y2 w2
  refine wp_mono (X10_put w2 o2 (fun p w e => ⟨(h2 p w e).1, by have := (h2 p w e).2; omega⟩)) ?_
  intro y3 w3
  rw [vu_ne (show 2 ≠ 9 + 4 by decide), vu_ne (show 1 ≠ 9 + 4 by decide)]
  rw [← n5] at w3
  have hE := (WM_E n1 hs).1
  have hL := (WM_E n1 hs).2
  have hw : ∀ p, p < evn M s → evw N s p < nn (N 0 0) := fun p hp => ((WTxt_at n1.2.1 hs).2.2 p (by rw [n2]; exact hp)).1
  refine wp_mono (X7_strike hk.2.1 (RX3_cg (M' := N) (fun k hk => n6 k (by omega)) hk.1) n1.1 w3 hw) ?_
  rintro y4 ⟨t1, -, -, t4⟩
  have eS : evW N (evn M s) (evw N s) = evS N s := by rw [evS_e, n2]
  have eL' : stk (sr M) (evW N (evn M s) (evw N s)) = Lk (sr N) N s := by unfold Lk; rw [n4, eS]
  rw [eL', eS] at t1
  have hKS : KS (va_up K (9 + 4) y4) (evS N) (Lk (sr N) N) (s - 2) s := by
    intro t ha hb
    have et : evS N t = evS M t := n7 t (by omega) (by omega)
    have el : Lk (sr N) N t = Lk (sr M) M t := by unfold Lk; rw [n4, et]
    rw [vu_ne (by omega), et, el]
    exact ⟨RS_L (hI.2.2.1 t (by omega)) (hS t ha hb), (WM_E hI.1 (by omega)).1, (WM_E hI.1 (by omega)).2⟩
  refine wp_mono (X10_given (q2 := 4) hs hKS (by rw [vu_eq]; exact t1) hE hL) ?_
  rintro ⟨b0, K2⟩ ⟨b1, b2, b3, b4⟩
  simp only at b1 b2 b3 b4 ⊢
  rw [if_pos b1]
  have b4' : ∀ p, p < 6 → K2 0 10 p = iN (gvM (sr N) N s p) := fun p hp => by rw [b4 p hp, gvM_e]
  have e13 : K2 (9 + 4) = y4 := by rw [b2 (9 + 4) (by decide) (by decide), vu_eq]
  have e3 : K2 3 = K 3 := by rw [b2 3 (by decide) (by decide), vu_ne (by decide)]
  refine wp_mono (X6_giveAll _ _) ?_
  rintro y5 ⟨c1, c2⟩
  rw [e13] at c1
  rw [vu_ne (show 3 ≠ 9 + 4 by decide), e3, vu_ne (show 14 + 4 ≠ 9 + 4 by decide)]
  have hy : RL6 y5 (evS N s) (Lk (sr N) N s) := by
    unfold RL6 RA6
    rw [c1 0 (by decide), c1 2 (by decide), c1 4 (by decide), c1 5 (by decide)]
    exact t1
  have h6g : RG6 y5 (evS N s) (Lk (sr N) N s) (gvM (sr N) N s) := by
    refine ⟨hy, hE, hL, ?_⟩
    intro p hp
    have h6 := hE.1
    exact ⟨by rw [c2 p (by omega)]; exact b4' p (by omega), gvM_lt _ _ _ _⟩
  refine wp_mono (X4_read hI.1.2.2.2 hk.2.2.1 hk.2.2.2.1 h6g) ?_
  rintro ⟨r1, r2, r3⟩ ⟨d1, d2, d3, d4, d5⟩
  simp only at d1 d2 d3 d4 d5 ⊢
  have hc : cht (gr M) (evS N s) (Lk (sr N) N s) (gvM (sr N) N s) = cM N s := by
    show _ = chM (gr N) (sr N) N s
    rw [chM, n3]
  rw [hc] at d3 d4
  have hp := (X0_whole d3 d4 d5 hE.1).2
  rw [evS_L, n2] at hp
  rw [hp]
  simp only [wp_some, wp_grd, wp_lb, wp_ite, wp_b1, wp_b2, wp_b3, wp_b4, wp_b5, true_and]
  have look : ∀ i, i ≠ 3 → i ≠ 13 → i ≠ 18 → va_up (va_up (va_up (va_up K2 (9 + 4) y5) 3 r1) (9 + 4) r2) (14 + 4) r3 i = K2 i := fun i i1 i2 i3 => by
    rw [vu_ne (show i ≠ 14 + 4 from i3), vu_ne (show i ≠ 9 + 4 from i2), vu_ne i1, vu_ne (show i ≠ 9 + 4 from i2)]
  refine ⟨?_, ?_, ?_⟩
  · intro i i0 i1 i2 i3 i4
    rw [look i i1 i3 i4, b2 i i2 i0, vu_ne (show i ≠ 9 + 4 from i3)]
  · intro k k1 k2 k3
    rw [vu_ne (show 3 ≠ 14 + 4 by decide), vu_ne (show 3 ≠ 9 + 4 by decide), vu_eq]
    exact d1 k k1 k2 k3
  · intro k hk
    rw [look 0 (by decide) (by decide) (by decide), b3 k hk, vu_ne (show 0 ≠ 9 + 4 by decide)]
