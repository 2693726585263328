/-! Prices of mends, by the class. -/
def KSS (K : Nat → Ob) (s : Nat) : Prop := ∀ t, s - 2 ≤ t → t < s → K (9 + t) 7 0 = iN 1
theorem X10_needS {j : Nat} {K : Nat → Ob} {M : Ob} {s : Nat} (hR : RI j K M) (hs : s < 4) :
    wp (f_X10_readAsNeeded K (iN s)) (fun r => KSS r.2.2 s) := by
  obtain ⟨hM, hk, hS, -, -⟩ := hR
  have hE := (WM_E hM hs).1
  have hL := (WM_E hM hs).2
  rw [f_X10_readAsNeeded, X10_sAt K hs]
  simp only [wp_some, wp_grd, wp_lb, wp_ite, wp_b1, wp_b2, wp_b3, wp_b4, wp_b5, eq_grd, eq_lb, eq_b1, eq_b2, eq_b3, eq_b4, eq_b5, if_true, hs, decide_true, true_and]
  refine wp_mono (X10_upTo hM hk hS hs) ?_
  rintro K1 ⟨a1, a2, a3⟩
  have hx := RS_L (a2 s hs) (a3 s (by omega) (Nat.le_refl s))
  refine wp_mono (X10_given hs (KS_of hM hs a2 a3) hx hE hL) ?_
  rintro ⟨b0, K2⟩ ⟨b1, b2, b3, b4⟩
  simp only at b1 b2 b3 b4 ⊢
  rw [if_pos b1]
  have b4' : ∀ p, p < 6 → K2 0 10 p = iN (gvM (sr M) M s p) := fun p hp => by rw [b4 p hp, gvM_e]
  have hx2 : RL6 (K2 (9 + s)) (evS M s) (Lk (sr M) M s) := by rw [b2 (9 + s) (by omega) (by omega)]; exact hx
  have k3 : K2 3 = K 3 := by rw [b2 3 (by omega) (by omega), a1 3 (by omega)]
  have hKS : KSS K2 s := fun t h1 h2 => by rw [b2 (9 + t) (by omega) (by omega)]; exact a3 t h1 (by omega)
  have again : wp (f_X10_readAsNeeded_J35 K2 s) (fun r => KSS r.2.2 s) := by
    rw [f_X10_readAsNeeded_J35]
    simp only [wp_some, wp_grd, wp_lb, wp_ite, wp_b1, wp_b2, wp_b3, wp_b4, wp_b5]
    refine wp_mono (X6_giveAll _ _) ?_
    rintro y ⟨c1, c2⟩
    have e3 : va_up K2 (9 + s) y 3 = K 3 := by rw [vu_ap, if_neg (by omega), k3]
    have e9 : va_up K2 (9 + s) y (9 + s) = y := vu_eq _ _ _
    have e14 : va_up K2 (9 + s) y (14 + s) = K2 (14 + s) := by rw [vu_ap, if_neg (by omega)]
    rw [e3, e9, e14]
    have hy : RL6 y (evS M s) (Lk (sr M) M s) := by
      unfold RL6 RA6
      rw [c1 0 (by decide), c1 2 (by decide), c1 4 (by decide), c1 5 (by decide)]
      exact hx2
    have h6 : RG6 y (evS M s) (Lk (sr M) M s) (gvM (sr M) M s) := by
      refine ⟨hy, hE, hL, ?_⟩
      intro p hp
      have h6 := hE.1
      exact ⟨by rw [c2 p (by omega)]; exact b4' p (by omega), gvM_lt _ _ _ _⟩
    refine wp_mono (X4_read (x0 := K2 (14 + s)) hM.2.2.2 hk.2.2.1 hk.2.2.2.1 h6) ?_
    rintro ⟨r1, r2, r3⟩ -
    intro t h1 h2
    show va_up (va_up (va_up (va_up (va_up K2 (9 + s) y) 3 r1) (9 + s) r2) (14 + s) r3) 0 _ (9 + t) 7 0 = iN 1
    rw [vu_ap, if_neg (by omega), vu_ap, if_neg (by omega), vu_ap, if_neg (by omega), vu_ap, if_neg (by omega), vu_ap, if_neg (by omega)]
    exact hKS t h1 h2
  by_cases h8 : K2 (9 + s) 8 0 = 0
  · rw [if_pos h8]
    refine wp_mono (X6_isGiven _ _) ?_
    rintro q -
    by_cases hq : q = 0
    · rw [if_pos hq]; exact again
    · rw [if_neg hq]; exact hKS
  · rw [if_neg h8]; exact again
theorem X6_copy {x x1 : Ob} {n : Nat} {wd : Nat → Nat} (h : RW6 x1 n wd) : wp (f_X6_copyWords x x1) (fun y => RW6 y n wd) := by
  obtain ⟨h0, h6, h1⟩ := h
  rw [f_X6_copyWords]
  simp only [wp_some, wp_grd, wp_lb, wp_ite, wp_b1, wp_b2, wp_b3, wp_b4, wp_b5]
  rw [h0]
  refine lp_up (F := fun f (y : Ob) i => f_X6_copyWords_L10 f y x1 i) (V := fun i y => y 0 0 = iN n ∧ ∀ p, p < i → y 1 p = iN (wd p)) (hi := n) ?_ 200 0 _ (by omega) (by omega) ⟨by rw [show (0 : Nat) = 0 from rfl, upo_ap, if_pos ⟨rfl, rfl⟩], fun p hp => absurd hp (Nat.not_lt_zero p)⟩
  rintro f y i hi ⟨v0, v1⟩ hk
  by_cases he : i = n
  · subst he
    simp (disch := omega) only [f_X6_copyWords_L10, v0, ↓nM_lit, iN_lit, iN_add, iN_mul, iN_lt, iN_le, iN_eq, iN_c, gd_iN, iN_nM, nM_iN, iN_ltM, nM_lt, nM_le, iN_leM, iN_0M, nM_p1, iN_0s1, decide_true, decide_eq_true_eq, Nat.not_lt_zero, if_true, if_false, wp_some, wp_grd, wp_lb, wp_ite, wp_b1, wp_b2, wp_b3, wp_b4, wp_b5, Nat.le_refl]
    exact ⟨v0, h6, v1⟩
  · simp (disch := omega) only [f_X6_copyWords_L10, v0, ↓nM_lit, iN_lit, iN_add, iN_mul, iN_lt, iN_le, iN_eq, iN_c, gd_iN, iN_nM, nM_iN, iN_ltM, nM_lt, nM_le, iN_leM, iN_0M, nM_p1, iN_0s1, decide_true, decide_eq_true_eq, Nat.not_lt_zero, if_true, if_false, wp_some, wp_grd, wp_lb, wp_ite, wp_b1, wp_b2, wp_b3, wp_b4, wp_b5, show ¬ (n ≤ i) by omega, show i < 6 by omega, true_and]
    refine hk _ (by omega) ⟨by rw [upo_ne (by decide)]; exact v0, ?_⟩
    intro p hp
    rw [upo_ap]
    by_cases e : p = i
    · subst e; rw [if_pos ⟨rfl, rfl⟩]; exact h1 p (by omega)
    · rw [if_neg (fun h => e h.2)]; exact v1 p (by omega)
/-- a mend: a place and a word -/
abbrev Mo : Type := Option (Nat × Nat)
def moI (o : Mo) : Int32 := match o with
  | none => nM
  | some a => iN (100 * a.1 + a.2)
def okm (M : Ob) (s : Nat) (o : Mo) : Prop := ∀ p w, o = some (p, w) → p < evn M s ∧ w < nn (M 0 0)
def puW (wd : Nat → Nat) (o : Mo) : Nat → Nat := match o with
  | none => wd
  | some a => uN wd a.1 a.2
def puM (M : Ob) (s : Nat) (o : Mo) : Ob := match o with
  | none => M
  | some a => upo M 10 (6 * s + a.1) (iN a.2)
theorem X10_put {x : Ob} {n : Nat} {wd : Nat → Nat} (h : RW6 x n wd) (o : Mo) (ho : ∀ p w, o = some (p, w) → p < n ∧ w < 40) : wp (f_X10_putMend x (moI o)) (fun y => RW6 y n (puW wd o)) := by
  obtain ⟨h0, h6, h1⟩ := h
  cases o with
  | none => exact ⟨x, if_pos rfl, h0, h6, h1⟩
  | some a =>
    obtain ⟨p, w⟩ := a
    obtain ⟨hp, hw⟩ := ho p w rfl
    have e1 : iN (100 * p + w) / iN 100 = iN p := by rw [iN_div (by omega) (by decide)]; congr 1; omega
    have e2 : iN (100 * p + w) - iN p * iN 100 = iN w := by rw [iN_mul, iN_sub (by omega)]; congr 1; omega
    have hne : ¬ (iN (100 * p + w) = -1) := by show ¬ (iN (100 * p + w) = nM); rw [iN_nM (by omega)]; exact id
    show wp (f_X10_putMend x (iN (100 * p + w))) _
    rw [f_X10_putMend, if_neg hne]
    simp only [iN_lit, e1, e2]
    simp (disch := omega) only [f_X6_putWord, h0, ↓nM_lit, iN_lit, iN_add, iN_mul, iN_lt, iN_le, iN_eq, iN_c, gd_iN, iN_nM, nM_iN, iN_ltM, nM_lt, nM_le, iN_leM, iN_0M, nM_p1, iN_0s1, decide_true, decide_eq_true_eq, Nat.not_lt_zero, if_true, if_false, wp_some, wp_grd, wp_lb, wp_ite, wp_b1, wp_b2, wp_b3, wp_b4, wp_b5, eq_grd, eq_lb, eq_b1, eq_b2, eq_b3, eq_b4, eq_b5, show ¬ (n ≤ p) by omega, show p < 6 by omega, true_and]
    refine ⟨by rw [upo_ne (by decide)]; exact h0, h6, ?_⟩
    intro q hq
    rw [upo_ap]
    show _ = iN (uN wd p w q)
    unfold uN
    by_cases e : q = p
    · rw [if_pos ⟨rfl, e⟩, if_pos e]
    · rw [if_neg (fun h => e h.2), if_neg e]; exact h1 q hq
theorem puM_ne {M : Ob} {s : Nat} {o : Mo} {k : Nat} (hk : k ≠ 10) : puM M s o k = M k := by
  cases o with
  | none => rfl
  | some a => exact upo_ne hk
theorem puM_evw {M : Ob} {s : Nat} {o : Mo} (hM : WLex M) (ho : okm M s o) (p : Nat) : evw (puM M s o) s p = puW (evw M s) o p := by
  cases o with
  | none => rfl
  | some a =>
    obtain ⟨q, w⟩ := a
    obtain ⟨hp, hw⟩ := ho q w rfl
    have hn40 := WLex_nw hM
    unfold evw
    show nn (upo M 10 (6 * s + q) (iN w) 10 (6 * s + p)) = uN (evw M s) q w p
    unfold uN
    rw [upo_ap]
    by_cases e : p = q
    · subst e; rw [if_pos ⟨rfl, rfl⟩, if_pos rfl, nn, iN_c (by omega)]
    · rw [if_neg (fun h => e (by omega)), if_neg e]; rfl
theorem puM_oth {M : Ob} {s t : Nat} {o : Mo} (h6 : evn M s ≤ 6) (ho : okm M s o) (ht : t ≠ s) {p : Nat} (hp : p < 6) : evw (puM M s o) t p = evw M t p := by
  cases o with
  | none => rfl
  | some a =>
    obtain ⟨q, w⟩ := a
    obtain ⟨hq, -⟩ := ho q w rfl
    unfold evw
    show nn (upo M 10 (6 * s + q) (iN w) 10 (6 * t + p)) = _
    rw [upo_ap, if_neg (fun h => by omega)]
theorem puM_gr {M : Ob} {s : Nat} {o : Mo} : gr (puM M s o) = gr M ∧ sr (puM M s o) = sr M := by
  constructor
  · funext k; unfold gr; split; exact puM_ne (by omega); rfl
  · funext k; unfold sr; split; exact puM_ne (by omega); rfl
theorem puM_WM {M : Ob} {s : Nat} {o : Mo} (hM : WM M) (hs : s < 4) (ho : okm M s o) : WM (puM M s o) ∧ okm (puM M s o) s = okm M s ∧ evn (puM M s o) s = evn M s := by
  obtain ⟨h1, h2, h3, h4⟩ := hM
  have en : evn (puM M s o) s = evn M s := by unfold evn; rw [puM_ne (by decide)]
  refine ⟨⟨WLex_cg (fun k hk => puM_ne (by omega)) h1, ?_, ?_, by rw [puM_gr.1]; exact h4⟩, ?_, en⟩
  · intro t ht
    obtain ⟨n, n1, n2, n3⟩ := h2 t ht
    refine ⟨n, n1, by rw [puM_ne (by decide)]; exact n2, ?_⟩
    intro p hp
    rw [puM_ne (by decide)]
    cases o with
    | none => exact n3 p hp
    | some a =>
      obtain ⟨q, w⟩ := a
      obtain ⟨hq, hw⟩ := ho q w rfl
      show ∃ w', w' < nn (M 0 0) ∧ upo M 10 (6 * s + q) (iN w) 10 (6 * t + p) = iN w'
      rw [upo_ap]
      by_cases e : 6 * t + p = 6 * s + q
      · rw [if_pos ⟨rfl, e⟩]; exact ⟨w, hw, rfl⟩
      · rw [if_neg (fun h => e h.2)]; exact n3 p hp
  · rw [puM_gr.2]
    exact ⟨h3.1, fun k k1 k2 => by rw [puM_ne (by omega)]; exact h3.2.1 k k1 k2, h3.2.2⟩
  · funext o'; unfold okm; rw [en, puM_ne (by decide)]
