/-! The mend of a fault: said once; by the class. -/
def cdAo (M : Ob) (s φ v : Nat) (a : Lf) : Mo := match cdW M s φ v a with
  | none => none
  | some w => some (a.1, w)
def cdUo (G M : Ob) (s g e side : Nat) (l r : Tr) (o : Option Uf) : Mo := match o with
  | none => none
  | some u => match wnt G g e side u with
    | none => none
    | some v => cdAo M s (nn (G 27 (3 * g + e))) v (dn G (if side = 2 then r else l))
def cdo (G M : Ob) (s : Nat) (t : Tr) (e side : Nat) : Mo := match t with
  | .leaf _ => none
  | .branch g l r => cdUo G M s g e side l r (uNn G g e (u0 (tF G l) (tF G r)))
theorem cdt_o (G M : Ob) (s : Nat) (t : Tr) (e side : Nat) : cdt G M s t e side = moI (cdo G M s t e side) := by
  cases t with
  | leaf a => rfl
  | branch g l r =>
    unfold cdt cdo
    simp only
    cases uNn G g e (u0 (tF G l) (tF G r)) with
    | none => rfl
    | some u =>
      unfold cdU cdUo
      simp only
      cases wnt G g e side u with
      | none => rfl
      | some v =>
        simp only
        unfold cdA cdAo
        generalize dn G (if side = 2 then r else l) = a
        cases cdW M s (nn (G 27 (3 * g + e))) v a with
        | none => rfl
        | some w => rfl
theorem cdo_ok {M : Ob} {s e side : Nat} {t : Tr} (hM : WM M) (hok : OKt M s t) (hz : tR (gr M) t e ≠ 0) (hsd : side = 1 ∨ side = 2) : okm M s (cdo (gr M) M s t e side) := by
  intro p w h
  obtain ⟨g, l, r, et⟩ := tR_branch hz
  subst et
  have hG := hM.2.2.2
  obtain ⟨hen, u, hu, -, -⟩ := tR_code hG hok.1 hz
  unfold cdo at h
  simp only [hu] at h
  unfold cdUo at h
  simp only at h
  cases hw : wnt (gr M) g e side u with
  | none => rw [hw] at h; cases h
  | some v =>
    rw [hw] at h
    simp only at h
    have hpart : OKt M s (if side = 2 then r else l) := by
      rcases hsd with e1 | e1
      · subst e1; rw [if_neg (by decide)]; exact OKt_l hok
      · subst e1; rw [if_pos rfl]
        refine OKt_r hok ?_
        intro hun
        obtain ⟨-, -, -, n, hn, en, hq⟩ := hG.2 g hok.1.1
        have enn : nn (gr M 26 g) = n := by rw [en, nn, iN_c (by omega)]
        obtain ⟨φ, a, b, c', hφ, ha, hb, hab, hu1, -, e27, e28, e29, -⟩ := hq e (by omega)
        have h1 := hu1 hun
        unfold wnt at hw
        rw [e28, e29, if_neg (by rw [iN_eq (by omega) (by omega)]; omega), if_neg (by rw [iN_eq (by omega) (by omega)]; omega)] at hw
        cases hw
    have hat := dn_at hG hpart.1 hpart.2.1
    unfold cdAo at h
    generalize dn (gr M) (if side = 2 then r else l) = a at h hat
    cases hc : cdW M s (nn (gr M 27 (3 * g + e))) v a with
    | none => rw [hc] at h; cases h
    | some w' =>
      rw [hc] at h
      cases h
      exact ⟨hat.1, fw_lt hc⟩
abbrev bef (M : Ob) (s : Nat) : Int32 := wK (gr M) (cM M s) (evn M s)
def bet (M : Ob) (s : Nat) (o : Mo) : Bool := o.isSome && decide (prc M s o none < bef M s)
theorem bet_y {M : Ob} {s : Nat} {o : Mo} (h0 : o ≠ none) (h : prc M s o none < bef M s) : bet M s o = true := by
  unfold bet
  rw [decide_eq_true h, Bool.and_true]
  cases o with
  | none => exact absurd rfl h0
  | some a => rfl
theorem bet_e {M : Ob} {s : Nat} {o : Mo} (h : bet M s o = true) : o ≠ none ∧ prc M s o none < bef M s := by
  unfold bet at h
  rw [Bool.and_eq_true, decide_eq_true_eq] at h
  refine ⟨?_, h.2⟩
  intro e; rw [e] at h; exact absurd h.1 (by decide)
def mdo (M : Ob) (s : Nat) (t : Tr) (e : Nat) : Mo := if bet M s (cdo (gr M) M s t e 2) = true then cdo (gr M) M s t e 2 else if bet M s (cdo (gr M) M s t e 1) = true then cdo (gr M) M s t e 1 else none
theorem moI_nz {M : Ob} {s : Nat} {o : Mo} (hM : WM M) (hs : s < 4) (ho : okm M s o) : (o = none ∧ moI o = nM) ∨ (o ≠ none ∧ ¬ (moI o = nM)) := by
  rcases moI_d hM hs ho with ⟨e, h⟩ | ⟨p, w, e, -, -, h, -⟩
  · exact Or.inl ⟨e, h⟩
  · exact Or.inr ⟨by rw [e]; exact Option.some_ne_none _, h⟩
/-- what trials leave of the class -/
def KF (K K' : Nat → Ob) : Prop := (∀ i, i ≠ 0 → i ≠ 3 → i ≠ 4 → i ≠ 13 → i ≠ 18 → K' i = K i) ∧ (∀ k, k ≠ 12 → k ≠ 13 → k ≠ 14 → K' 3 k = K 3 k) ∧ ∀ k, k ≠ 10 → K' 0 k = K 0 k
theorem KF_r (K : Nat → Ob) : KF K K := ⟨fun _ _ _ _ _ _ => rfl, fun _ _ _ _ => rfl, fun _ _ => rfl⟩
theorem KF_t {K K' K2 : Nat → Ob} (h1 : KF K K') (h2 : KF K' K2) : KF K K2 :=
  ⟨fun i a b c d e => by rw [h2.1 i a b c d e]; exact h1.1 i a b c d e, fun k a b c => by rw [h2.2.1 k a b c]; exact h1.2.1 k a b c, fun k a => by rw [h2.2.2 k a]; exact h1.2.2 k a⟩
theorem KF_c {K K' : Nat → Ob} (h : KF K K') : corK K K' := ⟨fun i hi => h.1 i (by omega) (by omega) (by omega) (by omega) (by omega), h.2.1, h.2.2 12 (by decide)⟩
theorem KF_S {K K' : Nat → Ob} {s : Nat} (hs : s < 4) (h : KF K K') (hS : KSS K s) : KSS K' s := fun t h1 h2 => by rw [h.1 (9 + t) (by omega) (by omega) (by omega) (by omega) (by omega)]; exact hS t h1 h2
theorem X10_md1 {j : Nat} {K : Nat → Ob} {M : Ob} {s : Nat} (hR : RD j K M s) (hS : KSS K s) (hs : s < 4) {t : Tr} {σ e side n : Nat} (hσ : σ < 288) (he : e < 3) (hz : tR (gr M) t e ≠ 0) (hrc : RC (K (14 + s)) (gr M) t σ) (hok : OKt M s t) (hsd : side = 1 ∨ side = 2) {Q : Nat × Int32 × Int32 × (Nat → Ob) → Prop}
    (h1 : bet M s (cdo (gr M) M s t e side) = true → ∀ K', KF K K' → Q (2, iN side, moI (cdo (gr M) M s t e side), K'))
    (h2 : ¬ bet M s (cdo (gr M) M s t e side) = true → ∀ K', KF K K' → wp (f_X10_mendOf_L2 n K' (iN s) (iN (3 * σ + e)) (iN side + nM)) Q) :
    wp (f_X10_mendOf_L2 (n + 1) K (iN s) (iN (3 * σ + e)) (iN side)) Q := by
  have hT := X10_try hR hs hσ he hz hrc hok hsd
  rw [cdt_o] at hT
  have hko := cdo_ok hR.1.1 hok hz hsd
  generalize cdo (gr M) M s t e side = o at hT hko h1 h2
  have ne : ¬ (iN (3 * σ + e) = -1) := by show ¬ (iN (3 * σ + e) = nM); rw [iN_nM (by omega)]; exact id
  have n1 : ¬ (iN side < 1) := by
    show ¬ (iN side < iN 1)
    rw [iN_lt (by omega) (by omega)]; omega
  rw [f_X10_mendOf_L2, if_neg ne, if_neg n1, X10_sAt K hs, eq_b2]
  show wp (if (0 : Nat) = 0 then grd (decide (s < 4)) _ else _) Q
  rw [if_pos rfl, decide_eq_true hs, eq_grd]
  show wp (bnd1 (f_X10_mendToTry K s (iN (3 * σ + e)) (iN side)) _) Q
  rw [hT, eq_b1]
  rcases moI_nz hR.1.1 hs hko with ⟨e0, e1⟩ | ⟨e0, e1⟩
  · rw [if_pos (show moI o = -1 from e1)]
    exact h2 (fun h => (bet_e h).1 e0) K (KF_r K)
  · rw [if_neg (show ¬ (moI o = -1) from e1)]
    obtain ⟨⟨r1, r2, K'⟩, ep, p1, p2, p3, p4, p5⟩ := X10_price hR.1 hS hs o none hko (fun _ _ h => by cases h)
    simp only at p1 p2 p3 p4 p5
    subst p1
    subst p2
    have ep' : f_X10_priceWith K (iN s) (moI o) (-1) = some (0, prc M s o none, K') := ep
    have hF : KF K K' := ⟨p3, p4, p5⟩
    have hR' : RD j K' M s := RD_K hs (KF_c hF) hR
    have hw := (RD_w hs hR').1
    rw [ep', eq_b3]
    show wp (if (0 : Nat) = 0 then bnd2 (f_X10_sentenceAt K' (iN s)) _ else _) Q
    rw [if_pos rfl, X10_sAt K' hs, eq_b2]
    show wp (if (0 : Nat) = 0 then grd (decide (s < 4)) (bnd1 (f_X0_wholePrice (K' (14 + s))) _) else _) Q
    rw [if_pos rfl, decide_eq_true hs, eq_grd, hw, eq_b1]
    show wp (if bef M s ≤ prc M s o none then _ else _) Q
    by_cases hc : bef M s ≤ prc M s o none
    · rw [if_pos hc]
      exact h2 (fun h => absurd (bet_e h).2 (i32_nlt.mpr hc)) K' hF
    · rw [if_neg hc]
      exact wp_some.mpr (h1 (bet_y e0 (i32_nle.mp hc)) K' hF)
theorem X10_mendOf {j : Nat} {K : Nat → Ob} {M : Ob} {s : Nat} (hR : RD j K M s) (hS : KSS K s) (hs : s < 4) {t : Tr} {σ e : Nat} (hσ : σ < 288) (he : e < 3) (hz : tR (gr M) t e ≠ 0) (hrc : RC (K (14 + s)) (gr M) t σ) (hok : OKt M s t) :
    wp (f_X10_mendOf K (iN s) (iN (3 * σ + e))) (fun r => r.1 = 0 ∧ r.2.1 = moI (mdo M s t e) ∧ KF K r.2.2) := by
  rw [f_X10_mendOf]
  simp only [wp_b4]
  unfold mdo
  have fin2 : ∀ (c : Int32) (o : Mo) (K' : Nat → Ob), KF K K' → wp (if 100 ≤ 2 then some (2 - 100, (0 : Int32), K') else if 2 = 1 then some (0, (-1), K') else some (0, moI o, K')) (fun r => r.1 = 0 ∧ r.2.1 = moI o ∧ KF K r.2.2) := by
    intro c o K' h
    rw [if_neg (by decide), if_neg (by decide)]
    exact wp_some.mpr ⟨rfl, rfl, h⟩
  refine X10_md1 (n := 199) (side := 2) hR hS hs hσ he hz hrc hok (Or.inr rfl) ?_ ?_
  · intro hb K' hF
    rw [if_pos hb]
    exact fin2 (iN 2) _ K' hF
  · intro hb K' hF
    rw [if_neg hb]
    show wp (f_X10_mendOf_L2 (198 + 1) K' (iN s) (iN (3 * σ + e)) (iN 1)) _
    refine X10_md1 (n := 198) (side := 1) (RD_K hs (KF_c hF) hR) (KF_S hs hF hS) hs hσ he hz (by rw [hF.1 (14 + s) (by omega) (by omega) (by omega) (by omega) (by omega)]; exact hrc) hok (Or.inl rfl) ?_ ?_
    · intro hb K2 hF2
      rw [if_pos hb]
      exact fin2 (iN 1) _ K2 (KF_t hF hF2)
    · intro hb K2 hF2
      rw [if_neg hb]
      show wp (f_X10_mendOf_L2 (197 + 1) K2 (iN s) (iN (3 * σ + e)) (iN 0)) _
      have ne : ¬ (iN (3 * σ + e) = -1) := by show ¬ (iN (3 * σ + e) = nM); rw [iN_nM (by omega)]; exact id
      rw [f_X10_mendOf_L2, if_neg ne, if_pos (by decide)]
      refine wp_some.mpr ?_
      show wp (if 100 ≤ 1 then _ else if 1 = 1 then _ else _) _
      rw [if_neg (by decide), if_pos rfl]
      exact wp_some.mpr ⟨rfl, rfl, KF_t hF hF2⟩
theorem X10_mendNo {K : Nat → Ob} {s : Nat} : f_X10_mendOf K (iN s) nM = some (0, nM, K) := by
  rw [f_X10_mendOf, show (200 : Nat) = 199 + 1 from rfl, f_X10_mendOf_L2, if_pos (show nM = -1 from rfl), eq_b4]
  rfl
