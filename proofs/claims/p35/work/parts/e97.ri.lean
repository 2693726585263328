/-! What holds between calls, of the class and the reference. -/
def gr (M : Ob) : Ob := fun k => if 21 ≤ k ∧ k ≤ 30 then M k else fun _ => 0
def sr (M : Ob) : Ob := fun k => if 15 ≤ k ∧ k ≤ 20 then M k else fun _ => 0
theorem gr_e {M : Ob} {k : Nat} (h1 : 21 ≤ k) (h2 : k ≤ 30) : M k = gr M k := by rw [gr, if_pos ⟨h1, h2⟩]
theorem sr_e {M : Ob} {k : Nat} (h1 : 15 ≤ k) (h2 : k ≤ 20) : M k = sr M k := by rw [sr, if_pos ⟨h1, h2⟩]
/-- the part of the reference that charts speak of -/
def cor (M M' : Ob) : Prop := ∀ k, (k < 11 ∨ (15 ≤ k ∧ k ≤ 30)) → M' k = M k
theorem gr_cg {M M' : Ob} (h : cor M M') : gr M' = gr M := by
  funext k
  unfold gr
  split
  · exact h k (by omega)
  · rfl
theorem sr_cg {M M' : Ob} (h : cor M M') : sr M' = sr M := by
  funext k
  unfold sr
  split
  · exact h k (by omega)
  · rfl
theorem evn_cg {M M' : Ob} (h : cor M M') (s : Nat) : evn M' s = evn M s := by unfold evn; rw [h 9 (by omega)]
theorem evw_cg {M M' : Ob} (h : cor M M') (s : Nat) : evw M' s = evw M s := by funext p; unfold evw; rw [h 10 (by omega)]
theorem evS_cg {M M' : Ob} (h : cor M M') : evS M' = evS M := by
  funext s
  rw [evS_e, evS_e, evn_cg h, evw_cg h]
  exact evW_cg (fun k hk => h k (by omega)) _ _
theorem Lk_cg {R M M' : Ob} (h : cor M M') : Lk R M' = Lk R M := by
  funext s; unfold Lk; rw [evS_cg h]
theorem gvM_cg {R M M' : Ob} (h : cor M M') : gvM R M' = gvM R M := by
  funext s p; unfold gvM rfM; rw [evS_cg h, Lk_cg h]
theorem WTxt_cg {M M' : Ob} (h : ∀ k, k < 11 → M' k = M k) (ht : WTxt M) : WTxt M' := by
  intro s hs
  rw [h 9 (by omega), h 10 (by omega), h 0 (by omega)]
  exact ht s hs
def WM (M : Ob) : Prop := WLex M ∧ WTxt M ∧ RSt M (sr M) ∧ WGr (gr M)
theorem WM_cg {M M' : Ob} (h : cor M M') (hM : WM M) : WM M' := by
  obtain ⟨h1, h2, h3, h4⟩ := hM
  refine ⟨WLex_cg (fun k hk => h k (by omega)) h1, WTxt_cg (fun k hk => h k (by omega)) h2, ?_, by rw [gr_cg h]; exact h4⟩
  rw [sr_cg h]
  exact ⟨h3.1, fun k k1 k2 => by rw [h k (by omega)]; exact h3.2.1 k k1 k2, h3.2.2⟩
abbrev Es (M : Ob) (s : Nat) : Ev := evS M s
abbrev Ls (M : Ob) (s : Nat) : Nat → Nat := Lk (sr M) M s
abbrev gv (M : Ob) (s : Nat) : Nat → Nat := gvM (sr M) M s
abbrev cM (M : Ob) (s : Nat) : Ch := chM (gr M) (sr M) M s
theorem cM_cg {M M' : Ob} (h : cor M M') (s : Nat) : cM M' s = cM M s := by
  show cht (gr M') (evS M' s) (Lk (sr M') M' s) (gvM (sr M') M' s) = cht (gr M) (evS M s) (Lk (sr M) M s) (gvM (sr M) M s)
  rw [gr_cg h, sr_cg h, evS_cg h, Lk_cg h, gvM_cg h]
theorem WM_E {M : Ob} (h : WM M) {s : Nat} (hs : s < 4) : EvB (evS M s) ∧ LB (evS M s) (Lk (sr M) M s) := by
  have hE := evS_B h.1 h.2.1 hs
  exact ⟨hE, sI_LB hE 25 _ (l0_LB _)⟩
/-- a sentence of the class -/
def RSen (x c M : Ob) (s : Nat) : Prop := RW6 x (evn M s) (evw M s) ∧ (x 7 0 = iN 0 ∨ (x 7 0 = iN 1 ∧ RL6 x (evS M s) (Lk (sr M) M s))) ∧
  ((x 8 0 = iN 1 ∧ (M 54 s ≠ M 52 0 ∨ M 56 s ≠ M 55 s)) ∨ (x 8 0 = iN 0 ∧ M 54 s = M 52 0 ∧ M 56 s = M 55 s ∧ c 0 0 = iN (evn M s) ∧ (∀ p, evn M s ≤ p → p < 6 → x 3 p = iN 0) ∧
    ∃ g : Nat → Nat, (∀ p, p < evn M s → x 3 p = iN (g p) ∧ g p < 16 ∧ M 57 (6 * s + p) = iN (g p % 4) ∧ M 58 (6 * s + p) = iN (g p / 4)) ∧ RCh c (gr M) (cht (gr M) (evS M s) (Lk (sr M) M s) g)))
theorem RSen_cg {x c M M' : Ob} {s : Nat} (h : cor M M') (h2 : M' 52 0 = M 52 0 ∧ M' 54 s = M 54 s ∧ M' 55 s = M 55 s ∧ M' 56 s = M 56 s) (h3 : ∀ p, p < evn M s → M' 57 (6 * s + p) = M 57 (6 * s + p) ∧ M' 58 (6 * s + p) = M 58 (6 * s + p)) (hr : RSen x c M s) : RSen x c M' s := by
  obtain ⟨r1, r2, r3⟩ := hr
  unfold RSen
  rw [evn_cg h, evw_cg h, evS_cg h, sr_cg h, Lk_cg h, gr_cg h, h2.1, h2.2.1, h2.2.2.1, h2.2.2.2]
  refine ⟨r1, r2, ?_⟩
  rcases r3 with r3 | ⟨a1, a2, a3, a4, a5, g, a6, a7⟩
  · exact Or.inl r3
  · refine Or.inr ⟨a1, a2, a3, a4, a5, g, ?_, a7⟩
    intro p hp
    rw [(h3 p hp).1, (h3 p hp).2]
    exact a6 p hp
/-- the counters -/
def VR (M : Ob) (j : Nat) : Prop := ∃ v, v ≤ j ∧ M 52 0 = iN v ∧ ∀ s, s < 4 → (M 54 s = nM ∨ ∃ w, w ≤ v ∧ M 54 s = iN w) ∧ ∃ c d, d ≤ c ∧ c ≤ j ∧ M 55 s = iN c ∧ M 56 s = iN d
theorem VR_mono {M : Ob} {j i : Nat} (h : j ≤ i) (hv : VR M j) : VR M i := by
  obtain ⟨v, h1, h2, h3⟩ := hv
  refine ⟨v, by omega, h2, fun s hs => ?_⟩
  obtain ⟨a, c, d, b1, b2, b3⟩ := h3 s hs
  exact ⟨a, c, d, b1, by omega, b3⟩
/-- the patterns of style -/
def QX8 (x M : Ob) : Prop := (∃ a, a ≤ 12 ∧ M 59 0 = iN a) ∧ x 0 0 = M 59 0 ∧ (∀ k, k < nn (M 59 0) → x 1 (3 * k) = M 60 k ∧ x 1 (3 * k + 1) = M 61 k ∧ x 1 (3 * k + 2) = M 62 k ∧ x 2 k = M 63 k ∧ (M 63 k = nM ∨ ∃ b, b < k ∧ M 63 k = iN b)) ∧ (∀ k, k < 12 → x 3 k = M 64 k ∧ (M 64 k = iN 0 ∨ M 64 k = iN 1)) ∧ ∀ i, i < 480 → x 4 i = M 65 i ∧ (M 65 i = iN 0 ∨ M 65 i = iN 1)
def RK (K : Nat → Ob) (M : Ob) : Prop := QX3 (K 1) M ∧ QX7 (K 2) (sr M) ∧ QX2 (K 3) (gr M) ∧ RSg (K 3) (gr M) ∧ QX8 (K 7) M
/-- rules that are not told have no equations -/
def ZE (M : Ob) : Prop := ∀ g, nn (M 21 0) ≤ g → g < 16 → M 26 g = iN 0
theorem ZE_cg {M M' : Ob} (h21 : M' 21 = M 21) (h26 : M' 26 = M 26) (h : ZE M) : ZE M' := by
  unfold ZE; rw [h21, h26]; exact h
def RI (j : Nat) (K : Nat → Ob) (M : Ob) : Prop := WM M ∧ RK K M ∧ (∀ s, s < 4 → RSen (K (9 + s)) (K (14 + s)) M s) ∧ VR M j ∧ K 0 12 0 = M 53 0 ∧ ZE M
/-- other fields of the reference do not matter -/
theorem RX3_cg {x M M' : Ob} (h : ∀ k, k < 9 → M' k = M k) (hx : QX3 x M) : QX3 x M' := by
  unfold QX3
  rw [h 0 (by omega), h 1 (by omega), h 2 (by omega), h 3 (by omega), h 4 (by omega), h 5 (by omega), h 6 (by omega), h 7 (by omega), h 8 (by omega)]
  exact hx
theorem RX8_cg {x M M' : Ob} (h : ∀ k, 59 ≤ k → k ≤ 65 → M' k = M k) (hx : QX8 x M) : QX8 x M' := by
  unfold QX8
  rw [h 59 (by omega) (by omega), h 60 (by omega) (by omega), h 61 (by omega) (by omega), h 62 (by omega) (by omega), h 63 (by omega) (by omega), h 64 (by omega) (by omega), h 65 (by omega) (by omega)]
  exact hx
theorem RK_cg {K : Nat → Ob} {M M' : Ob} (h : cor M M') (h8 : ∀ k, 59 ≤ k → k ≤ 65 → M' k = M k) (hk : RK K M) : RK K M' := by
  obtain ⟨h1, h2, h3, h4, h5⟩ := hk
  refine ⟨RX3_cg (fun k hk => h k (by omega)) h1, ?_, ?_, ?_, RX8_cg h8 h5⟩
  · rw [sr_cg h]; exact h2
  · rw [gr_cg h]; exact h3
  · rw [gr_cg h]; exact h4
theorem RI_cg {j : Nat} {K : Nat → Ob} {M M' : Ob} (h : ∀ k, (k < 11 ∨ (15 ≤ k ∧ k ≤ 30) ∨ (52 ≤ k ∧ k ≤ 65)) → M' k = M k) (hr : RI j K M) : RI j K M' := by
  obtain ⟨h1, h2, h3, h4, h5⟩ := hr
  have hc : cor M M' := fun k hk => h k (by omega)
  refine ⟨WM_cg hc h1, RK_cg hc (fun k k1 k2 => h k (by omega)) h2, ?_, ?_, ?_⟩
  · intro s hs
    refine RSen_cg hc ?_ ?_ (h3 s hs)
    · rw [h 52 (by omega), h 54 (by omega), h 55 (by omega), h 56 (by omega)]; exact ⟨rfl, rfl, rfl, rfl⟩
    · intro p _
      rw [h 57 (by omega), h 58 (by omega)]; exact ⟨rfl, rfl⟩
  · unfold VR
    rw [h 52 (by omega), h 54 (by omega), h 55 (by omega), h 56 (by omega)]; exact h4
  · exact ⟨by rw [h 53 (by omega)]; exact h5.1, ZE_cg (h 21 (by omega)) (h 26 (by omega)) h5.2⟩
theorem RI_j {j : Nat} {K : Nat → Ob} {M : Ob} (hr : RI j K M) : RI (j + 1) K M := by
  obtain ⟨h1, h2, h3, h4, h5⟩ := hr
  exact ⟨h1, h2, h3, VR_mono (Nat.le_succ j) h4, h5⟩
theorem RSg_cg {x y G : Ob} (h : ∀ k, k ≠ 12 → k ≠ 13 → k ≠ 14 → y k = x k) (hx : RSg x G) : RSg y G := by
  unfold RSg
  rw [h 5 (by decide) (by decide) (by decide), h 6 (by decide) (by decide) (by decide)]
  exact hx
/-- other objects of the class do not matter -/
def corK (K K' : Nat → Ob) : Prop := (∀ i, (i = 1 ∨ i = 2 ∨ i = 7 ∨ (9 ≤ i ∧ i ≤ 12) ∨ (14 ≤ i ∧ i ≤ 17)) → K' i = K i) ∧ (∀ k, k ≠ 12 → k ≠ 13 → k ≠ 14 → K' 3 k = K 3 k) ∧ K' 0 12 = K 0 12
theorem RK_K {K K' : Nat → Ob} {M : Ob} (h : (∀ i, (i = 1 ∨ i = 2 ∨ i = 7) → K' i = K i) ∧ (∀ k, k ≠ 12 → k ≠ 13 → k ≠ 14 → K' 3 k = K 3 k)) (hk : RK K M) : RK K' M := by
  obtain ⟨h1, h2, h3, h4, h5⟩ := hk
  unfold RK
  rw [h.1 1 (by omega), h.1 2 (by omega), h.1 7 (by omega)]
  exact ⟨h1, h2, RX2_cg h.2 h3, RSg_cg h.2 h4, h5⟩
theorem RI_K {j : Nat} {K K' : Nat → Ob} {M : Ob} (h : corK K K') (hr : RI j K M) : RI j K' M := by
  obtain ⟨h1, h2, h3, h4, h5⟩ := hr
  refine ⟨h1, RK_K ⟨fun i hi => h.1 i (by omega), h.2.1⟩ h2, ?_, h4, by rw [h.2.2]; exact h5.1, h5.2⟩
  intro s hs
  rw [h.1 (9 + s) (by omega), h.1 (14 + s) (by omega)]
  exact h3 s hs
theorem corK_r (K : Nat → Ob) : corK K K := ⟨fun _ _ => rfl, fun _ _ _ _ => rfl, rfl⟩
theorem corK_t {K K' K2 : Nat → Ob} (h1 : corK K K') (h2 : corK K' K2) : corK K K2 := ⟨fun i hi => by rw [h2.1 i hi, h1.1 i hi], fun k a b c => by rw [h2.2.1 k a b c, h1.2.1 k a b c], by rw [h2.2.2, h1.2.2]⟩
/-- what is given matters at the places only -/
theorem wdF_gv {G : Ob} {E : Ev} {L g g' : Nat → Nat} {p : Nat} (h : g p = g' p) (k : Nat) (ch : Ch) : wdF G E L g p k ch = wdF G E L g' p k ch := by
  induction k with
  | zero => rfl
  | succ k ih => rw [wdF, wdF, ih, h]
theorem froF_gv {G : Ob} {E : Ev} {L g g' : Nat → Nat} (h : ∀ p, p < eL E → g p = g' p) {m : Nat} (b : Nat) (hb : b ≤ eL E) (ch : Ch) : froF G E L g m b ch = froF G E L g' m b ch := by
  induction b with
  | zero => rfl
  | succ b ih => rw [froF, froF, ih (by omega), celF, celF, wdF_gv (h b (by omega))]
theorem cht_gv {G : Ob} {E : Ev} {L g g' : Nat → Nat} (h : ∀ p, p < eL E → g p = g' p) : cht G E L g = cht G E L g' := by
  have : ∀ m (ch : Ch), manF G E L g m ch = manF G E L g' m ch := by
    intro m ch
    induction m with
    | zero => rfl
    | succ m ih => rw [manF, manF, ih, froF_gv h _ (by omega)]
  exact this _ _
