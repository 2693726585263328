/-! At the beginning. -/
theorem RI_00 {K : Nat → Ob} {M : Ob} (hK : ∀ k, k ≠ 4 → ¬ (9 ≤ k ∧ k ≤ 13) → ∀ i n, K k i n = iN 0) (hS : ∀ k, 9 ≤ k → k ≤ 12 → ∀ i n, K k i n = if i = 8 then iN 1 else iN 0) (hM : ∀ k, k ≠ 54 → ∀ n, M k n = iN 0) (h54 : ∀ s, s < 4 → M 54 s = nM) : RI 0 K M := by
  have hr : ∀ k n, gr M k n = iN 0 := by
    intro k n; unfold gr; split
    · exact hM k (by omega) n
    · rfl
  have hsr : ∀ k n, sr M k n = iN 0 := by
    intro k n; unfold sr; split
    · exact hM k (by omega) n
    · rfl
  have n0 : nn (iN 0) = 0 := iN_c (by decide)
  have hl : WLex M := by
    refine ⟨⟨0, by decide, hM 0 (by decide) 0⟩, ?_, ?_, ?_, ?_, ?_, ?_, ?_⟩ <;> intro i _ <;> exact ⟨0, by decide, hM _ (by decide) _⟩
  have ht : WTxt M := fun s _ => ⟨0, by decide, hM 9 (by decide) s, fun p hp => absurd hp (Nat.not_lt_zero p)⟩
  have en : ∀ s, evn M s = 0 := fun s => by unfold evn; rw [hM 9 (by decide), n0]
  have hG : WGr (gr M) := ⟨⟨0, by decide, hr 21 0⟩, fun g hg => by rw [hr, n0] at hg; exact absurd hg (Nat.not_lt_zero g)⟩
  have hR : RSt M (sr M) := ⟨⟨0, by decide, hsr 15 0⟩, fun k k1 k2 => sr_e k1 k2, fun g hg => by rw [hsr, n0] at hg; exact absurd hg (Nat.not_lt_zero g)⟩
  have k1 := hK 1 (by decide) (by decide)
  have k2 := hK 2 (by decide) (by decide)
  have k3 := hK 3 (by decide) (by decide)
  have k7 := hK 7 (by decide) (by decide)
  have p0 : iN 0 = iN (pk3 0 0 0) := rfl
  have hsing : sing (gr M) = [] := by
    unfold sing
    rw [hr, n0]; rfl
  refine ⟨⟨hl, ht, hR, hG⟩, ⟨?_, ?_, ?_, ?_, ?_⟩, ?_, ?_, ?_, ?_⟩
  · refine ⟨by rw [k1, hM 0 (by decide)], fun w _ => ⟨by rw [k1, hM 1 (by decide)], by rw [k1, hM 2 (by decide)]⟩, fun e _ => by rw [k1, hM 6 (by decide)], fun i _ => ⟨by rw [k1, hM 3 (by decide)], by rw [k1, hM 4 (by decide)], ?_⟩, fun i _ => ⟨by rw [k1, hM 7 (by decide)], ?_⟩⟩
    · rw [k1, hM 5 (by decide), hM 5 (by decide), hM 5 (by decide), n0]; rfl
    · rw [k1, hM 8 (by decide), hM 8 (by decide), hM 8 (by decide), n0]; rfl
  · exact ⟨⟨0, by decide, hsr 15 0⟩, by rw [k2, hsr], fun g hg => by rw [hsr, n0] at hg; exact absurd hg (Nat.not_lt_zero g)⟩
  · exact ⟨by rw [k3, hr], fun g _ => ⟨by rw [k3, hr], by rw [k3, hr], by rw [k3, hr], by rw [k3, hr], by rw [k3, hr]⟩, fun i _ => ⟨by rw [k3, hr], by rw [k3, hr], by rw [k3, hr], by rw [k3, hr]⟩⟩
  · exact ⟨by rw [k3, hsing]; rfl, fun k hk => by rw [hsing] at hk; exact absurd hk (Nat.not_lt_zero k)⟩
  · exact ⟨⟨0, by decide, hM 59 (by decide) 0⟩, by rw [k7, hM 59 (by decide)], fun k hk => by rw [hM 59 (by decide), n0] at hk; exact absurd hk (Nat.not_lt_zero k), fun k _ => ⟨by rw [k7, hM 64 (by decide)], Or.inl (hM 64 (by decide) k)⟩, fun i _ => ⟨by rw [k7, hM 65 (by decide)], Or.inl (hM 65 (by decide) i)⟩⟩
  · intro s hs
    have h9 := hS (9 + s) (by omega) (by omega)
    refine ⟨⟨by rw [h9, en]; rfl, by rw [en]; decide, fun p hp => by rw [en] at hp; exact absurd hp (Nat.not_lt_zero p)⟩, Or.inl (by rw [h9]; rfl), Or.inl ⟨by rw [h9]; rfl, Or.inl ?_⟩⟩
    rw [h54 s hs, hM 52 (by decide)]; decide
  · refine ⟨0, Nat.le_refl 0, hM 52 (by decide) 0, ?_⟩
    intro s hs
    exact ⟨Or.inl (h54 s hs), 0, 0, Nat.le_refl 0, Nat.le_refl 0, hM 55 (by decide) s, hM 56 (by decide) s⟩
  · rw [hK 0 (by decide) (by decide), hM 53 (by decide)]
  · intro g _ _; exact hM 26 (by decide) g
