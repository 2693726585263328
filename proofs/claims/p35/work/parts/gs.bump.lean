/-! Something told: sentences are due again. -/
theorem LXh_up {j : Nat} {c c' h : Rw} {M M' : Ob} (hx : LXh c h M) (hV : VR M j) (hj : j < 1000000) (e52 : M' 52 0 = M 52 0 + iN 1) (e5 : ∀ k, 53 ≤ k → k ≤ 58 → M' k = M k) (h4 : c' 4 = c 4 + iN 1) (h5 : c' 5 = c 5) (h10 : ∀ s, s < 2 → c' (10 + s) = c (10 + s)) : LXh c' h M' := by
  obtain ⟨x1, x2, x3⟩ := hx
  obtain ⟨v, v1, v2, v3⟩ := hV
  refine ⟨by rw [h4, x1, e52], by rw [h5, x2, e5 53 (by omega) (by omega)], fun s hs => ?_⟩
  obtain ⟨a1, a2, a3, a4⟩ := x3 s hs
  refine ⟨by rw [h10 s hs, a1, e5 55 (by omega) (by omega)], by rw [a2, e5 54 (by omega) (by omega)], by rw [a3, e5 56 (by omega) (by omega)], ?_⟩
  intro k1
  exfalso
  rw [e5 54 (by omega) (by omega), e52, v2, iN_add] at k1
  rcases (v3 s (by omega)).1 with hh | ⟨w, hw, hh⟩
  · rw [hh, nM_iN (by omega)] at k1; exact k1
  · rw [hh, iN_eq (by omega) (by omega)] at k1; omega
