/-! The law's rows of rules. -/
theorem LX_str {c w u x t g q nr h p k : Rw} {M : Ob} {j : Nat} (hX : LX c w u x t g q nr h p k M) (he : LXe M) (hV : VR M j) (hj : j < 1000000) {n : Nat} (c1 : c 1 = iN n) (hn : n < 4) {sn ct st o b b' : Int32} (hsn : sn = iN 1 → b' = b ∧ cat0 b) : LX (upd (upd c 1 (iN (n + 1))) 4 (c 4 + iN 1)) w u x (upd (upd (upd (upd (upd t (5 * n) sn) (5 * n + 1) ct) (5 * n + 2) st) (5 * n + 3) o) (5 * n + 4) b') g q nr h p k (M9s (upo M 67 0 (iN 0)) n sn ct st o b) ∧ LXe (M9s (upo M 67 0 (iN 0)) n sn ct st o b) := by
  obtain ⟨x1, x2, ⟨m, hm, s1, e15, hs⟩, x4, x5, x6⟩ := hX
  have emn : m = n := by rw [s1, iN_eq (by omega) (by omega)] at c1; exact c1
  subst emn
  have u6 : ∀ k, k ≠ 67 → upo M 67 0 (iN 0) k = M k := fun k hk => upo_ne hk
  generalize upo M 67 0 (iN 0) = N at u6
  have eo : ∀ k, (k < 15 ∨ 20 < k) → k ≠ 52 → k ≠ 67 → M9s N m sn ct st o b k = M k := fun k h1 h52 h67 => by rw [M9s_o k ⟨h1, h52⟩, u6 k h67]
  have ek := fun i => M9s_k (N := N) (n := m) (sn := sn) (c := ct) (st := st) (o := o) (b := b) i
  rw [u6 16 (by decide), u6 17 (by decide), u6 18 (by decide), u6 19 (by decide), u6 20 (by decide)] at ek
  have e15' := M9s_15 (N := N) (n := m) (sn := sn) (c := ct) (st := st) (o := o) (b := b)
  have e52 : M9s N m sn ct st o b 52 0 = M 52 0 + iN 1 := by rw [M9s_52, u6 52 (by decide)]
  generalize M9s N m sn ct st o b = M' at eo ek e15' e52
  have ec : ∀ k, k ≠ 1 → k ≠ 4 → upd (upd c 1 (iN (m + 1))) 4 (c 4 + iN 1) k = c k := fun k h1 h4 => by rw [upd_ne h4, upd_ne h1]
  refine ⟨⟨LXw_cg (ec 0 (by decide) (by decide)) (fun k _ _ => eo k (by omega) (by omega) (by omega)) x1, LXt_cg (fun s hs => ec _ (by omega) (by omega)) (eo 9 (by omega) (by omega) (by omega)) (eo 10 (by omega) (by omega) (by omega)) x2, ⟨m + 1, by omega, by rw [upd_ne (by decide), upd_eq], e15', ?_⟩, LXg_cg (ec 2 (by decide) (by decide)) (fun k _ _ => eo k (by omega) (by omega) (by omega)) x4, LXp_cg (ec 3 (by decide) (by decide)) (fun k _ _ => eo k (by omega) (by omega) (by omega)) x5, LXh_up x6 hV hj e52 (fun k _ _ => eo k (by omega) (by omega) (by omega)) (upd_eq _ _ _) (ec 5 (by decide) (by decide)) (fun s hs => ec _ (by omega) (by omega))⟩, ?_⟩
  · intro i hi
    obtain ⟨k1, k2, k3, k4, k5⟩ := ek i
    rw [k1, k2, k3, k4, k5]
    by_cases him : i = m
    · subst him
      rw [if_pos rfl, if_pos rfl, if_pos rfl, if_pos rfl, if_pos rfl]
      refine ⟨by rw [upd_ne (by omega), upd_ne (by omega), upd_ne (by omega), upd_ne (by omega), upd_eq], by rw [upd_ne (by omega), upd_ne (by omega), upd_ne (by omega), upd_eq], by rw [upd_ne (by omega), upd_ne (by omega), upd_eq], by rw [upd_ne (by omega), upd_eq], fun hh => by rw [upd_eq]; exact (hsn hh).1⟩
    · rw [if_neg him, if_neg him, if_neg him, if_neg him, if_neg him]
      obtain ⟨y1, y2, y3, y4, y5⟩ := hs i (by omega)
      refine ⟨by rw [upd_ne (by omega), upd_ne (by omega), upd_ne (by omega), upd_ne (by omega), upd_ne (by omega)]; exact y1, by rw [upd_ne (by omega), upd_ne (by omega), upd_ne (by omega), upd_ne (by omega), upd_ne (by omega)]; exact y2, by rw [upd_ne (by omega), upd_ne (by omega), upd_ne (by omega), upd_ne (by omega), upd_ne (by omega)]; exact y3, by rw [upd_ne (by omega), upd_ne (by omega), upd_ne (by omega), upd_ne (by omega), upd_ne (by omega)]; exact y4, fun hh => by rw [upd_ne (by omega), upd_ne (by omega), upd_ne (by omega), upd_ne (by omega), upd_ne (by omega)]; exact y5 hh⟩
  · intro i hi h16
    obtain ⟨k1, k2, k3, k4, k5⟩ := ek i
    rw [e15', nnI (by omega)] at hi
    rw [k1] at h16
    rw [k5]
    by_cases him : i = m
    · rw [if_pos him] at h16 ⊢
      exact (hsn h16).2
    · rw [if_neg him] at h16 ⊢
      refine he i ?_ h16
      rw [e15, nnI (by omega)]; omega
theorem LX_rule {c w u x t g q nr h p k : Rw} {M : Ob} {j : Nat} (hX : LX c w u x t g q nr h p k M) (hV : VR M j) (hz : ZE M) (hj : j < 1000000) {n : Nat} (c1 : c 2 = iN n) (hn : n < 5) (p1 p2 p3 p4 : Int32) : LX (upd (upd c 2 (iN (n + 1))) 4 (c 4 + iN 1)) w u x t (upd (upd (upd (upd g (4 * n) p1) (4 * n + 1) p2) (4 * n + 2) p3) (4 * n + 3) p4) q nr h p k (M9u (upo M 67 0 (iN 0)) n p1 p2 p3 p4) := by
  obtain ⟨x1, x2, x3, ⟨m, hm, s1, e21, hg, hg0⟩, x5, x6⟩ := hX
  have emn : m = n := by rw [s1, iN_eq (by omega) (by omega)] at c1; exact c1
  subst emn
  have u6 : ∀ k, k ≠ 67 → upo M 67 0 (iN 0) k = M k := fun k hk => upo_ne hk
  generalize upo M 67 0 (iN 0) = N at u6
  have eo : ∀ k, (k < 21 ∨ 25 < k) → k ≠ 52 → k ≠ 67 → M9u N m p1 p2 p3 p4 k = M k := fun k h1 h52 h67 => by rw [M9u_o k ⟨h1, h52⟩, u6 k h67]
  have ek := fun i => M9u_k (N := N) (n := m) (p := p1) (l := p2) (r := p3) (hd := p4) i
  rw [u6 22 (by decide), u6 23 (by decide), u6 24 (by decide), u6 25 (by decide)] at ek
  have e52 : M9u N m p1 p2 p3 p4 52 0 = M 52 0 + iN 1 := by rw [M9u_52, u6 52 (by decide)]
  generalize M9u N m p1 p2 p3 p4 = M' at eo ek e52
  have ec : ∀ k, k ≠ 2 → k ≠ 4 → upd (upd c 2 (iN (m + 1))) 4 (c 4 + iN 1) k = c k := fun k h1 h4 => by rw [upd_ne h4, upd_ne h1]
  have em : M 26 m = iN 0 := hz m (by rw [e21, nnI (by omega)]; exact Nat.le_refl m) (by omega)
  refine ⟨LXw_cg (ec 0 (by decide) (by decide)) (fun k _ _ => eo k (by omega) (by omega) (by omega)) x1, LXt_cg (fun s hs => ec _ (by omega) (by omega)) (eo 9 (by omega) (by omega) (by omega)) (eo 10 (by omega) (by omega) (by omega)) x2, LXs_cg (ec 1 (by decide) (by decide)) (fun k _ _ => eo k (by omega) (by omega) (by omega)) x3, ⟨m + 1, by omega, by rw [upd_ne (by decide), upd_eq], (ek 0).1, ?_, fun r h1 h2 => hg0 r (by omega) h2⟩, LXp_cg (ec 3 (by decide) (by decide)) (fun k _ _ => eo k (by omega) (by omega) (by omega)) x5, LXh_up x6 hV hj e52 (fun k _ _ => eo k (by omega) (by omega) (by omega)) (upd_eq _ _ _) (ec 5 (by decide) (by decide)) (fun s hs => ec _ (by omega) (by omega))⟩
  intro i hi
  obtain ⟨-, k1, k2, k3, k4⟩ := ek i
  rw [k1, k2, k3, eo 26 (by omega) (by omega) (by omega), eo 27 (by omega) (by omega) (by omega), eo 28 (by omega) (by omega) (by omega), eo 29 (by omega) (by omega) (by omega), eo 30 (by omega) (by omega) (by omega)]
  by_cases him : i = m
  · subst him
    rw [if_pos rfl, if_pos rfl, if_pos rfl]
    refine ⟨by rw [upd_ne (by omega), upd_ne (by omega), upd_ne (by omega), upd_eq], by rw [upd_ne (by omega), upd_ne (by omega), upd_eq], by rw [upd_ne (by omega), upd_eq], by rw [em]; exact hg0 i (Nat.le_refl i) hn, ?_⟩
    intro k hk
    rw [em, nnI (by omega)] at hk
    omega
  · rw [if_neg him, if_neg him, if_neg him]
    obtain ⟨y1, y2, y3, y4⟩ := hg i (by omega)
    exact ⟨by rw [upd_ne (by omega), upd_ne (by omega), upd_ne (by omega), upd_ne (by omega)]; exact y1, by rw [upd_ne (by omega), upd_ne (by omega), upd_ne (by omega), upd_ne (by omega)]; exact y2, by rw [upd_ne (by omega), upd_ne (by omega), upd_ne (by omega), upd_ne (by omega)]; exact y3, y4⟩
theorem LX_equate {c w u x t g q nr h p k : Rw} {M : Ob} {j : Nat} (hX : LX c w u x t g q nr h p k M) (hV : VR M j) (hj : j < 1000000) {i e : Nat} (hi : i < nn (M 21 0)) (e26 : M 26 i = iN e) (he : e < 3) (h3 : ∀ z, z < nn (M 21 0) → nn (M 26 z) ≤ 3) (f a b d : Int32) : LX (upd c 4 (c 4 + iN 1)) w u x t g (upd (upd (upd (upd q (12 * i + e) f) (12 * i + e + 3) a) (12 * i + e + 6) b) (12 * i + e + 9) d) (upd nr i (iN (e + 1))) h p k (M9e (upo M 67 0 (iN 0)) i e f a b d) := by
  obtain ⟨x1, x2, x3, ⟨m, hm, s1, e21, hg, hg0⟩, x5, x6⟩ := hX
  have emn : nn (M 21 0) = m := by rw [e21, nnI (by omega)]
  rw [emn] at hi h3
  have u6 : ∀ k, k ≠ 67 → upo M 67 0 (iN 0) k = M k := fun k hk => upo_ne hk
  generalize upo M 67 0 (iN 0) = N at u6
  have eo : ∀ k, (k < 26 ∨ 30 < k) → k ≠ 52 → k ≠ 67 → M9e N i e f a b d k = M k := fun k h1 h52 h67 => by rw [M9e_o k ⟨h1, h52⟩, u6 k h67]
  have ek := fun z => M9e_k (N := N) (g := i) (e := e) (f := f) (a := a) (b := b) (c := d) z
  rw [u6 26 (by decide), u6 27 (by decide), u6 28 (by decide), u6 29 (by decide), u6 30 (by decide)] at ek
  have e52 : M9e N i e f a b d 52 0 = M 52 0 + iN 1 := by rw [M9e_52, u6 52 (by decide)]
  generalize M9e N i e f a b d = M' at eo ek e52
  have ec : ∀ k, k ≠ 4 → upd c 4 (c 4 + iN 1) k = c k := fun k h4 => upd_ne h4
  refine ⟨LXw_cg (ec 0 (by decide)) (fun k _ _ => eo k (by omega) (by omega) (by omega)) x1, LXt_cg (fun s hs => ec _ (by omega)) (eo 9 (by omega) (by omega) (by omega)) (eo 10 (by omega) (by omega) (by omega)) x2, LXs_cg (ec 1 (by decide)) (fun k _ _ => eo k (by omega) (by omega) (by omega)) x3, ⟨m, hm, by rw [ec 2 (by decide)]; exact s1, by rw [eo 21 (by omega) (by omega) (by omega)]; exact e21, ?_, fun r h1 h2 => by rw [upd_ne (by omega)]; exact hg0 r h1 h2⟩, LXp_cg (ec 3 (by decide)) (fun k _ _ => eo k (by omega) (by omega) (by omega)) x5, LXh_up x6 hV hj e52 (fun k _ _ => eo k (by omega) (by omega) (by omega)) (upd_eq _ _ _) (ec 5 (by decide)) (fun s hs => ec _ (by omega))⟩
  intro z hz
  obtain ⟨y1, y2, y3, y4, y5⟩ := hg z hz
  rw [eo 22 (by omega) (by omega) (by omega), eo 23 (by omega) (by omega) (by omega), eo 24 (by omega) (by omega) (by omega)]
  have e26z := (ek z).1
  refine ⟨y1, y2, y3, ?_, ?_⟩
  · rw [e26z]
    by_cases hzi : z = i
    · subst hzi; rw [upd_eq, if_pos rfl]
    · rw [upd_ne hzi, if_neg hzi]; exact y4
  · intro k hk
    rw [e26z] at hk
    obtain ⟨-, k1, k2, k3, k4⟩ := ek (3 * z + k)
    rw [k1, k2, k3, k4]
    have hk3 : k < 3 := by
      by_cases hzi : z = i
      · rw [if_pos hzi, nnI (by omega)] at hk; omega
      · rw [if_neg hzi] at hk
        have := h3 z hz
        omega
    by_cases hh : z = i ∧ k = e
    · obtain ⟨rfl, rfl⟩ := hh
      rw [if_pos rfl, if_pos rfl, if_pos rfl, if_pos rfl]
      exact ⟨by rw [upd_ne (by omega), upd_ne (by omega), upd_ne (by omega), upd_eq], by rw [upd_ne (by omega), upd_ne (by omega), upd_eq], by rw [upd_ne (by omega), upd_eq], upd_eq _ _ _⟩
    · have hne : 3 * z + k ≠ 3 * i + e := by omega
      have hk' : k < nn (M 26 z) := by
        by_cases hzi : z = i
        · subst hzi
          rw [if_pos rfl, nnI (by omega)] at hk
          rw [e26, nnI (by omega)]; omega
        · rw [if_neg hzi] at hk; exact hk
      rw [if_neg hne, if_neg hne, if_neg hne, if_neg hne]
      obtain ⟨v1, v2, v3, v4⟩ := y5 k hk'
      exact ⟨by rw [upd_ne (by omega), upd_ne (by omega), upd_ne (by omega), upd_ne (by omega)]; exact v1, by rw [upd_ne (by omega), upd_ne (by omega), upd_ne (by omega), upd_ne (by omega)]; exact v2, by rw [upd_ne (by omega), upd_ne (by omega), upd_ne (by omega), upd_ne (by omega)]; exact v3, by rw [upd_ne (by omega), upd_ne (by omega), upd_ne (by omega), upd_ne (by omega)]; exact v4⟩
