theorem X0_tell {x : Ob} {σ : Nat} (h : σ < 288) (g pl pr rel : Int32) : f_X0_tellUse x (iN σ) g pl pr rel = some (upo (upo (upo (upo x 5 σ g) 6 σ pl) 7 σ pr) 8 σ rel) := by
  simp (disch := omega) only [f_X0_tellUse, ↓nM_lit, iN_lit, iN_add, iN_mul, iN_lt, iN_le, iN_eq, iN_c, gd_iN, iN_nM, nM_iN, iN_ltM, nM_lt, nM_le, iN_leM, iN_0M, nM_p1, iN_0s1, decide_true, decide_eq_true_eq, Nat.not_lt_zero, if_true, if_false, eq_grd, eq_lb, eq_b1, eq_b2, eq_b3, eq_b4, eq_b5, h, show ¬ (288 ≤ σ) by omega]
theorem X0_tell_no (x : Ob) (g pl pr rel : Int32) : f_X0_tellUse x nM g pl pr rel = some x := by
  rw [f_X0_tellUse, if_pos (by decide)]
theorem getD_mem {l : List Tr} {i : Nat} (h : i < l.length) : l.getD i dum ∈ l := by
  rw [List.getD_eq_getElem?_getD, List.getElem?_eq_getElem h, Option.getD_some]
  exact List.getElem_mem h
/-- an edge added by the class, with how it was made -/
theorem X0_put {x G : Ob} {ch : Ch} {b m P : Nat} (hG : WGr G) (hI : Iv G ch b m P) (hx : RCh x G ch) {t : Tr} (ht : WT G t) (hb : tB t = b) (hw : tW t = m) (hu : isUn G t → nn (tC G t) < P) (hP : P ≤ nn (tC G t) + 1)
    {g pl pr rel : Int32} (hRC : ∀ σ y, σ < 288 → σ / 8 = 6 * b + m - 1 → RCb y σ (tC G t) (iN (tF G t)) (tK G t) g pl pr rel → (∀ u σ', WT G u → RC x G u σ' → tB u + tW u ≤ 6 → (tW u < m ∨ (tW u = m ∧ tB u = b ∧ nn (tC G u) < nn (tC G t) ∧ σ' % 8 < nn (x 1 (6 * b + m - 1)))) → RC y G u σ') → nn (x 1 (6 * b + m - 1)) ≤ nn (y 1 (6 * b + m - 1)) → RC y G t σ) :
    wp (bnd2 (f_X0_add x (iN (6 * b + m - 1)) (tC G t) (iN (tF G t)) (tK G t)) (fun r y => f_X0_tellUse y r g pl pr rel)) (fun y => RCh y G (addE G ch (6 * b + m - 1) t) ∧ Iv G (addE G ch (6 * b + m - 1) t) b m P ∧ y 0 = x 0) := by
  obtain ⟨i1, i2, i3, i4, i5, i6⟩ := id hI
  have hs : 6 * b + m - 1 < 36 := by omega
  have hIv := Iv_add hI ht hb hw hu
  have htF := tF_lt hG t ht
  obtain ⟨tc, htc, etc⟩ := tC_le hG t ht
  simp only [wp_some, wp_grd, wp_lb, wp_ite, wp_b1, wp_b2, wp_b3, wp_b4, wp_b5]
  refine wp_mono (X0_add hx hG hs (i5 _) (fun u hu => (i3 _ u hu).1) htF) ?_
  rintro ⟨r1, r2⟩ hr
  simp only at hr ⊢
  rcases hr with ⟨e1, e2, e3⟩ | ⟨i, n, hi, hn, e1, e2, e3⟩
  · rw [e1, e2, X0_tell_no, wp_some, e3]
    exact ⟨hx, hI, rfl⟩
  · rw [e1, e2, X0_tell (by omega), wp_some]
    refine ⟨?_, hIv, ?_⟩
    · have ex : ∀ y, y = upo (upo (upo (upo (upo (upo (upo (upo x 1 (6 * b + m - 1) (iN n)) 2 (8 * (6 * b + m - 1) + i) (tC G t)) 3 (8 * (6 * b + m - 1) + i) (iN (tF G t))) 4 (8 * (6 * b + m - 1) + i) (tK G t)) 5 (8 * (6 * b + m - 1) + i) g) 6 (8 * (6 * b + m - 1) + i) pl) 7 (8 * (6 * b + m - 1) + i) pr) 8 (8 * (6 * b + m - 1) + i) rel → RCh y G (addE G ch (6 * b + m - 1) t) := by
        intro y hy
        have hag : ∀ σ, σ ≠ 8 * (6 * b + m - 1) + i → ∀ k, 2 ≤ k → k ≤ 8 → y k σ = x k σ := by
          intro σ hσ k k1 k2
          rw [hy]
          simp only [upo_ap, hσ, and_false, if_false, show ¬ (k = 1) by omega, false_and]
        have hy1 : ∀ s, y 1 s = if s = 6 * b + m - 1 then iN n else x 1 s := by
          intro s
          rw [hy]
          simp only [upo_ap, show ¬ (1 = 2) by decide, show ¬ (1 = 3) by decide, show ¬ (1 = 4) by decide, show ¬ (1 = 5) by decide, show ¬ (1 = 6) by decide, show ¬ (1 = 7) by decide, show ¬ (1 = 8) by decide, false_and, if_false, true_and]
        have hself : RCb y (8 * (6 * b + m - 1) + i) (tC G t) (iN (tF G t)) (tK G t) g pl pr rel := by
          rw [hy]
          unfold RCb
          simp [upo_ap]
        have hlen := (hx (6 * b + m - 1) hs).1
        have hln : nn (x 1 (6 * b + m - 1)) = (ch (6 * b + m - 1)).length := by
          have := i5 (6 * b + m - 1)
          rw [hlen, nn, iN_c (by omega)]
        have h1 : ∀ s, s < 36 → nn (x 1 s) ≤ nn (y 1 s) := by
          intro s _
          rw [hy1]
          split
          · rename_i e; subst e
            rw [hln, nn, iN_c (by omega)]
            rcases e3 with ⟨-, h, -⟩ | ⟨h, h', -⟩ <;> omega
          · exact Nat.le_refl _
        have hf : nn (x 1 (6 * b + m - 1)) ≤ (8 * (6 * b + m - 1) + i) % 8 ∨ nn (x 2 (8 * (6 * b + m - 1) + i)) = nn (tC G t) := by
          rcases e3 with ⟨h, -, h', -⟩ | ⟨h, -⟩
          · right
            rw [(RC_2 ((hx _ hs).2 i h)).1, h']
          · left; omega
        have mono := RC_mono (P := nn (tC G t)) hG i1 i2 (show (8 * (6 * b + m - 1) + i) / 8 = 6 * b + m - 1 by omega) hag h1 hf
        have hnew : RC y G t (8 * (6 * b + m - 1) + i) := by
          refine hRC _ y (by omega) (by omega) hself ?_ (h1 _ hs)
          intro u σ' hu1 hu2 hu3 hu4
          refine mono u σ' hu1 hu2 hu3 ?_
          rcases hu4 with h | ⟨h, h', h'', h3⟩
          · exact Or.inl h
          · refine Or.inr (Or.inr ⟨h, h', ?_, fun _ => by omega⟩)
            intro e; subst e
            rcases hf with hf | hf
            · omega
            · rw [(RC_2 hu2).1] at hf; omega
        -- every other edge
        have hold : ∀ s, s < 36 → ∀ j, j < (ch s).length → 8 * s + j ≠ 8 * (6 * b + m - 1) + i → RC y G ((ch s).getD j dum) (8 * s + j) := by
          intro s hs' j hj hne
          obtain ⟨w1, w2, w3⟩ := i3 s _ (getD_mem hj)
          have hp := tW_pos _ w1
          refine mono _ _ w1 ((hx s hs').2 j hj) w3 ?_
          by_cases hm : s % 6 < m
          · have hsp := sp_mod hp w3
            have hsp' : 6 * tB ((ch s).getD j dum) + tW ((ch s).getD j dum) - 1 = s := w2
            rw [hsp'] at hsp
            by_cases hlt : tW ((ch s).getD j dum) < m
            · exact Or.inl hlt
            · by_cases hbb : tB ((ch s).getD j dum) = b
              · refine Or.inr (Or.inr ⟨by omega, hbb, hne, ?_⟩)
                intro hun
                have hse : s = 6 * b + m - 1 := by omega
                have := i6 _ (by rw [← hse]; exact getD_mem hj) hun
                omega
              · exact Or.inr (Or.inl ⟨by omega, hbb⟩)
          · rw [i4 s (by omega)] at hj; exact absurd hj (Nat.not_lt_zero j)
        intro s hs'
        by_cases hse : s = 6 * b + m - 1
        · subst hse
          rw [hy1, if_pos rfl]
          rcases e3 with ⟨h, h', h'', h3⟩ | ⟨h, h', h3⟩
          · rw [h3]
            simp only [upL, if_true, List.length_set]
            refine ⟨by rw [h'], ?_⟩
            intro j hj
            rw [List.getD_eq_getElem?_getD, List.getElem?_set]
            by_cases hji : i = j
            · subst hji; rw [if_pos rfl, if_pos h, Option.getD_some]; exact hnew
            · rw [if_neg hji]
              have := hold _ hs j hj (by omega)
              rw [List.getD_eq_getElem?_getD] at this
              exact this
          · rw [h3]
            simp only [upL, if_true, List.length_append, List.length_singleton]
            refine ⟨by rw [h', h], ?_⟩
            intro j hj
            rw [List.getD_eq_getElem?_getD]
            by_cases hji : j < (ch (6 * b + m - 1)).length
            · rw [List.getElem?_append_left hji]
              have := hold _ hs j hji (by omega)
              rw [List.getD_eq_getElem?_getD] at this
              exact this
            · have ej : j = (ch (6 * b + m - 1)).length := by omega
              rw [ej, List.getElem?_append_right (Nat.le_refl _), Nat.sub_self]
              simp only [List.getElem?_cons_zero, Option.getD_some]
              rw [← h]; exact hnew
        · rw [addE_ne hse, hy1, if_neg hse]
          refine ⟨(hx s hs').1, ?_⟩
          intro j hj
          refine hold s hs' j hj ?_
          have := i5 s
          omega
      exact ex _ rfl
    · rw [upo_ne (by decide), upo_ne (by decide), upo_ne (by decide), upo_ne (by decide), upo_ne (by decide), upo_ne (by decide), upo_ne (by decide), upo_ne (by decide)]
