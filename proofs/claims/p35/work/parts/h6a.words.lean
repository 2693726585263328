/-! The words that the walks use stand in the tables, each by its place. -/
theorem mem_ps {big ws : List Cond} (ps : List Nat) (hp : ws = ps.filterMap (fun i => big[i]?)) : ∀ w ∈ ws, w ∈ big := by
  intro w hw
  rw [hp] at hw
  obtain ⟨i, -, hi⟩ := List.mem_filterMap.mp hw
  exact List.mem_of_getElem? hi
theorem app_in {P : Cond → Prop} {a b : List Cond} (ha : ∀ w ∈ a, P w) (hb : ∀ w ∈ b, P w) : ∀ w ∈ a ++ b, P w := List.forall_mem_append.mpr ⟨ha, hb⟩
theorem row_in {big ws : List Cond} (n : Nat) {h : Cond} (e : ws[n]? = some h) (h1 : ∀ w ∈ ws.take n, w ∈ big) (h2 : h ∈ big) (h3 : ∀ w ∈ ws.drop (n + 1), w ∈ big) : ∀ w ∈ ws, w ∈ big := by
  intro w hw
  obtain ⟨i, hi⟩ := List.getElem?_of_mem hw
  by_cases h4 : i < n
  · exact h1 w (List.mem_of_getElem? (i := i) (by rw [List.getElem?_take, if_pos h4]; exact hi))
  · by_cases h5 : i = n
    · rw [h5, e] at hi
      exact Option.some.inj hi ▸ h2
    · exact h3 w (List.mem_of_getElem? (i := i - (n + 1)) (by rw [List.getElem?_drop, show n + 1 + (i - (n + 1)) = i by omega]; exact hi))
theorem tb_of {w : Cond} (h : w ∈ tables_1) : w ∈ lw_tbl := List.mem_append_right _ h
theorem tb_1 {w : Cond} (h : w ∈ tables_1_1) : w ∈ lw_tbl := tb_of (List.mem_append_left _ h)
theorem tb_2 {w : Cond} (h : w ∈ tables_1_2) : w ∈ lw_tbl := tb_of (List.mem_append_right _ (List.mem_append_left _ h))
theorem tb_3 {w : Cond} (h : w ∈ tables_1_3) : w ∈ lw_tbl := tb_of (List.mem_append_right _ (List.mem_append_right _ (List.mem_append_left _ h)))
theorem tb_4 {w : Cond} (h : w ∈ tables_1_4) : w ∈ lw_tbl := tb_of (List.mem_append_right _ (List.mem_append_right _ (List.mem_append_right _ (List.mem_append_left _ h))))
theorem tb_5 {w : Cond} (h : w ∈ tables_1_5) : w ∈ lw_tbl := tb_of (List.mem_append_right _ (List.mem_append_right _ (List.mem_append_right _ (List.mem_append_right _ (List.mem_append_left _ h)))))
theorem tb_6 {w : Cond} (h : w ∈ tables_1_6) : w ∈ lw_tbl := tb_of (List.mem_append_right _ (List.mem_append_right _ (List.mem_append_right _ (List.mem_append_right _ (List.mem_append_right _ h)))))
theorem in_wsL_law0_r1 : ∀ w ∈ wsL_law0_r1, w ∈ lw_tbl := mem_ps [48, 49, 29, 81, 1287, 50, 51, 52, 53, 54, 55, 56, 57, 30, 335, 82, 83, 31, 336, 108, 109, 32, 337, 165] (by decide +kernel)
theorem in_wsL_law0_r2 : ∀ w ∈ wsL_law0_r2, w ∈ lw_tbl := mem_ps [166, 33, 338, 184, 185, 34, 339, 191, 192, 35, 340, 213, 214, 36, 341, 232, 233, 37, 342, 254, 343, 256, 38, 344] (by decide +kernel)
theorem in_wsL_law0_r3 : ∀ w ∈ wsL_law0_r3, w ∈ lw_tbl := mem_ps [345, 346, 347, 59, 60, 61, 62, 63, 64, 65, 66, 67, 85, 86, 87, 88, 107, 89, 90, 91, 92, 93, 111, 112] (by decide +kernel)
theorem in_wsL_law0_r4 : ∀ w ∈ wsL_law0_r4, w ∈ lw_tbl := mem_ps [113, 114, 116, 117, 118, 119, 120, 122, 123, 124, 125, 126, 127, 128, 129, 132, 168, 169, 170, 171, 173, 175, 187, 188] (by decide +kernel)
theorem in_wsL_law0_r5 : ∀ w ∈ wsL_law0_r5, w ∈ lw_tbl := mem_ps [189, 194, 195, 196, 197, 198, 199, 200, 201, 216, 217, 218, 219, 220, 221, 222, 235, 236, 237, 238, 239, 240, 241, 242] (by decide +kernel)
theorem in_wsL_law0_r6 : ∀ w ∈ wsL_law0_r6, w ∈ lw_tbl := mem_ps [258, 259, 260, 296, 302, 303, 304, 305, 306, 261, 262, 39, 307, 310, 313, 264, 265, 266, 267, 269, 270, 271, 272, 273] (by decide +kernel)
