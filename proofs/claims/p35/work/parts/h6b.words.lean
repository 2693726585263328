set_option maxRecDepth 100000 in
theorem hv_r7_13 : Cond.code yL_lexicon cL_lexicon 14 (some .boolean) ∈ lw_tbl := tb_2 (List.mem_of_getElem? (i := 116) rfl)
set_option maxRecDepth 100000 in
theorem in_wsL_law0_r7 : ∀ w ∈ wsL_law0_r7, w ∈ lw_tbl := row_in (ws := wsL_law0_r7) 13 rfl (mem_ps [274, 275, 276, 375, 376, 28, 377, 378, 379, 380, 381, 382, 383] (by decide +kernel)) hv_r7_13 (mem_ps [385, 386, 387, 388, 389, 390, 391, 392, 393, 397] (by decide +kernel))
theorem in_wsL_law0_r8 : ∀ w ∈ wsL_law0_r8, w ∈ lw_tbl := mem_ps [43, 469, 44, 394, 395, 396, 465, 466, 467, 468, 485, 486, 487, 488, 490, 491, 492, 493, 494, 495, 496, 497, 498, 500] (by decide +kernel)
theorem in_wsL_law0_r9 : ∀ w ∈ wsL_law0_r9, w ∈ lw_tbl := mem_ps [1, 501, 506, 45, 502, 503, 504, 505, 522, 523, 524, 526, 527, 528, 529, 531, 532, 533, 534, 535, 536, 537, 538, 539] (by decide +kernel)
set_option maxRecDepth 100000 in
theorem hv_r10_16 : Cond.code yL_grammar cL_grammar 18 (some .boolean) ∈ lw_tbl := tb_3 (List.mem_of_getElem? (i := 50) rfl)
set_option maxRecDepth 100000 in
theorem in_wsL_law0_r10 : ∀ w ∈ wsL_law0_r10, w ∈ lw_tbl := row_in (ws := wsL_law0_r10) 16 rfl (mem_ps [541, 2, 542, 543, 544, 545, 546, 547, 548, 549, 550, 551, 552, 553, 556, 557] (by decide +kernel)) hv_r10_16 (mem_ps [559, 560, 561, 562, 563, 564, 565] (by decide +kernel))
theorem in_wsL_law0_r11 : ∀ w ∈ wsL_law0_r11, w ∈ lw_tbl := mem_ps [567, 568, 569, 570, 572, 573, 574, 575, 576, 578, 3, 579, 581, 582, 583, 584, 585, 586, 587, 589, 590, 591, 592, 593] (by decide +kernel)
theorem in_wsL_law0_r12 : ∀ w ∈ wsL_law0_r12, w ∈ lw_tbl := mem_ps [594, 595, 596, 599, 600, 601, 602, 604, 605, 606, 607, 609, 611, 4, 612, 613, 614, 46, 615, 616, 617, 618, 619, 620] (by decide +kernel)
