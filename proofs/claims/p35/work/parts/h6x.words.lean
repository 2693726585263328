/-! The words that the walks use stand in the tables, each by its place. -/
theorem mem_ps {big ws : List Cond} (ps : List Nat) (hp : ws = ps.filterMap (fun i => big[i]?)) : ∀ w ∈ ws, w ∈ big := by
  intro w hw
  rw [hp] at hw
  obtain ⟨i, -, hi⟩ := List.mem_filterMap.mp hw
  exact List.mem_of_getElem? hi
theorem app_in {P : Cond → Prop} {a b : List Cond} (ha : ∀ w ∈ a, P w) (hb : ∀ w ∈ b, P w) : ∀ w ∈ a ++ b, P w := List.forall_mem_append.mpr ⟨ha, hb⟩
theorem in_wsL_law0_r1 : ∀ w ∈ wsL_law0_r1, w ∈ lw_tbl := mem_ps [48, 49, 29, 81, 1287, 50, 51, 52, 53, 54, 55, 56, 57, 30, 335, 82, 83, 31, 336, 108, 109, 32, 337, 165] (by decide +kernel)
theorem in_wsL_law0_r2 : ∀ w ∈ wsL_law0_r2, w ∈ lw_tbl := mem_ps [166, 33, 338, 184, 185, 34, 339, 191, 192, 35, 340, 213, 214, 36, 341, 232, 233, 37, 342, 254, 343, 256, 38, 344] (by decide +kernel)
theorem in_wsL_law0_r3 : ∀ w ∈ wsL_law0_r3, w ∈ lw_tbl := mem_ps [345, 346, 347, 59, 60, 61, 62, 63, 64, 65, 66, 67, 85, 86, 87, 88, 107, 89, 90, 91, 92, 93, 111, 112] (by decide +kernel)
theorem in_wsL_law0_r4 : ∀ w ∈ wsL_law0_r4, w ∈ lw_tbl := mem_ps [113, 114, 116, 117, 118, 119, 120, 122, 123, 124, 125, 126, 127, 128, 129, 132, 168, 169, 170, 171, 173, 175, 187, 188] (by decide +kernel)
theorem in_wsL_law0_r5 : ∀ w ∈ wsL_law0_r5, w ∈ lw_tbl := mem_ps [189, 194, 195, 196, 197, 198, 199, 200, 201, 216, 217, 218, 219, 220, 221, 222, 235, 236, 237, 238, 239, 240, 241, 242] (by decide +kernel)
theorem in_wsL_law0_r6 : ∀ w ∈ wsL_law0_r6, w ∈ lw_tbl := mem_ps [258, 259, 260, 296, 302, 303, 304, 305, 306, 261, 262, 39, 307, 310, 313, 264, 265, 266, 267, 269, 270, 271, 272, 273] (by decide +kernel)
theorem in_wsL_law0_r7 : ∀ w ∈ wsL_law0_r7, w ∈ lw_tbl := mem_ps [274, 275, 276, 375, 376, 28, 377, 378, 379, 380, 381, 382, 383, 384, 385, 386, 387, 388, 389, 390, 391, 392, 393, 397] (by decide +kernel)
theorem in_wsL_law0_r8 : ∀ w ∈ wsL_law0_r8, w ∈ lw_tbl := mem_ps [43, 469, 44, 394, 395, 396, 465, 466, 467, 468, 485, 486, 487, 488, 490, 491, 492, 493, 494, 495, 496, 497, 498, 500] (by decide +kernel)
theorem in_wsL_law0_r9 : ∀ w ∈ wsL_law0_r9, w ∈ lw_tbl := mem_ps [1, 501, 506, 45, 502, 503, 504, 505, 522, 523, 524, 526, 527, 528, 529, 531, 532, 533, 534, 535, 536, 537, 538, 539] (by decide +kernel)
theorem in_wsL_law0_r10 : ∀ w ∈ wsL_law0_r10, w ∈ lw_tbl := mem_ps [541, 2, 542, 543, 544, 545, 546, 547, 548, 549, 550, 551, 552, 553, 556, 557, 558, 559, 560, 561, 562, 563, 564, 565] (by decide +kernel)
theorem in_wsL_law0_r11 : ∀ w ∈ wsL_law0_r11, w ∈ lw_tbl := mem_ps [567, 568, 569, 570, 572, 573, 574, 575, 576, 578, 3, 579, 581, 582, 583, 584, 585, 586, 587, 589, 590, 591, 592, 593] (by decide +kernel)
theorem in_wsL_law0_r12 : ∀ w ∈ wsL_law0_r12, w ∈ lw_tbl := mem_ps [594, 595, 596, 599, 600, 601, 602, 604, 605, 606, 607, 609, 611, 4, 612, 613, 614, 46, 615, 616, 617, 618, 619, 620] (by decide +kernel)
theorem in_wsL_law0_r13 : ∀ w ∈ wsL_law0_r13, w ∈ lw_tbl := mem_ps [621, 622, 623, 624, 625, 626, 627, 631, 632, 633, 634, 636, 637, 638, 639, 640, 641, 642, 643, 644, 645, 646, 647, 648] (by decide +kernel)
theorem in_wsL_law0_r14 : ∀ w ∈ wsL_law0_r14, w ∈ lw_tbl := mem_ps [649, 650, 653, 654, 655, 656, 658, 659, 660, 661, 662, 664, 665, 666, 667, 668, 669, 670, 671, 672, 673, 674, 675, 676] (by decide +kernel)
theorem in_wsL_law0_r15 : ∀ w ∈ wsL_law0_r15, w ∈ lw_tbl := mem_ps [677, 678, 679, 681, 5, 682, 684, 685, 686, 687, 689, 690, 691, 692, 693, 694, 695, 696, 697, 698, 699, 701, 702, 703] (by decide +kernel)
theorem in_wsL_law0_r16 : ∀ w ∈ wsL_law0_r16, w ∈ lw_tbl := mem_ps [704, 705, 706, 707, 708, 709, 710, 711, 712, 713, 714, 715, 716, 717, 719, 6, 720, 721, 722, 723, 724, 725, 726, 727] (by decide +kernel)
theorem in_wsL_law0_r17 : ∀ w ∈ wsL_law0_r17, w ∈ lw_tbl := mem_ps [728, 737, 729, 730, 731, 732, 733, 734, 735, 736, 738, 739, 740, 741, 742, 743, 744, 745, 746, 747, 748, 749, 750, 751] (by decide +kernel)
theorem in_wsL_law0_r18 : ∀ w ∈ wsL_law0_r18, w ∈ lw_tbl := mem_ps [752, 753, 754, 756, 7, 757, 758, 760, 8, 761, 762, 763, 764, 765, 766, 767, 768, 769, 770, 771, 773, 9, 774, 775] (by decide +kernel)
theorem in_wsL_law0_r19 : ∀ w ∈ wsL_law0_r19, w ∈ lw_tbl := mem_ps [776, 777, 778, 780, 10, 781, 782, 783, 784, 785, 786, 787, 788, 789, 790, 791, 792, 793, 794, 795, 796, 797, 798, 799] (by decide +kernel)
theorem in_wsL_law0_r20 : ∀ w ∈ wsL_law0_r20, w ∈ lw_tbl := mem_ps [800, 801, 802, 803, 804, 805, 807, 11, 808, 809, 811, 12, 812, 813, 814, 815, 816, 817, 818, 819, 820, 821, 822, 823] (by decide +kernel)
