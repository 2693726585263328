theorem in_wsL_law0_r13 : ∀ w ∈ wsL_law0_r13, w ∈ lw_tbl := mem_ps [621, 622, 623, 624, 625, 626, 627, 631, 632, 633, 634, 636, 637, 638, 639, 640, 641, 642, 643, 644, 645, 646, 647, 648] (by decide +kernel)
set_option maxRecDepth 100000 in
theorem hv_r14_18 : Cond.code yL_texts cL_texts 12 (some .boolean) ∈ lw_tbl := tb_3 (List.mem_of_getElem? (i := 163) rfl)
set_option maxRecDepth 100000 in
theorem in_wsL_law0_r14 : ∀ w ∈ wsL_law0_r14, w ∈ lw_tbl := row_in (ws := wsL_law0_r14) 18 rfl (mem_ps [649, 650, 653, 654, 655, 656, 658, 659, 660, 661, 662, 664, 665, 666, 667, 668, 669, 670] (by decide +kernel)) hv_r14_18 (mem_ps [672, 673, 674, 675, 676] (by decide +kernel))
theorem in_wsL_law0_r15 : ∀ w ∈ wsL_law0_r15, w ∈ lw_tbl := mem_ps [677, 678, 679, 681, 5, 682, 684, 685, 686, 687, 689, 690, 691, 692, 693, 694, 695, 696, 697, 698, 699, 701, 702, 703] (by decide +kernel)
theorem in_wsL_law0_r16 : ∀ w ∈ wsL_law0_r16, w ∈ lw_tbl := mem_ps [704, 705, 706, 707, 708, 709, 710, 711, 712, 713, 714, 715, 716, 717, 719, 6, 720, 721, 722, 723, 724, 725, 726, 727] (by decide +kernel)
theorem in_wsL_law0_r17 : ∀ w ∈ wsL_law0_r17, w ∈ lw_tbl := mem_ps [728, 737, 729, 730, 731, 732, 733, 734, 735, 736, 738, 739, 740, 741, 742, 743, 744, 745, 746, 747, 748, 749, 750, 751] (by decide +kernel)
theorem in_wsL_law0_r18 : ∀ w ∈ wsL_law0_r18, w ∈ lw_tbl := mem_ps [752, 753, 754, 756, 7, 757, 758, 760, 8, 761, 762, 763, 764, 765, 766, 767, 768, 769, 770, 771, 773, 9, 774, 775] (by decide +kernel)
