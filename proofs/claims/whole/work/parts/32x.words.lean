/-! The words that the walks use stand in the tables, each by its place. -/
theorem mem_ps {big ws : List Cond} (ps : List Nat) (hp : ws = ps.filterMap (fun i => big[i]?)) : ∀ w ∈ ws, w ∈ big := by
  intro w hw
  rw [hp] at hw
  obtain ⟨i, -, hi⟩ := List.mem_filterMap.mp hw
  exact List.mem_of_getElem? hi
theorem app_in {P : Cond → Prop} {a b : List Cond} (ha : ∀ w ∈ a, P w) (hb : ∀ w ∈ b, P w) : ∀ w ∈ a ++ b, P w := List.forall_mem_append.mpr ⟨ha, hb⟩
theorem in_wsL_law0_r1 : ∀ w ∈ wsL_law0_r1, w ∈ lw_tbl := mem_ps [87, 88, 67, 1306, 1307, 78, 1819, 89, 90, 91, 92, 93, 94, 95, 96, 68, 374, 121, 122, 69, 375, 147, 148, 70] (by decide +kernel)
theorem in_wsL_law0_r2 : ∀ w ∈ wsL_law0_r2, w ∈ lw_tbl := mem_ps [376, 204, 205, 71, 377, 223, 224, 72, 378, 230, 231, 73, 379, 252, 253, 74, 380, 271, 272, 75, 381, 293, 382, 295] (by decide +kernel)
theorem in_wsL_law0_r3 : ∀ w ∈ wsL_law0_r3, w ∈ lw_tbl := mem_ps [76, 383, 120, 384, 385, 386, 98, 99, 100, 101, 102, 103, 104, 105, 106, 124, 125, 126, 127, 146, 128, 129, 130, 131] (by decide +kernel)
theorem in_wsL_law0_r4 : ∀ w ∈ wsL_law0_r4, w ∈ lw_tbl := mem_ps [132, 150, 151, 152, 153, 155, 156, 157, 158, 159, 161, 162, 163, 164, 165, 166, 167, 168, 171, 207, 208, 209, 210, 212] (by decide +kernel)
theorem in_wsL_law0_r5 : ∀ w ∈ wsL_law0_r5, w ∈ lw_tbl := mem_ps [214, 226, 227, 228, 233, 234, 235, 236, 237, 238, 239, 240, 255, 256, 257, 258, 259, 260, 261, 274, 275, 276, 277, 278] (by decide +kernel)
theorem in_wsL_law0_r6 : ∀ w ∈ wsL_law0_r6, w ∈ lw_tbl := mem_ps [279, 280, 281, 297, 298, 299, 335, 341, 342, 343, 344, 345, 300, 301, 77, 346, 349, 352, 303, 304, 305, 306, 308, 309] (by decide +kernel)
theorem in_wsL_law0_r7 : ∀ w ∈ wsL_law0_r7, w ∈ lw_tbl := mem_ps [310, 311, 312, 313, 314, 315, 1308, 1309, 1310, 1311, 1314, 1315, 1316, 1317, 1318, 1319, 1320, 1321, 1322, 1323, 1324, 1325, 1326, 1327] (by decide +kernel)
theorem in_wsL_law0_r8 : ∀ w ∈ wsL_law0_r8, w ∈ lw_tbl := mem_ps [1329, 1330, 1331, 1332, 1333, 1335, 1336, 1337, 1338, 1339, 1340, 1341, 1342, 1343, 1312, 1345, 1346, 1347, 1348, 1349, 1350, 1351, 1352, 1353] (by decide +kernel)
theorem in_wsL_law0_r9 : ∀ w ∈ wsL_law0_r9, w ∈ lw_tbl := mem_ps [1354, 1357, 1358, 1359, 1361, 1362, 1363, 1364, 1367, 1368, 1369, 1370, 1371, 1373, 1374, 1375, 1376, 1377, 1378, 1379, 418, 419, 66, 420] (by decide +kernel)
theorem in_wsL_law0_r10 : ∀ w ∈ wsL_law0_r10, w ∈ lw_tbl := mem_ps [421, 422, 423, 424, 425, 426, 430, 82, 502, 83, 427, 428, 429, 498, 499, 500, 501, 518, 519, 520, 521, 1522, 1523, 1524] (by decide +kernel)
theorem in_wsL_law0_r11 : ∀ w ∈ wsL_law0_r11, w ∈ lw_tbl := mem_ps [1525, 1313, 1526, 1527, 1528, 1529, 1530, 1531, 1532, 1534, 28, 1535, 1380, 1518, 1519, 1520, 1521, 523, 524, 525, 526, 527, 528, 529] (by decide +kernel)
theorem in_wsL_law0_r12 : ∀ w ∈ wsL_law0_r12, w ∈ lw_tbl := mem_ps [530, 531, 533, 1, 534, 539, 84, 535, 536, 537, 538, 555, 556, 557, 559, 560, 561, 562, 564, 565, 566, 567, 568, 569] (by decide +kernel)
theorem in_wsL_law0_r13 : ∀ w ∈ wsL_law0_r13, w ∈ lw_tbl := mem_ps [570, 571, 572, 574, 2, 575, 576, 577, 578, 579, 1536, 1537, 1538, 1539, 1365, 1540, 1542, 29, 1543, 1544, 1545, 1546, 1547, 1549] (by decide +kernel)
theorem in_wsL_law0_r14 : ∀ w ∈ wsL_law0_r14, w ∈ lw_tbl := mem_ps [30, 1550, 580, 581, 582, 583, 584, 585, 586, 1551, 1552, 1553, 1554, 589, 590, 591, 592, 593, 594, 595, 596, 597, 598, 599] (by decide +kernel)
theorem in_wsL_law0_r15 : ∀ w ∈ wsL_law0_r15, w ∈ lw_tbl := mem_ps [600, 601, 602, 603, 1555, 1556, 1557, 1558, 1559, 1561, 31, 1562, 1563, 1565, 32, 1566, 604, 605, 606, 607, 608, 609, 610, 612] (by decide +kernel)
theorem in_wsL_law0_r16 : ∀ w ∈ wsL_law0_r16, w ∈ lw_tbl := mem_ps [613, 614, 615, 617, 618, 619, 620, 621, 623, 3, 624, 1567, 1568, 1569, 1570, 1328, 1571, 1573, 33, 1574, 626, 627, 628, 629] (by decide +kernel)
theorem in_wsL_law0_r17 : ∀ w ∈ wsL_law0_r17, w ∈ lw_tbl := mem_ps [630, 631, 632, 633, 634, 635, 637, 638, 639, 640, 1575, 1576, 1577, 1578, 641, 642, 643, 644, 645, 646, 647, 650, 651, 652] (by decide +kernel)
theorem in_wsL_law0_r18 : ∀ w ∈ wsL_law0_r18, w ∈ lw_tbl := mem_ps [653, 655, 656, 657, 658, 660, 662, 4, 663, 664, 665, 85, 666, 667, 668, 669, 670, 1579, 1580, 1581, 1582, 1334, 671, 672] (by decide +kernel)
theorem in_wsL_law0_r19 : ∀ w ∈ wsL_law0_r19, w ∈ lw_tbl := mem_ps [673, 674, 675, 676, 677, 678, 679, 680, 681, 684, 685, 686, 687, 689, 690, 691, 692, 693, 695, 696, 697, 698, 699, 1583] (by decide +kernel)
theorem in_wsL_law0_r20 : ∀ w ∈ wsL_law0_r20, w ∈ lw_tbl := mem_ps [1584, 1585, 1586, 700, 701, 702, 703, 704, 705, 706, 707, 709, 5, 710, 712, 713, 714, 715, 717, 718, 719, 720, 1760, 1761] (by decide +kernel)
theorem in_wsL_law0_r21 : ∀ w ∈ wsL_law0_r21, w ∈ lw_tbl := mem_ps [1762, 1763, 1599, 1600, 1601, 721, 722, 723, 724, 725, 726, 727, 728, 729, 730, 732, 733, 734, 735, 736, 737, 738, 739, 1764] (by decide +kernel)
theorem in_wsL_law0_r22 : ∀ w ∈ wsL_law0_r22, w ∈ lw_tbl := mem_ps [1765, 1766, 1767, 1595, 1597, 35, 1598, 740, 741, 742, 743, 744, 745, 746, 747, 748, 749, 750, 1768, 1769, 1770, 1771, 751, 752] (by decide +kernel)
theorem in_wsL_law0_r23 : ∀ w ∈ wsL_law0_r23, w ∈ lw_tbl := mem_ps [753, 754, 755, 756, 757, 1772, 1773, 1774, 1775, 758, 759, 760, 761, 762, 763, 764, 1776, 1777, 1778, 1779, 765, 766, 767, 768] (by decide +kernel)
theorem in_wsL_law0_r24 : ∀ w ∈ wsL_law0_r24, w ∈ lw_tbl := mem_ps [769, 770, 771, 772, 774, 6, 775, 776, 777, 778, 779, 780, 781, 782, 783, 786, 784, 785, 787, 788, 789, 790, 791, 792] (by decide +kernel)
theorem in_wsL_law0_r25 : ∀ w ∈ wsL_law0_r25, w ∈ lw_tbl := mem_ps [793, 794, 795, 796, 797, 798, 799, 800, 801, 802, 803, 805, 7, 806, 807, 809, 8, 810, 811, 812, 813, 814, 815, 1780] (by decide +kernel)
theorem in_wsL_law0_r26 : ∀ w ∈ wsL_law0_r26, w ∈ lw_tbl := mem_ps [1781, 1782, 1783, 1606, 1608, 37, 1609, 1610, 1612, 38, 1613, 1614, 1616, 39, 1617, 1618, 1620, 40, 1621, 1622, 1624, 41, 1625, 1626] (by decide +kernel)
theorem in_wsL_law0_r27 : ∀ w ∈ wsL_law0_r27, w ∈ lw_tbl := mem_ps [1628, 42, 1629, 1630, 1632, 43, 1633, 1634, 1636, 44, 1637, 816, 817, 818, 819, 820, 821, 822, 823, 825, 9, 826, 827, 828] (by decide +kernel)
