theorem in_strl : ∀ w ∈ strl.map (fun q => Cond.stringRef RX10 q.1 q.2), w ∈ lw_tbl := mem_ps [438, 478, 525, 530, 554, 555, 566, 571, 588, 597, 598, 603, 651, 652, 657, 663, 688, 962, 629, 630, 635, 1082, 515, 683, 700, 1097, 1107, 930] (by decide +kernel)
theorem in_exl : ∀ w ∈ exl.map (fun X => Cond.castable X X), w ∈ lw_tbl := mem_ps [508, 399, 471] (by decide +kernel)
theorem in_dcl : ∀ w ∈ dcl.map (fun Y => Cond.declares (Bundle.initS Y)), w ∈ lw_tbl := mem_ps [401, 403, 405] (by decide +kernel)
