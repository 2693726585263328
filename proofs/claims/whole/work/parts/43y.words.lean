theorem in_strl : ∀ w ∈ strl.map (fun q => Cond.stringRef RX10 q.1 q.2), w ∈ lw_tbl := mem_ps [471, 511, 558, 563, 587, 588, 611, 616, 636, 648, 649, 654, 682, 683, 688, 694, 716, 1108, 1236, 1237, 1242, 1305, 548, 711, 731, 863, 967, 1069] (by decide +kernel)
theorem in_exl : ∀ w ∈ exl.map (fun X => Cond.castable X X), w ∈ lw_tbl := mem_ps [541, 432, 504] (by decide +kernel)
theorem in_dcl : ∀ w ∈ dcl.map (fun Y => Cond.declares (Bundle.initS Y)), w ∈ lw_tbl := mem_ps [434, 436, 438] (by decide +kernel)
