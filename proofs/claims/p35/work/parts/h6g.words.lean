theorem in_wsL_law0_r37 : ∀ w ∈ wsL_law0_r37, w ∈ lw_tbl := mem_ps [1219, 1221, 25, 1222, 1223, 1225, 26, 1226, 1227, 1229, 27, 1230, 1231, 1232, 1233, 1234, 1235, 1236, 1237, 1238, 1239, 1240, 1241, 1242] (by decide +kernel)
set_option maxRecDepth 100000 in
theorem hv_r38_13 : Cond.code yL_chart cL_chart 26 none ∈ lw_tbl := tb_6 (List.mem_of_getElem? (i := 27) rfl)
set_option maxRecDepth 100000 in
theorem in_wsL_law0_r38 : ∀ w ∈ wsL_law0_r38, w ∈ lw_tbl := row_in (ws := wsL_law0_r38) 13 rfl (mem_ps [1243, 1244, 47, 1245, 1246, 1247, 1248, 1249, 1250, 1251, 1252, 1253, 1254] (by decide +kernel)) hv_r38_13 (mem_ps [1256, 1257, 1258, 1259, 1260, 1261, 1262, 1263, 1264, 1265] (by decide +kernel))
set_option maxRecDepth 100000 in
theorem hv_r39_1 : Cond.code yL_use cL_use 16 (some .int) ∈ lw_tbl := tb_6 (List.mem_of_getElem? (i := 39) rfl)
set_option maxRecDepth 100000 in
theorem hv_r39_17 : Cond.code yL_fragments cL_fragments 20 (some .int) ∈ lw_tbl := tb_6 (List.mem_of_getElem? (i := 55) rfl)
set_option maxRecDepth 100000 in
theorem in_wsL_law0_r39 : ∀ w ∈ wsL_law0_r39, w ∈ lw_tbl := row_in (ws := wsL_law0_r39) 1 rfl (mem_ps [1266] (by decide +kernel)) hv_r39_1 (row_in (ws := (wsL_law0_r39).drop 2) 15 rfl (mem_ps [1271, 1268, 1269, 1270, 1272, 1273, 1274, 1275, 1276, 1277, 1278, 1279, 1280, 1281, 1282] (by decide +kernel)) hv_r39_17 (mem_ps [1286, 1284, 1285] (by decide +kernel)))
