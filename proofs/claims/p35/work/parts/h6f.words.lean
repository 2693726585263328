theorem in_wsL_law0_r31 : ∀ w ∈ wsL_law0_r31, w ∈ lw_tbl := mem_ps [1071, 1073, 22, 1074, 1075, 1076, 1078, 23, 1079, 1080, 1081, 1083, 1084, 1085, 1086, 1087, 1088, 1089, 1090, 1091, 1092, 1093, 1094, 1095] (by decide +kernel)
set_option maxRecDepth 100000 in
theorem hv_r32_22 : Cond.code yL_patterns cL_patterns 11 (some .boolean) ∈ lw_tbl := tb_5 (List.mem_of_getElem? (i := 132) rfl)
set_option maxRecDepth 100000 in
theorem in_wsL_law0_r32 : ∀ w ∈ wsL_law0_r32, w ∈ lw_tbl := row_in (ws := wsL_law0_r32) 22 rfl (mem_ps [1096, 1098, 1099, 1100, 1101, 1102, 1103, 1104, 1105, 1106, 1108, 1109, 1110, 1111, 1112, 1113, 1114, 1115, 1116, 1117, 1118, 1119] (by decide +kernel)) hv_r32_22 (mem_ps [1121] (by decide +kernel))
set_option maxRecDepth 100000 in
theorem hv_r33_16 : Cond.code yL_asks cL_asks 30 (some .boolean) ∈ lw_tbl := tb_5 (List.mem_of_getElem? (i := 150) rfl)
set_option maxRecDepth 100000 in
theorem hv_r33_22 : Cond.code yL_strikes cL_strikes 13 none ∈ lw_tbl := tb_5 (List.mem_of_getElem? (i := 156) rfl)
set_option maxRecDepth 100000 in
theorem in_wsL_law0_r33 : ∀ w ∈ wsL_law0_r33, w ∈ lw_tbl := row_in (ws := wsL_law0_r33) 16 rfl (mem_ps [1122, 1123, 1124, 1125, 1126, 1127, 1128, 1129, 1130, 1131, 1132, 1133, 1134, 1135, 1136, 1137] (by decide +kernel)) hv_r33_16 (row_in (ws := (wsL_law0_r33).drop 17) 5 rfl (mem_ps [1139, 1140, 1141, 1142, 1143] (by decide +kernel)) hv_r33_22 (mem_ps [1145] (by decide +kernel)))
set_option maxRecDepth 100000 in
theorem hv_r34_10 : Cond.code yL_holds cL_holds 15 (some .boolean) ∈ lw_tbl := tb_5 (List.mem_of_getElem? (i := 168) rfl)
set_option maxRecDepth 100000 in
theorem hv_r34_13 : Cond.code yL_refers cL_refers 14 none ∈ lw_tbl := tb_5 (List.mem_of_getElem? (i := 171) rfl)
set_option maxRecDepth 100000 in
theorem in_wsL_law0_r34 : ∀ w ∈ wsL_law0_r34, w ∈ lw_tbl := row_in (ws := wsL_law0_r34) 10 rfl (mem_ps [1146, 1147, 1148, 1149, 1150, 1151, 1152, 1153, 1154, 1155] (by decide +kernel)) hv_r34_10 (row_in (ws := (wsL_law0_r34).drop 11) 2 rfl (mem_ps [1157, 1158] (by decide +kernel)) hv_r34_13 (mem_ps [1160, 1161, 1162, 1163, 1164, 1165, 1166, 1167, 1168, 1169] (by decide +kernel)))
theorem in_wsL_law0_r35 : ∀ w ∈ wsL_law0_r35, w ∈ lw_tbl := mem_ps [1170, 1171, 1172, 1173, 1174, 1175, 1176, 1177, 1178, 1179, 1180, 1181, 1182, 1183, 1184, 1185, 1186, 1187, 1188, 1189, 1190, 1191, 1192, 1193] (by decide +kernel)
theorem in_wsL_law0_r36 : ∀ w ∈ wsL_law0_r36, w ∈ lw_tbl := mem_ps [1194, 1195, 1196, 1198, 24, 1199, 1201, 1202, 1203, 1204, 1205, 1206, 1207, 1208, 1209, 1210, 1211, 1212, 1213, 1214, 1215, 1216, 1217, 1218] (by decide +kernel)
