theorem in_wsL_law0_r25 : ∀ w ∈ wsL_law0_r25, w ∈ lw_tbl := mem_ps [922, 923, 924, 925, 927, 15, 928, 931, 932, 933, 934, 935, 936, 937, 938, 939, 940, 941, 942, 943, 944, 945, 946, 947] (by decide +kernel)
theorem in_wsL_law0_r26 : ∀ w ∈ wsL_law0_r26, w ∈ lw_tbl := mem_ps [948, 949, 950, 951, 953, 16, 954, 956, 957, 958, 959, 960, 961, 963, 964, 965, 966, 967, 968, 969, 970, 972, 973, 974] (by decide +kernel)
set_option maxRecDepth 100000 in
theorem hv_r27_9 : Cond.code yX10_mendToTry cX10_mendToTry 13 (some .int) ∈ lw_tbl := tb_4 (List.mem_of_getElem? (i := 236) rfl)
set_option maxRecDepth 100000 in
theorem in_wsL_law0_r27 : ∀ w ∈ wsL_law0_r27, w ∈ lw_tbl := row_in (ws := wsL_law0_r27) 9 rfl (mem_ps [975, 976, 977, 979, 17, 980, 981, 983, 18] (by decide +kernel)) hv_r27_9 (mem_ps [985, 986, 987, 988, 989, 991, 19, 992, 993, 994, 995, 996, 997, 998] (by decide +kernel))
theorem in_wsL_law0_r28 : ∀ w ∈ wsL_law0_r28, w ∈ lw_tbl := mem_ps [999, 1000, 1001, 1002, 1003, 1004, 1005, 1006, 1007, 1008, 1009, 1010, 1011, 1012, 1013, 1014, 1015, 1016, 1017, 1018, 1019, 1020, 1021, 1022] (by decide +kernel)
theorem in_wsL_law0_r29 : ∀ w ∈ wsL_law0_r29, w ∈ lw_tbl := mem_ps [1023, 1024, 1025, 1026, 1027, 1028, 1029, 1030, 1031, 1032, 1033, 1034, 1035, 1036, 1037, 1038, 1040, 20, 1041, 1042, 1043, 1044, 1045, 1046] (by decide +kernel)
theorem in_wsL_law0_r30 : ∀ w ∈ wsL_law0_r30, w ∈ lw_tbl := mem_ps [1047, 1048, 1049, 1050, 1051, 1052, 1053, 1054, 1055, 1056, 1057, 1058, 1059, 1060, 1061, 1062, 1063, 1064, 1065, 1066, 1067, 1069, 21, 1070] (by decide +kernel)
