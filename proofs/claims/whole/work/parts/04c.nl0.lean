theorem wl_app {P : Cond → Prop} {a b : List Cond} (h1 : ∀ w ∈ a, P w) (h2 : ∀ w ∈ b, P w) : ∀ w ∈ a ++ b, P w := fun w h => (List.mem_append.mp h).elim (h1 w) (h2 w)
set_option maxRecDepth 100000 in
theorem wl_r1 : ∀ w ∈ wsL_law0_r1, w ∈ lw_tbl := fun w h => (goodIn_p wsL_law0_r1 [82, 85] rfl (by decide +kernel) w h).1
set_option maxRecDepth 100000 in
theorem wl_r2 : ∀ w ∈ wsL_law0_r2, w ∈ lw_tbl := fun w h => (goodIn_p wsL_law0_r2 [90] rfl (by decide +kernel) w h).1
set_option maxRecDepth 100000 in
theorem wl_r3 : ∀ w ∈ wsL_law0_r3, w ∈ lw_tbl := fun w h => (goodIn_p wsL_law0_r3 [97, 103, 107, 187] rfl (by decide +kernel) w h).1
set_option maxRecDepth 100000 in
theorem wl_r4 : ∀ w ∈ wsL_law0_r4, w ∈ lw_tbl := fun w h => (goodIn_p wsL_law0_r4 [214, 232, 258] rfl (by decide +kernel) w h).1
set_option maxRecDepth 100000 in
theorem wl_r5 : ∀ w ∈ wsL_law0_r5, w ∈ lw_tbl := fun w h => (goodIn_p wsL_law0_r5 [264, 303, 315, 1091] rfl (by decide +kernel) w h).1
set_option maxRecDepth 100000 in
theorem wl_r6 : ∀ w ∈ wsL_law0_r6, w ∈ lw_tbl := fun w h => (goodIn_p wsL_law0_r6 [599] rfl (by decide +kernel) w h).1
set_option maxRecDepth 100000 in
theorem wl_r7 : ∀ w ∈ wsL_law0_r7, w ∈ lw_tbl := fun w h => (goodIn_p wsL_law0_r7 [602, 457, 461, 465, 397] rfl (by decide +kernel) w h).1
set_option maxRecDepth 100000 in
theorem wl_r8 : ∀ w ∈ wsL_law0_r8, w ∈ lw_tbl := fun w h => (goodIn_p wsL_law0_r8 [470, 474, 478, 481, 485, 406] rfl (by decide +kernel) w h).1
set_option maxRecDepth 100000 in
theorem wl_r9 : ∀ w ∈ wsL_law0_r9, w ∈ lw_tbl := fun w h => (goodIn_p wsL_law0_r9 [489, 410, 495, 499, 503, 507] rfl (by decide +kernel) w h).1
set_option maxRecDepth 100000 in
theorem wl_r10 : ∀ w ∈ wsL_law0_r10, w ∈ lw_tbl := fun w h => (goodIn_p wsL_law0_r10 [511, 516, 520, 373, 361] rfl (by decide +kernel) w h).1
set_option maxRecDepth 100000 in
theorem wl_r11 : ∀ w ∈ wsL_law0_r11, w ∈ lw_tbl := fun w h => (goodIn_p wsL_law0_r11 [365, 369, 377, 381] rfl (by decide +kernel) w h).1
set_option maxRecDepth 100000 in
theorem wl_r12 : ∀ w ∈ wsL_law0_r12, w ∈ lw_tbl := fun w h => (goodIn_p wsL_law0_r12 [691, 1240, 1243, 1197, 1224, 1178] rfl (by decide +kernel) w h).1
set_option maxRecDepth 100000 in
theorem wl_r13 : ∀ w ∈ wsL_law0_r13, w ∈ lw_tbl := fun w h => (goodIn_p wsL_law0_r13 [1182, 1186, 1190, 1194, 1200, 1204] rfl (by decide +kernel) w h).1
set_option maxRecDepth 100000 in
theorem wl_r14 : ∀ w ∈ wsL_law0_r14, w ∈ lw_tbl := fun w h => (goodIn_p wsL_law0_r14 [1208, 1212, 1232, 1247, 1251] rfl (by decide +kernel) w h).1
set_option maxRecDepth 100000 in
theorem wl_r15 : ∀ w ∈ wsL_law0_r15, w ∈ lw_tbl := fun w h => (goodIn_p wsL_law0_r15 [1170, 698, 1255, 707] rfl (by decide +kernel) w h).1
set_option maxRecDepth 100000 in
theorem wl_r16 : ∀ w ∈ wsL_law0_r16, w ∈ lw_tbl := fun w h => (goodIn_p wsL_law0_r16 [711, 715, 393, 401] rfl (by decide +kernel) w h).1
set_option maxRecDepth 100000 in
theorem wl_r17 : ∀ w ∈ wsL_law0_r17, w ∈ lw_tbl := fun w h => (goodIn_p wsL_law0_r17 [414, 417, 421, 425, 429] rfl (by decide +kernel) w h).1
set_option maxRecDepth 100000 in
theorem wl_r18 : ∀ w ∈ wsL_law0_r18, w ∈ lw_tbl := fun w h => (goodIn_p wsL_law0_r18 [434, 438, 443, 1259, 1263, 1267] rfl (by decide +kernel) w h).1
set_option maxRecDepth 100000 in
theorem wl_r19 : ∀ w ∈ wsL_law0_r19, w ∈ lw_tbl := fun w h => (goodIn_p wsL_law0_r19 [1271, 1275, 1279, 1283, 1287] rfl (by decide +kernel) w h).1
set_option maxRecDepth 100000 in
theorem wl_r20 : ∀ w ∈ wsL_law0_r20, w ∈ lw_tbl := fun w h => (goodIn_p wsL_law0_r20 [1291, 1295, 1299, 357, 388] rfl (by decide +kernel) w h).1
set_option maxRecDepth 100000 in
theorem wl_r21 : ∀ w ∈ wsL_law0_r21, w ∈ lw_tbl := fun w h => (goodIn_p wsL_law0_r21 [1303, 745, 1307, 449, 1311, 1216] rfl (by decide +kernel) w h).1
set_option maxRecDepth 100000 in
theorem wl_r22 : ∀ w ∈ wsL_law0_r22, w ∈ lw_tbl := fun w h => (goodIn_p wsL_law0_r22 [453, 1315, 754, 1319, 1323] rfl (by decide +kernel) w h).1
set_option maxRecDepth 100000 in
theorem wl_r23 : ∀ w ∈ wsL_law0_r23, w ∈ lw_tbl := fun w h => (goodIn_p wsL_law0_r23 [761, 1327, 768, 1331] rfl (by decide +kernel) w h).1
set_option maxRecDepth 100000 in
theorem wl_r24 : ∀ w ∈ wsL_law0_r24, w ∈ lw_tbl := fun w h => (goodIn_p wsL_law0_r24 [775, 779, 1335, 786, 1339] rfl (by decide +kernel) w h).1
set_option maxRecDepth 100000 in
theorem wl_r25 : ∀ w ∈ wsL_law0_r25, w ∈ lw_tbl := fun w h => (goodIn_p wsL_law0_r25 [795, 799, 803, 808, 1343] rfl (by decide +kernel) w h).1
set_option maxRecDepth 100000 in
theorem wl_r26 : ∀ w ∈ wsL_law0_r26, w ∈ lw_tbl := fun w h => (goodIn_p wsL_law0_r26 [1347, 1350, 815, 1355, 1220] rfl (by decide +kernel) w h).1
set_option maxRecDepth 100000 in
theorem wl_r27 : ∀ w ∈ wsL_law0_r27, w ∈ lw_tbl := fun w h => (goodIn_p wsL_law0_r27 [822, 1359, 829, 1363] rfl (by decide +kernel) w h).1
set_option maxRecDepth 100000 in
theorem wl_r28 : ∀ w ∈ wsL_law0_r28, w ∈ lw_tbl := fun w h => (goodIn_p wsL_law0_r28 [1367, 837, 1371, 844, 1375] rfl (by decide +kernel) w h).1
set_option maxRecDepth 100000 in
theorem wl_r29 : ∀ w ∈ wsL_law0_r29, w ∈ lw_tbl := fun w h => (goodIn_p wsL_law0_r29 [851, 1379, 1383, 858] rfl (by decide +kernel) w h).1
set_option maxRecDepth 100000 in
theorem wl_r30 : ∀ w ∈ wsL_law0_r30, w ∈ lw_tbl := fun w h => (goodIn_p wsL_law0_r30 [862, 866, 870, 1387, 1391, 877] rfl (by decide +kernel) w h).1
set_option maxRecDepth 100000 in
theorem wl_r31 : ∀ w ∈ wsL_law0_r31, w ∈ lw_tbl := fun w h => (goodIn_p wsL_law0_r31 [1395, 884, 1399, 891] rfl (by decide +kernel) w h).1
set_option maxRecDepth 100000 in
theorem wl_r32 : ∀ w ∈ wsL_law0_r32, w ∈ lw_tbl := fun w h => (goodIn_p wsL_law0_r32 [1403, 898, 902, 906, 910] rfl (by decide +kernel) w h).1
set_option maxRecDepth 100000 in
theorem wl_r33 : ∀ w ∈ wsL_law0_r33, w ∈ lw_tbl := fun w h => (goodIn_p wsL_law0_r33 [1407, 1411, 917, 921, 1415] rfl (by decide +kernel) w h).1
set_option maxRecDepth 100000 in
theorem wl_r34 : ∀ w ∈ wsL_law0_r34, w ∈ lw_tbl := fun w h => (goodIn_p wsL_law0_r34 [1419, 929, 1423, 936] rfl (by decide +kernel) w h).1
set_option maxRecDepth 100000 in
theorem wl_r35 : ∀ w ∈ wsL_law0_r35, w ∈ lw_tbl := fun w h => (goodIn_p wsL_law0_r35 [940, 1427, 947, 951, 1431] rfl (by decide +kernel) w h).1
set_option maxRecDepth 100000 in
theorem wl_r36 : ∀ w ∈ wsL_law0_r36, w ∈ lw_tbl := fun w h => (goodIn_p wsL_law0_r36 [959, 962, 528, 532, 1435] rfl (by decide +kernel) w h).1
set_option maxRecDepth 100000 in
theorem wl_r37 : ∀ w ∈ wsL_law0_r37, w ∈ lw_tbl := fun w h => (goodIn_p wsL_law0_r37 [1439, 970, 1443, 524, 1447, 536] rfl (by decide +kernel) w h).1
set_option maxRecDepth 100000 in
theorem wl_r38 : ∀ w ∈ wsL_law0_r38, w ∈ lw_tbl := fun w h => (goodIn_p wsL_law0_r38 [540, 1451, 1455, 544, 549, 1459] rfl (by decide +kernel) w h).1
set_option maxRecDepth 100000 in
theorem wl_r39 : ∀ w ∈ wsL_law0_r39, w ∈ lw_tbl := fun w h => (goodIn_p wsL_law0_r39 [977, 981, 1463, 1467] rfl (by decide +kernel) w h).1
set_option maxRecDepth 100000 in
theorem wl_r40 : ∀ w ∈ wsL_law0_r40, w ∈ lw_tbl := fun w h => (goodIn_p wsL_law0_r40 [988, 992, 1471, 1475] rfl (by decide +kernel) w h).1
set_option maxRecDepth 100000 in
theorem wl_r41 : ∀ w ∈ wsL_law0_r41, w ∈ lw_tbl := fun w h => (goodIn_p wsL_law0_r41 [1004, 1008, 1479, 1015, 1019] rfl (by decide +kernel) w h).1
set_option maxRecDepth 100000 in
theorem wl_r42 : ∀ w ∈ wsL_law0_r42, w ∈ lw_tbl := fun w h => (goodIn_p wsL_law0_r42 [1023, 1483, 1487, 1490, 1030, 1033] rfl (by decide +kernel) w h).1
set_option maxRecDepth 100000 in
theorem wl_r43 : ∀ w ∈ wsL_law0_r43, w ∈ lw_tbl := fun w h => (goodIn_p wsL_law0_r43 [1038, 1494, 553, 557, 563] rfl (by decide +kernel) w h).1
set_option maxRecDepth 100000 in
theorem wl_r44 : ∀ w ∈ wsL_law0_r44, w ∈ lw_tbl := fun w h => (goodIn_p wsL_law0_r44 [569, 573, 1498, 1502, 1506, 1509] rfl (by decide +kernel) w h).1
set_option maxRecDepth 100000 in
theorem wl_r45 : ∀ w ∈ wsL_law0_r45, w ∈ lw_tbl := fun w h => (goodIn_p wsL_law0_r45 [1045, 1513, 1052, 1517] rfl (by decide +kernel) w h).1
set_option maxRecDepth 100000 in
theorem wl_r46 : ∀ w ∈ wsL_law0_r46, w ∈ lw_tbl := fun w h => (goodIn_p wsL_law0_r46 [1059, 1065, 1228, 577, 1236] rfl (by decide +kernel) w h).1
set_option maxRecDepth 100000 in
theorem wl_r47 : ∀ w ∈ wsL_law0_r47, w ∈ lw_tbl := fun w h => (goodIn_p wsL_law0_r47 [581, 1174, 1073, 1078, 1521] rfl (by decide +kernel) w h).1
set_option maxRecDepth 100000 in
theorem wl_r48 : ∀ w ∈ wsL_law0_r48, w ∈ lw_tbl := fun w h => (goodIn_p wsL_law0_r48 [1525, 585, 1529, 589, 1533] rfl (by decide +kernel) w h).1
set_option maxRecDepth 100000 in
theorem wl_r49 : ∀ w ∈ wsL_law0_r49, w ∈ lw_tbl := fun w h => (goodIn_p wsL_law0_r49 [1085, 1537] rfl (by decide +kernel) w h).1
