set_option maxRecDepth 20000 in
theorem ggL_isBlame_X10_pamphlets : GoodIn wsL_isBlame wsX10_pamphlets := goodIn_r _ [5, 6, 249, 250, 251, 252, 253, 254, 255, 256, 257, 258, 259] (by decide +kernel) (by decide +kernel)
set_option maxRecDepth 20000 in
theorem gL_isBlame_X10_pamphlets : GoodIn wsL_isBlame (wsV RL 79 RX10 yX10_pamphlets wsX10_pamphlets) := goodIn_app (goodIn_of _ (by decide +kernel)) ggL_isBlame_X10_pamphlets
set_option maxRecDepth 20000 in
theorem ggL_isBlame_X10_quotationsOf : GoodIn wsL_isBlame wsX10_quotationsOf := goodIn_ca (goodIn_r _ [10, 6, 11, 12, 13, 4, 14, 15, 16, 17, 18, 19, 20, 21, 22, 23, 24, 25, 26, 27, 28, 249, 250, 251, 252, 253, 254, 255, 260, 261, 262, 263, 264, 265, 266, 267, 256, 257, 258, 259] (by decide +kernel) (by decide +kernel)) (goodIn_sub (fun _ h => List.mem_cons_of_mem _ (List.mem_append_right _ h)) (by decide +kernel))
set_option maxRecDepth 20000 in
theorem gL_isBlame_X10_quotationsOf : GoodIn wsL_isBlame (wsV RL 82 RX10 yX10_quotationsOf wsX10_quotationsOf) := goodIn_app (goodIn_of _ (by decide +kernel)) ggL_isBlame_X10_quotationsOf
set_option maxRecDepth 20000 in
theorem ggL_isBlame_X10_changesByTable : GoodIn wsL_isBlame wsX10_changesByTable := goodIn_ca (goodIn_r _ [32, 33, 6, 34, 35, 36, 4, 37, 15, 16, 11, 12, 13, 14, 17, 18, 19, 20, 21, 22, 23, 24, 25, 26, 27, 28, 38, 39, 40, 41, 42, 43, 44, 45, 46, 47, 48, 49, 50, 51, 52, 53, 54, 55, 56, 57, 58, 59, 60, 61, 62, 63, 64, 65, 66, 67, 68, 69, 70, 71, 72, 73, 74, 75, 76, 77, 78, 79, 80, 249, 250, 251, 252, 253, 254, 255, 260, 261, 262, 263, 264, 265, 266, 267, 256, 257, 258, 259, 268, 269, 270, 271, 272, 273, 274, 275] (by decide +kernel) (by decide +kernel)) (goodIn_sub (fun _ h => List.mem_cons_of_mem _ (List.mem_append_right _ h)) (by decide +kernel))
set_option maxRecDepth 20000 in
theorem gL_isBlame_X10_changesByTable : GoodIn wsL_isBlame (wsV RL 39 RX10 yX10_changesByTable wsX10_changesByTable) := goodIn_app (goodIn_of _ (by decide +kernel)) ggL_isBlame_X10_changesByTable
set_option maxRecDepth 20000 in
theorem ggL_isBlame_X10_quotedAgain : GoodIn wsL_isBlame wsX10_quotedAgain := goodIn_ca (goodIn_r _ [84, 33, 6, 34, 35, 36, 4, 37, 15, 16, 11, 12, 13, 14, 17, 18, 19, 20, 21, 22, 23, 24, 25, 26, 27, 28, 85, 86, 87, 41, 88, 43, 44, 45, 46, 47, 48, 49, 50, 89, 39, 40, 42, 51, 52, 53, 54, 55, 56, 57, 58, 59, 60, 61, 62, 63, 64, 65, 66, 67, 68, 69, 70, 71, 72, 73, 74, 75, 76, 77, 78, 79, 80, 90, 91, 92, 93, 94, 95, 96, 97, 249, 250, 251, 252, 253, 254, 255, 260, 261, 262, 263, 264, 265, 266, 267, 256, 257, 258, 259, 268, 269, 270, 271, 272, 273, 274, 275] (by decide +kernel) (by decide +kernel)) (goodIn_sub (fun _ h => List.mem_cons_of_mem _ (List.mem_append_right _ h)) (by decide +kernel))
set_option maxRecDepth 20000 in
theorem gL_isBlame_X10_quotedAgain : GoodIn wsL_isBlame (wsV RL 107 RX10 yX10_quotedAgain wsX10_quotedAgain) := goodIn_app (goodIn_of _ (by decide +kernel)) ggL_isBlame_X10_quotedAgain
set_option maxRecDepth 20000 in
theorem ggL_isBlame_X10_comesFrom : GoodIn wsL_isBlame wsX10_comesFrom := goodIn_ca (goodIn_r _ [101, 33, 6, 34, 35, 36, 4, 37, 15, 16, 11, 12, 13, 14, 17, 18, 19, 20, 21, 22, 23, 24, 25, 26, 27, 28, 102, 103, 104, 41, 105, 43, 89, 39, 40, 42, 44, 45, 46, 47, 48, 49, 50, 51, 52, 53, 54, 55, 56, 57, 58, 59, 60, 61, 62, 63, 64, 65, 66, 67, 68, 69, 70, 71, 72, 73, 74, 75, 76, 77, 78, 79, 80, 106, 107, 108, 93, 109, 110, 111, 91, 92, 94, 95, 96, 97, 249, 250, 251, 252, 253, 254, 255, 260, 261, 262, 263, 264, 265, 266, 267, 256, 257, 258, 259, 268, 269, 270, 271, 272, 273, 274, 275] (by decide +kernel) (by decide +kernel)) (goodIn_sub (fun _ h => List.mem_cons_of_mem _ (List.mem_append_right _ h)) (by decide +kernel))
set_option maxRecDepth 20000 in
theorem gL_isBlame_X10_comesFrom : GoodIn wsL_isBlame (wsV RL 48 RX10 yX10_comesFrom wsX10_comesFrom) := goodIn_app (goodIn_of _ (by decide +kernel)) ggL_isBlame_X10_comesFrom
set_option maxRecDepth 20000 in
theorem ggL_isBlame_L_isQuotation : GoodIn wsL_isBlame wsL_isQuotation := goodIn_ca (goodIn_r _ [115, 116, 117, 118, 4, 119, 6, 34, 35, 36, 37, 15, 16, 11, 12, 13, 14, 17, 18, 19, 20, 21, 22, 23, 24, 25, 26, 27, 28, 120, 46, 47, 48, 49, 50, 121, 122, 123, 124, 125, 126, 127, 128, 29, 30, 31, 32, 33, 38, 39, 40, 41, 42, 43, 44, 45, 51, 52, 53, 54, 55, 56, 57, 58, 59, 60, 61, 62, 63, 64, 65, 66, 67, 68, 69, 70, 71, 72, 73, 74, 75, 76, 77, 78, 79, 80, 129, 130, 131, 132, 133, 134, 135, 136, 98, 99, 100, 101, 102, 103, 104, 105, 89, 106, 107, 108, 93, 109, 110, 111, 91, 92, 94, 95, 96, 97, 137, 138, 139, 140, 141, 142, 143, 144, 145, 146, 147, 148, 149, 150, 151, 152, 153, 154, 155, 156, 157, 158, 159, 160, 161, 162, 163, 164, 165, 166, 167, 168, 169, 170, 171, 172, 173, 174, 175, 176, 177, 178, 179, 180, 181, 182, 183, 184, 185, 186, 187, 188, 189, 190, 191, 192, 193, 194, 195, 196, 197, 198, 199, 200, 201, 202, 203, 204, 205, 206, 249, 250, 251, 252, 253, 254, 255, 260, 261, 262, 263, 264, 265, 266, 267, 256, 257, 258, 259, 275, 268, 269, 270, 271, 272, 273, 274] (by decide +kernel) (by decide +kernel)) (goodIn_sub (fun _ h => List.mem_cons_of_mem _ (List.mem_append_right _ h)) (by decide +kernel))
set_option maxRecDepth 20000 in
theorem gL_isBlame_L_isQuotation : GoodIn wsL_isBlame (va_wsS RL 110 yL_isQuotation wsL_isQuotation) := goodIn_app (goodIn_of _ (by decide +kernel)) ggL_isBlame_L_isQuotation
set_option maxRecDepth 20000 in
theorem ggL_isBlame_X10_blameOf : GoodIn wsL_isBlame wsX10_blameOf := goodIn_ca (goodIn_r _ [210, 33, 6, 211, 212, 4, 213, 15, 16, 214, 215, 216, 217, 218, 219, 41, 220, 44, 24, 25, 20, 26, 27, 28, 221, 222, 223, 224, 45, 46, 47, 48, 49, 50, 89, 39, 40, 42, 43, 51, 52, 53, 54, 55, 56, 57, 58, 59, 60, 61, 62, 63, 64, 65, 66, 67, 68, 69, 70, 71, 72, 73, 74, 75, 76, 77, 78, 79, 80, 249, 250, 251, 252, 253, 254, 255, 256, 257, 258, 259, 260, 261, 262, 263, 264, 265, 266, 267, 275, 268, 269, 270, 271, 272, 273, 274] (by decide +kernel) (by decide +kernel)) (goodIn_sub (fun _ h => List.mem_cons_of_mem _ (List.mem_append_right _ h)) (by decide +kernel))
set_option maxRecDepth 20000 in
theorem gL_isBlame_X10_blameOf : GoodIn wsL_isBlame (wsV RL 116 RX10 yX10_blameOf wsX10_blameOf) := goodIn_app (goodIn_of _ (by decide +kernel)) ggL_isBlame_X10_blameOf
set_option maxRecDepth 20000 in
theorem ggL_isBlame_X10_wrongs : GoodIn wsL_isBlame wsX10_wrongs := goodIn_ca (goodIn_r _ [228, 33, 6, 211, 212, 4, 213, 15, 16, 214, 215, 216, 217, 218, 219, 41, 220, 44, 24, 25, 20, 26, 27, 28, 221, 222, 223, 224, 45, 46, 47, 48, 49, 50, 89, 39, 40, 42, 43, 51, 52, 53, 54, 55, 56, 57, 58, 59, 60, 61, 62, 63, 64, 65, 66, 67, 68, 69, 70, 71, 72, 73, 74, 75, 76, 77, 78, 79, 80, 249, 250, 251, 252, 253, 254, 255, 256, 257, 258, 259, 260, 261, 262, 263, 264, 265, 266, 267, 275, 268, 269, 270, 271, 272, 273, 274] (by decide +kernel) (by decide +kernel)) (goodIn_sub (fun _ h => List.mem_cons_of_mem _ (List.mem_append_right _ h)) (by decide +kernel))
set_option maxRecDepth 20000 in
theorem gL_isBlame_X10_wrongs : GoodIn wsL_isBlame (wsV RL 119 RX10 yX10_wrongs wsX10_wrongs) := goodIn_app (goodIn_of _ (by decide +kernel)) ggL_isBlame_X10_wrongs
set_option maxRecDepth 20000 in
theorem ggL_isBlame_X10_blameByAuthors : GoodIn wsL_isBlame wsX10_blameByAuthors := goodIn_r _ [232, 33, 6, 217, 218, 219, 41, 220, 44, 24, 25, 20, 26, 27, 28, 221, 222, 223, 224, 45, 46, 47, 48, 49, 50, 89, 39, 40, 42, 43, 51, 52, 53, 54, 55, 56, 57, 58, 59, 60, 61, 62, 63, 64, 65, 66, 67, 68, 69, 70, 71, 72, 73, 74, 75, 76, 77, 78, 79, 80, 249, 250, 251, 252, 253, 254, 255, 256, 257, 258, 259, 260, 261, 262, 263, 264, 265, 266, 267, 275, 268, 269, 270, 271, 272, 273, 274] (by decide +kernel) (by decide +kernel)
set_option maxRecDepth 20000 in
theorem gL_isBlame_X10_blameByAuthors : GoodIn wsL_isBlame (wsV RL 122 RX10 yX10_blameByAuthors wsX10_blameByAuthors) := goodIn_app (goodIn_of _ (by decide +kernel)) ggL_isBlame_X10_blameByAuthors
set_option maxRecDepth 20000 in
theorem ggL_isBlame_X10_blameBySources : GoodIn wsL_isBlame wsX10_blameBySources := goodIn_r _ [236, 6, 33, 237, 238, 239, 41, 240, 44, 24, 25, 20, 26, 27, 28, 45, 46, 47, 48, 49, 50, 89, 39, 40, 42, 43, 51, 52, 53, 54, 55, 56, 57, 58, 59, 60, 61, 62, 63, 64, 65, 66, 67, 68, 69, 70, 71, 72, 73, 74, 75, 76, 77, 78, 79, 80, 249, 250, 251, 252, 253, 254, 255, 256, 257, 258, 259, 260, 261, 262, 263, 264, 265, 266, 267, 275, 268, 269, 270, 271, 272, 273, 274] (by decide +kernel) (by decide +kernel)
set_option maxRecDepth 20000 in
theorem gL_isBlame_X10_blameBySources : GoodIn wsL_isBlame (wsV RL 125 RX10 yX10_blameBySources wsX10_blameBySources) := goodIn_app (goodIn_of _ (by decide +kernel)) ggL_isBlame_X10_blameBySources
set_option maxRecDepth 20000 in
theorem ggL_isBlame_X10_faithfulShare : GoodIn wsL_isBlame wsX10_faithfulShare := goodIn_r _ [244, 6, 33, 23, 24, 25, 20, 26, 27, 28, 245, 246, 247, 41, 248, 44, 89, 39, 40, 42, 43, 45, 46, 47, 48, 49, 50, 51, 52, 53, 54, 55, 56, 57, 58, 59, 60, 61, 62, 63, 64, 65, 66, 67, 68, 69, 70, 71, 72, 73, 74, 75, 76, 77, 78, 79, 80, 249, 250, 251, 252, 253, 254, 255, 256, 257, 258, 259, 260, 261, 262, 263, 264, 265, 266, 267, 268, 269, 270, 271, 272, 273, 274, 275] (by decide +kernel) (by decide +kernel)
set_option maxRecDepth 20000 in
theorem gL_isBlame_X10_faithfulShare : GoodIn wsL_isBlame (wsV RL 128 RX10 yX10_faithfulShare wsX10_faithfulShare) := goodIn_app (goodIn_of _ (by decide +kernel)) ggL_isBlame_X10_faithfulShare
theorem dL_isBlame_0 : decode cL_isBlame 0 = .ok (.iconst 0, 1) := by decide +kernel
theorem dL_isBlame_1 : decode cL_isBlame 1 = .ok (.istore_n 1, 1) := by decide +kernel
theorem dL_isBlame_2 : decode cL_isBlame 2 = .ok (.iconst 0, 1) := by decide +kernel
theorem dL_isBlame_3 : decode cL_isBlame 3 = .ok (.istore_n 2, 1) := by decide +kernel
theorem dL_isBlame_4 : decode cL_isBlame 4 = .ok (.iconst 0, 1) := by decide +kernel
theorem dL_isBlame_5 : decode cL_isBlame 5 = .ok (.istore_n 3, 1) := by decide +kernel
theorem dL_isBlame_6 : decode cL_isBlame 6 = .ok (.iconst 0, 1) := by decide +kernel
theorem dL_isBlame_7 : decode cL_isBlame 7 = .ok (.istore 4, 2) := by decide +kernel
theorem dL_isBlame_9 : decode cL_isBlame 9 = .ok (.iconst 0, 1) := by decide +kernel
theorem dL_isBlame_10 : decode cL_isBlame 10 = .ok (.istore 5, 2) := by decide +kernel
theorem dL_isBlame_12 : decode cL_isBlame 12 = .ok (.iconst 0, 1) := by decide +kernel
theorem dL_isBlame_13 : decode cL_isBlame 13 = .ok (.istore 6, 2) := by decide +kernel
theorem dL_isBlame_15 : decode cL_isBlame 15 = .ok (.iload 6, 2) := by decide +kernel
theorem dL_isBlame_17 : decode cL_isBlame 17 = .ok (.aload_n 0, 1) := by decide +kernel
theorem dL_isBlame_18 : decode cL_isBlame 18 = .ok (.invokevirtual 79, 3) := by decide +kernel
theorem dL_isBlame_21 : decode cL_isBlame 21 = .ok (.if_icmp .ge 108, 3) := by decide +kernel
theorem dL_isBlame_24 : decode cL_isBlame 24 = .ok (.iconst 0, 1) := by decide +kernel
theorem dL_isBlame_25 : decode cL_isBlame 25 = .ok (.istore 7, 2) := by decide +kernel
theorem dL_isBlame_27 : decode cL_isBlame 27 = .ok (.iload 7, 2) := by decide +kernel
theorem dL_isBlame_29 : decode cL_isBlame 29 = .ok (.aload_n 0, 1) := by decide +kernel
theorem dL_isBlame_30 : decode cL_isBlame 30 = .ok (.iload 6, 2) := by decide +kernel
theorem dL_isBlame_32 : decode cL_isBlame 32 = .ok (.invokevirtual 82, 3) := by decide +kernel
theorem dL_isBlame_35 : decode cL_isBlame 35 = .ok (.if_icmp .ge 88, 3) := by decide +kernel
theorem dL_isBlame_38 : decode cL_isBlame 38 = .ok (.aload_n 0, 1) := by decide +kernel
theorem dL_isBlame_39 : decode cL_isBlame 39 = .ok (.iload 6, 2) := by decide +kernel
theorem dL_isBlame_41 : decode cL_isBlame 41 = .ok (.iload 7, 2) := by decide +kernel
theorem dL_isBlame_43 : decode cL_isBlame 43 = .ok (.invokevirtual 39, 3) := by decide +kernel
theorem dL_isBlame_46 : decode cL_isBlame 46 = .ok (.istore 8, 2) := by decide +kernel
theorem dL_isBlame_48 : decode cL_isBlame 48 = .ok (.iinc 1 1, 3) := by decide +kernel
theorem dL_isBlame_51 : decode cL_isBlame 51 = .ok (.iload_n 2, 1) := by decide +kernel
theorem dL_isBlame_52 : decode cL_isBlame 52 = .ok (.iload 8, 2) := by decide +kernel
theorem dL_isBlame_54 : decode cL_isBlame 54 = .ok (.ifCond .ne 7, 3) := by decide +kernel
theorem dL_isBlame_57 : decode cL_isBlame 57 = .ok (.iconst 1, 1) := by decide +kernel
theorem dL_isBlame_58 : decode cL_isBlame 58 = .ok (.goto 4, 3) := by decide +kernel
theorem dL_isBlame_61 : decode cL_isBlame 61 = .ok (.iconst 0, 1) := by decide +kernel
theorem dL_isBlame_62 : decode cL_isBlame 62 = .ok (.iadd, 1) := by decide +kernel
theorem dL_isBlame_63 : decode cL_isBlame 63 = .ok (.istore_n 2, 1) := by decide +kernel
theorem dL_isBlame_64 : decode cL_isBlame 64 = .ok (.iload_n 3, 1) := by decide +kernel
theorem dL_isBlame_65 : decode cL_isBlame 65 = .ok (.iload 8, 2) := by decide +kernel
theorem dL_isBlame_67 : decode cL_isBlame 67 = .ok (.iadd, 1) := by decide +kernel
theorem dL_isBlame_68 : decode cL_isBlame 68 = .ok (.istore_n 3, 1) := by decide +kernel
theorem dL_isBlame_69 : decode cL_isBlame 69 = .ok (.iload 4, 2) := by decide +kernel
theorem dL_isBlame_71 : decode cL_isBlame 71 = .ok (.aload_n 0, 1) := by decide +kernel
theorem dL_isBlame_72 : decode cL_isBlame 72 = .ok (.iload 6, 2) := by decide +kernel
theorem dL_isBlame_74 : decode cL_isBlame 74 = .ok (.iload 7, 2) := by decide +kernel
theorem dL_isBlame_76 : decode cL_isBlame 76 = .ok (.invokevirtual 107, 3) := by decide +kernel
theorem dL_isBlame_79 : decode cL_isBlame 79 = .ok (.iadd, 1) := by decide +kernel
theorem dL_isBlame_80 : decode cL_isBlame 80 = .ok (.istore 4, 2) := by decide +kernel
theorem dL_isBlame_82 : decode cL_isBlame 82 = .ok (.iload 5, 2) := by decide +kernel
theorem dL_isBlame_84 : decode cL_isBlame 84 = .ok (.aload_n 0, 1) := by decide +kernel
theorem dL_isBlame_85 : decode cL_isBlame 85 = .ok (.iload 6, 2) := by decide +kernel
theorem dL_isBlame_87 : decode cL_isBlame 87 = .ok (.iload 7, 2) := by decide +kernel
theorem dL_isBlame_89 : decode cL_isBlame 89 = .ok (.invokevirtual 48, 3) := by decide +kernel
theorem dL_isBlame_92 : decode cL_isBlame 92 = .ok (.iconst (-1), 1) := by decide +kernel
theorem dL_isBlame_93 : decode cL_isBlame 93 = .ok (.if_icmp .ne 7, 3) := by decide +kernel
theorem dL_isBlame_96 : decode cL_isBlame 96 = .ok (.iconst 0, 1) := by decide +kernel
theorem dL_isBlame_97 : decode cL_isBlame 97 = .ok (.goto 4, 3) := by decide +kernel
theorem dL_isBlame_100 : decode cL_isBlame 100 = .ok (.iconst 1, 1) := by decide +kernel
theorem dL_isBlame_101 : decode cL_isBlame 101 = .ok (.iadd, 1) := by decide +kernel
theorem dL_isBlame_102 : decode cL_isBlame 102 = .ok (.istore 5, 2) := by decide +kernel
theorem dL_isBlame_104 : decode cL_isBlame 104 = .ok (.aload_n 0, 1) := by decide +kernel
theorem dL_isBlame_105 : decode cL_isBlame 105 = .ok (.iload 6, 2) := by decide +kernel
theorem dL_isBlame_107 : decode cL_isBlame 107 = .ok (.iload 7, 2) := by decide +kernel
theorem dL_isBlame_109 : decode cL_isBlame 109 = .ok (.invokestatic 110, 3) := by decide +kernel
theorem dL_isBlame_112 : decode cL_isBlame 112 = .ok (.ifCond .ne 5, 3) := by decide +kernel
theorem dL_isBlame_115 : decode cL_isBlame 115 = .ok (.iconst 0, 1) := by decide +kernel
theorem dL_isBlame_116 : decode cL_isBlame 116 = .ok (.ireturn, 1) := by decide +kernel
theorem dL_isBlame_117 : decode cL_isBlame 117 = .ok (.iinc 7 1, 3) := by decide +kernel
theorem dL_isBlame_120 : decode cL_isBlame 120 = .ok (.goto (-93), 3) := by decide +kernel
theorem dL_isBlame_123 : decode cL_isBlame 123 = .ok (.iinc 6 1, 3) := by decide +kernel
theorem dL_isBlame_126 : decode cL_isBlame 126 = .ok (.goto (-111), 3) := by decide +kernel
theorem dL_isBlame_129 : decode cL_isBlame 129 = .ok (.iconst 0, 1) := by decide +kernel
theorem dL_isBlame_130 : decode cL_isBlame 130 = .ok (.istore 6, 2) := by decide +kernel
theorem dL_isBlame_132 : decode cL_isBlame 132 = .ok (.iconst 0, 1) := by decide +kernel
theorem dL_isBlame_133 : decode cL_isBlame 133 = .ok (.istore 7, 2) := by decide +kernel
theorem dL_isBlame_135 : decode cL_isBlame 135 = .ok (.iconst 0, 1) := by decide +kernel
theorem dL_isBlame_136 : decode cL_isBlame 136 = .ok (.istore 8, 2) := by decide +kernel
theorem dL_isBlame_138 : decode cL_isBlame 138 = .ok (.iload 8, 2) := by decide +kernel
theorem dL_isBlame_140 : decode cL_isBlame 140 = .ok (.bipush 8, 2) := by decide +kernel
theorem dL_isBlame_142 : decode cL_isBlame 142 = .ok (.if_icmp .ge 49, 3) := by decide +kernel
theorem dL_isBlame_145 : decode cL_isBlame 145 = .ok (.iload 6, 2) := by decide +kernel
theorem dL_isBlame_147 : decode cL_isBlame 147 = .ok (.aload_n 0, 1) := by decide +kernel
theorem dL_isBlame_148 : decode cL_isBlame 148 = .ok (.iload 8, 2) := by decide +kernel
theorem dL_isBlame_150 : decode cL_isBlame 150 = .ok (.invokevirtual 116, 3) := by decide +kernel
theorem dL_isBlame_153 : decode cL_isBlame 153 = .ok (.iadd, 1) := by decide +kernel
theorem dL_isBlame_154 : decode cL_isBlame 154 = .ok (.istore 6, 2) := by decide +kernel
theorem dL_isBlame_156 : decode cL_isBlame 156 = .ok (.iconst 0, 1) := by decide +kernel
theorem dL_isBlame_157 : decode cL_isBlame 157 = .ok (.istore 9, 2) := by decide +kernel
theorem dL_isBlame_159 : decode cL_isBlame 159 = .ok (.iload 9, 2) := by decide +kernel
theorem dL_isBlame_161 : decode cL_isBlame 161 = .ok (.bipush 8, 2) := by decide +kernel
theorem dL_isBlame_163 : decode cL_isBlame 163 = .ok (.if_icmp .ge 22, 3) := by decide +kernel
theorem dL_isBlame_166 : decode cL_isBlame 166 = .ok (.iload 7, 2) := by decide +kernel
theorem dL_isBlame_168 : decode cL_isBlame 168 = .ok (.aload_n 0, 1) := by decide +kernel
theorem dL_isBlame_169 : decode cL_isBlame 169 = .ok (.iload 8, 2) := by decide +kernel
theorem dL_isBlame_171 : decode cL_isBlame 171 = .ok (.iload 9, 2) := by decide +kernel
theorem dL_isBlame_173 : decode cL_isBlame 173 = .ok (.invokevirtual 119, 3) := by decide +kernel
theorem dL_isBlame_176 : decode cL_isBlame 176 = .ok (.iadd, 1) := by decide +kernel
theorem dL_isBlame_177 : decode cL_isBlame 177 = .ok (.istore 7, 2) := by decide +kernel
theorem dL_isBlame_179 : decode cL_isBlame 179 = .ok (.iinc 9 1, 3) := by decide +kernel
theorem dL_isBlame_182 : decode cL_isBlame 182 = .ok (.goto (-23), 3) := by decide +kernel
theorem dL_isBlame_185 : decode cL_isBlame 185 = .ok (.iinc 8 1, 3) := by decide +kernel
theorem dL_isBlame_188 : decode cL_isBlame 188 = .ok (.goto (-50), 3) := by decide +kernel
theorem dL_isBlame_191 : decode cL_isBlame 191 = .ok (.iload 6, 2) := by decide +kernel
theorem dL_isBlame_193 : decode cL_isBlame 193 = .ok (.iload_n 3, 1) := by decide +kernel
theorem dL_isBlame_194 : decode cL_isBlame 194 = .ok (.if_icmp .ne 57, 3) := by decide +kernel
theorem dL_isBlame_197 : decode cL_isBlame 197 = .ok (.iload 7, 2) := by decide +kernel
theorem dL_isBlame_199 : decode cL_isBlame 199 = .ok (.iload_n 3, 1) := by decide +kernel
theorem dL_isBlame_200 : decode cL_isBlame 200 = .ok (.if_icmp .ne 51, 3) := by decide +kernel
theorem dL_isBlame_203 : decode cL_isBlame 203 = .ok (.aload_n 0, 1) := by decide +kernel
theorem dL_isBlame_204 : decode cL_isBlame 204 = .ok (.invokevirtual 122, 3) := by decide +kernel
theorem dL_isBlame_207 : decode cL_isBlame 207 = .ok (.iload_n 3, 1) := by decide +kernel
theorem dL_isBlame_208 : decode cL_isBlame 208 = .ok (.if_icmp .ne 43, 3) := by decide +kernel
theorem dL_isBlame_211 : decode cL_isBlame 211 = .ok (.aload_n 0, 1) := by decide +kernel
theorem dL_isBlame_212 : decode cL_isBlame 212 = .ok (.invokevirtual 125, 3) := by decide +kernel
theorem dL_isBlame_215 : decode cL_isBlame 215 = .ok (.iload_n 3, 1) := by decide +kernel
theorem dL_isBlame_216 : decode cL_isBlame 216 = .ok (.if_icmp .ne 35, 3) := by decide +kernel
theorem dL_isBlame_219 : decode cL_isBlame 219 = .ok (.iload 4, 2) := by decide +kernel
theorem dL_isBlame_221 : decode cL_isBlame 221 = .ok (.iload 5, 2) := by decide +kernel
theorem dL_isBlame_223 : decode cL_isBlame 223 = .ok (.if_icmp .ne 28, 3) := by decide +kernel
theorem dL_isBlame_226 : decode cL_isBlame 226 = .ok (.aload_n 0, 1) := by decide +kernel
theorem dL_isBlame_227 : decode cL_isBlame 227 = .ok (.invokevirtual 128, 3) := by decide +kernel
theorem dL_isBlame_230 : decode cL_isBlame 230 = .ok (.iload_n 1, 1) := by decide +kernel
theorem dL_isBlame_231 : decode cL_isBlame 231 = .ok (.ifCond .ne 7, 3) := by decide +kernel
theorem dL_isBlame_234 : decode cL_isBlame 234 = .ok (.dconst 0, 1) := by decide +kernel
theorem dL_isBlame_235 : decode cL_isBlame 235 = .ok (.goto 8, 3) := by decide +kernel
theorem dL_isBlame_238 : decode cL_isBlame 238 = .ok (.iload_n 2, 1) := by decide +kernel
theorem dL_isBlame_239 : decode cL_isBlame 239 = .ok (.i2d, 1) := by decide +kernel
theorem dL_isBlame_240 : decode cL_isBlame 240 = .ok (.iload_n 1, 1) := by decide +kernel
theorem dL_isBlame_241 : decode cL_isBlame 241 = .ok (.i2d, 1) := by decide +kernel
theorem dL_isBlame_242 : decode cL_isBlame 242 = .ok (.ddiv, 1) := by decide +kernel
theorem dL_isBlame_243 : decode cL_isBlame 243 = .ok (.dcmp .l, 1) := by decide +kernel
theorem dL_isBlame_244 : decode cL_isBlame 244 = .ok (.ifCond .ne 7, 3) := by decide +kernel
theorem dL_isBlame_247 : decode cL_isBlame 247 = .ok (.iconst 1, 1) := by decide +kernel
theorem dL_isBlame_248 : decode cL_isBlame 248 = .ok (.goto 4, 3) := by decide +kernel
theorem dL_isBlame_251 : decode cL_isBlame 251 = .ok (.iconst 0, 1) := by decide +kernel
theorem dL_isBlame_252 : decode cL_isBlame 252 = .ok (.ireturn, 1) := by decide +kernel
set_option maxRecDepth 20000 in
theorem ggL_isGlossary_X10_glossary : GoodIn wsL_isGlossary wsX10_glossary := goodIn_r _ [5, 6, 7, 8, 9, 10, 11, 12, 13, 14, 15, 16, 17, 18, 19, 20, 21, 22, 23, 24, 25, 26, 27, 28, 29, 30, 31, 32, 33, 34, 35, 36, 37, 38, 39, 40, 41, 42, 43, 44, 45, 46, 47, 48, 88, 89, 90, 91, 92, 93, 94, 95, 96, 97, 98, 99, 100, 101, 102, 103, 104, 105, 106, 107, 108, 109, 110] (by decide +kernel) (by decide +kernel)
set_option maxRecDepth 20000 in
theorem gL_isGlossary_X10_glossary : GoodIn wsL_isGlossary (wsV RL 132 RX10 yX10_glossary wsX10_glossary) := goodIn_app (goodIn_of _ (by decide +kernel)) ggL_isGlossary_X10_glossary
set_option maxRecDepth 20000 in
theorem ggL_isGlossary_X10_pamphlets : GoodIn wsL_isGlossary wsX10_pamphlets := goodIn_r _ [52, 7, 88, 89, 90, 91, 92, 93, 94, 98, 99, 100, 101] (by decide +kernel) (by decide +kernel)
set_option maxRecDepth 20000 in
theorem gL_isGlossary_X10_pamphlets : GoodIn wsL_isGlossary (wsV RL 79 RX10 yX10_pamphlets wsX10_pamphlets) := goodIn_app (goodIn_of _ (by decide +kernel)) ggL_isGlossary_X10_pamphlets
set_option maxRecDepth 20000 in
theorem ggL_isGlossary_X10_wordsOf : GoodIn wsL_isGlossary wsX10_wordsOf := goodIn_ca (goodIn_r _ [56, 7, 57, 58, 59, 4, 60, 61, 62, 63, 64, 65, 17, 66, 67, 68, 15, 16, 18, 19, 20, 88, 89, 90, 91, 92, 93, 94, 102, 103, 104, 105, 106, 107, 108, 109, 98, 99, 100, 101] (by decide +kernel) (by decide +kernel)) (goodIn_sub (fun _ h => List.mem_cons_of_mem _ (List.mem_append_right _ h)) (by decide +kernel))
set_option maxRecDepth 20000 in
theorem gL_isGlossary_X10_wordsOf : GoodIn wsL_isGlossary (wsV RL 60 RX10 yX10_wordsOf wsX10_wordsOf) := goodIn_app (goodIn_of _ (by decide +kernel)) ggL_isGlossary_X10_wordsOf
set_option maxRecDepth 20000 in
theorem ggL_isGlossary_X10_timesOf : GoodIn wsL_isGlossary wsX10_timesOf := goodIn_ca (goodIn_r _ [72, 6, 7, 8, 9, 10, 11, 12, 13, 14, 15, 16, 17, 18, 19, 20, 21, 22, 23, 24, 25, 26, 27, 28, 29, 30, 31, 32, 33, 34, 35, 36, 37, 38, 39, 40, 41, 42, 43, 44, 45, 46, 47, 48, 73, 74, 4, 75, 61, 62, 76, 88, 89, 90, 91, 92, 93, 94, 95, 96, 97, 98, 99, 100, 101, 102, 103, 104, 105, 106, 107, 108, 109, 110] (by decide +kernel) (by decide +kernel)) (goodIn_sub (fun _ h => List.mem_cons_of_mem _ (List.mem_append_right _ h)) (by decide +kernel))
set_option maxRecDepth 20000 in
theorem gL_isGlossary_X10_timesOf : GoodIn wsL_isGlossary (wsV RL 135 RX10 yX10_timesOf wsX10_timesOf) := goodIn_app (goodIn_of _ (by decide +kernel)) ggL_isGlossary_X10_timesOf
set_option maxRecDepth 20000 in
theorem ggL_isGlossary_X10_glossaryLetter : GoodIn wsL_isGlossary wsX10_glossaryLetter := goodIn_ca (goodIn_r _ [80, 6, 7, 8, 9, 10, 11, 12, 13, 14, 15, 16, 17, 18, 19, 20, 21, 22, 23, 24, 25, 26, 27, 28, 29, 30, 31, 32, 33, 34, 35, 36, 37, 38, 39, 40, 41, 42, 43, 44, 45, 46, 47, 48, 73, 74, 4, 75, 61, 62, 81, 82, 83, 84, 85, 86, 87, 88, 89, 90, 91, 92, 93, 94, 95, 96, 97, 98, 99, 100, 101, 102, 103, 104, 105, 106, 107, 108, 109, 110] (by decide +kernel) (by decide +kernel)) (goodIn_sub (fun _ h => List.mem_cons_of_mem _ (List.mem_append_right _ h)) (by decide +kernel))
set_option maxRecDepth 20000 in
theorem gL_isGlossary_X10_glossaryLetter : GoodIn wsL_isGlossary (wsV RL 138 RX10 yX10_glossaryLetter wsX10_glossaryLetter) := goodIn_app (goodIn_of _ (by decide +kernel)) ggL_isGlossary_X10_glossaryLetter
theorem dL_isGlossary_0 : decode cL_isGlossary 0 = .ok (.aload_n 0, 1) := by decide +kernel
theorem dL_isGlossary_1 : decode cL_isGlossary 1 = .ok (.invokevirtual 132, 3) := by decide +kernel
theorem dL_isGlossary_4 : decode cL_isGlossary 4 = .ok (.istore_n 1, 1) := by decide +kernel
theorem dL_isGlossary_5 : decode cL_isGlossary 5 = .ok (.iconst 0, 1) := by decide +kernel
theorem dL_isGlossary_6 : decode cL_isGlossary 6 = .ok (.istore_n 2, 1) := by decide +kernel
theorem dL_isGlossary_7 : decode cL_isGlossary 7 = .ok (.iconst 0, 1) := by decide +kernel
theorem dL_isGlossary_8 : decode cL_isGlossary 8 = .ok (.istore_n 3, 1) := by decide +kernel
theorem dL_isGlossary_9 : decode cL_isGlossary 9 = .ok (.iconst 0, 1) := by decide +kernel
theorem dL_isGlossary_10 : decode cL_isGlossary 10 = .ok (.istore 4, 2) := by decide +kernel
theorem dL_isGlossary_12 : decode cL_isGlossary 12 = .ok (.iload 4, 2) := by decide +kernel
theorem dL_isGlossary_14 : decode cL_isGlossary 14 = .ok (.aload_n 0, 1) := by decide +kernel
theorem dL_isGlossary_15 : decode cL_isGlossary 15 = .ok (.invokevirtual 79, 3) := by decide +kernel
theorem dL_isGlossary_18 : decode cL_isGlossary 18 = .ok (.if_icmp .ge 18, 3) := by decide +kernel
theorem dL_isGlossary_21 : decode cL_isGlossary 21 = .ok (.iload_n 2, 1) := by decide +kernel
theorem dL_isGlossary_22 : decode cL_isGlossary 22 = .ok (.aload_n 0, 1) := by decide +kernel
theorem dL_isGlossary_23 : decode cL_isGlossary 23 = .ok (.iload 4, 2) := by decide +kernel
theorem dL_isGlossary_25 : decode cL_isGlossary 25 = .ok (.invokevirtual 60, 3) := by decide +kernel
theorem dL_isGlossary_28 : decode cL_isGlossary 28 = .ok (.iadd, 1) := by decide +kernel
theorem dL_isGlossary_29 : decode cL_isGlossary 29 = .ok (.istore_n 2, 1) := by decide +kernel
theorem dL_isGlossary_30 : decode cL_isGlossary 30 = .ok (.iinc 4 1, 3) := by decide +kernel
theorem dL_isGlossary_33 : decode cL_isGlossary 33 = .ok (.goto (-21), 3) := by decide +kernel
theorem dL_isGlossary_36 : decode cL_isGlossary 36 = .ok (.iconst 0, 1) := by decide +kernel
theorem dL_isGlossary_37 : decode cL_isGlossary 37 = .ok (.istore 4, 2) := by decide +kernel
theorem dL_isGlossary_39 : decode cL_isGlossary 39 = .ok (.iload 4, 2) := by decide +kernel
theorem dL_isGlossary_41 : decode cL_isGlossary 41 = .ok (.iload_n 1, 1) := by decide +kernel
theorem dL_isGlossary_42 : decode cL_isGlossary 42 = .ok (.if_icmp .ge 168, 3) := by decide +kernel
theorem dL_isGlossary_45 : decode cL_isGlossary 45 = .ok (.aload_n 0, 1) := by decide +kernel
theorem dL_isGlossary_46 : decode cL_isGlossary 46 = .ok (.iload 4, 2) := by decide +kernel
theorem dL_isGlossary_48 : decode cL_isGlossary 48 = .ok (.invokevirtual 135, 3) := by decide +kernel
theorem dL_isGlossary_51 : decode cL_isGlossary 51 = .ok (.istore 5, 2) := by decide +kernel
theorem dL_isGlossary_53 : decode cL_isGlossary 53 = .ok (.iload_n 3, 1) := by decide +kernel
theorem dL_isGlossary_54 : decode cL_isGlossary 54 = .ok (.iload 5, 2) := by decide +kernel
theorem dL_isGlossary_56 : decode cL_isGlossary 56 = .ok (.iadd, 1) := by decide +kernel
theorem dL_isGlossary_57 : decode cL_isGlossary 57 = .ok (.istore_n 3, 1) := by decide +kernel
theorem dL_isGlossary_58 : decode cL_isGlossary 58 = .ok (.iload 4, 2) := by decide +kernel
theorem dL_isGlossary_60 : decode cL_isGlossary 60 = .ok (.ifCond .eq 16, 3) := by decide +kernel
theorem dL_isGlossary_63 : decode cL_isGlossary 63 = .ok (.aload_n 0, 1) := by decide +kernel
theorem dL_isGlossary_64 : decode cL_isGlossary 64 = .ok (.iload 4, 2) := by decide +kernel
theorem dL_isGlossary_66 : decode cL_isGlossary 66 = .ok (.iconst 1, 1) := by decide +kernel
theorem dL_isGlossary_67 : decode cL_isGlossary 67 = .ok (.isub, 1) := by decide +kernel
theorem dL_isGlossary_68 : decode cL_isGlossary 68 = .ok (.invokevirtual 135, 3) := by decide +kernel
theorem dL_isGlossary_71 : decode cL_isGlossary 71 = .ok (.iload 5, 2) := by decide +kernel
theorem dL_isGlossary_73 : decode cL_isGlossary 73 = .ok (.if_icmp .le 7, 3) := by decide +kernel
theorem dL_isGlossary_76 : decode cL_isGlossary 76 = .ok (.iconst 1, 1) := by decide +kernel
theorem dL_isGlossary_77 : decode cL_isGlossary 77 = .ok (.goto 4, 3) := by decide +kernel
theorem dL_isGlossary_80 : decode cL_isGlossary 80 = .ok (.iconst 0, 1) := by decide +kernel
theorem dL_isGlossary_81 : decode cL_isGlossary 81 = .ok (.istore 6, 2) := by decide +kernel
theorem dL_isGlossary_83 : decode cL_isGlossary 83 = .ok (.iconst 0, 1) := by decide +kernel
theorem dL_isGlossary_84 : decode cL_isGlossary 84 = .ok (.istore 7, 2) := by decide +kernel
theorem dL_isGlossary_86 : decode cL_isGlossary 86 = .ok (.iload 7, 2) := by decide +kernel
theorem dL_isGlossary_88 : decode cL_isGlossary 88 = .ok (.bipush 7, 2) := by decide +kernel
theorem dL_isGlossary_90 : decode cL_isGlossary 90 = .ok (.if_icmp .ge 59, 3) := by decide +kernel
theorem dL_isGlossary_93 : decode cL_isGlossary 93 = .ok (.iload 6, 2) := by decide +kernel
theorem dL_isGlossary_95 : decode cL_isGlossary 95 = .ok (.ifCond .ne 54, 3) := by decide +kernel
theorem dL_isGlossary_98 : decode cL_isGlossary 98 = .ok (.aload_n 0, 1) := by decide +kernel
theorem dL_isGlossary_99 : decode cL_isGlossary 99 = .ok (.iload 4, 2) := by decide +kernel
theorem dL_isGlossary_101 : decode cL_isGlossary 101 = .ok (.iconst 1, 1) := by decide +kernel
theorem dL_isGlossary_102 : decode cL_isGlossary 102 = .ok (.isub, 1) := by decide +kernel
theorem dL_isGlossary_103 : decode cL_isGlossary 103 = .ok (.iload 7, 2) := by decide +kernel
theorem dL_isGlossary_105 : decode cL_isGlossary 105 = .ok (.invokevirtual 138, 3) := by decide +kernel
theorem dL_isGlossary_108 : decode cL_isGlossary 108 = .ok (.istore 8, 2) := by decide +kernel
theorem dL_isGlossary_110 : decode cL_isGlossary 110 = .ok (.aload_n 0, 1) := by decide +kernel
theorem dL_isGlossary_111 : decode cL_isGlossary 111 = .ok (.iload 4, 2) := by decide +kernel
theorem dL_isGlossary_113 : decode cL_isGlossary 113 = .ok (.iload 7, 2) := by decide +kernel
theorem dL_isGlossary_115 : decode cL_isGlossary 115 = .ok (.invokevirtual 138, 3) := by decide +kernel
theorem dL_isGlossary_118 : decode cL_isGlossary 118 = .ok (.istore 9, 2) := by decide +kernel
theorem dL_isGlossary_120 : decode cL_isGlossary 120 = .ok (.iload 8, 2) := by decide +kernel
theorem dL_isGlossary_122 : decode cL_isGlossary 122 = .ok (.iload 9, 2) := by decide +kernel
theorem dL_isGlossary_124 : decode cL_isGlossary 124 = .ok (.if_icmp .le 5, 3) := by decide +kernel
theorem dL_isGlossary_127 : decode cL_isGlossary 127 = .ok (.iconst 0, 1) := by decide +kernel
theorem dL_isGlossary_128 : decode cL_isGlossary 128 = .ok (.ireturn, 1) := by decide +kernel
theorem dL_isGlossary_129 : decode cL_isGlossary 129 = .ok (.iload 8, 2) := by decide +kernel
theorem dL_isGlossary_131 : decode cL_isGlossary 131 = .ok (.iload 9, 2) := by decide +kernel
theorem dL_isGlossary_133 : decode cL_isGlossary 133 = .ok (.if_icmp .ge 7, 3) := by decide +kernel
theorem dL_isGlossary_136 : decode cL_isGlossary 136 = .ok (.iconst 1, 1) := by decide +kernel
theorem dL_isGlossary_137 : decode cL_isGlossary 137 = .ok (.goto 4, 3) := by decide +kernel
theorem dL_isGlossary_140 : decode cL_isGlossary 140 = .ok (.iconst 0, 1) := by decide +kernel
theorem dL_isGlossary_141 : decode cL_isGlossary 141 = .ok (.istore 6, 2) := by decide +kernel
theorem dL_isGlossary_143 : decode cL_isGlossary 143 = .ok (.iinc 7 1, 3) := by decide +kernel
theorem dL_isGlossary_146 : decode cL_isGlossary 146 = .ok (.goto (-60), 3) := by decide +kernel
theorem dL_isGlossary_149 : decode cL_isGlossary 149 = .ok (.iload 6, 2) := by decide +kernel
theorem dL_isGlossary_151 : decode cL_isGlossary 151 = .ok (.ifCond .eq 51, 3) := by decide +kernel
theorem dL_isGlossary_154 : decode cL_isGlossary 154 = .ok (.iload 4, 2) := by decide +kernel
theorem dL_isGlossary_156 : decode cL_isGlossary 156 = .ok (.ifCond .le 16, 3) := by decide +kernel
theorem dL_isGlossary_159 : decode cL_isGlossary 159 = .ok (.aload_n 0, 1) := by decide +kernel
theorem dL_isGlossary_160 : decode cL_isGlossary 160 = .ok (.iload 4, 2) := by decide +kernel
theorem dL_isGlossary_162 : decode cL_isGlossary 162 = .ok (.iconst 1, 1) := by decide +kernel
theorem dL_isGlossary_163 : decode cL_isGlossary 163 = .ok (.isub, 1) := by decide +kernel
theorem dL_isGlossary_164 : decode cL_isGlossary 164 = .ok (.invokevirtual 135, 3) := by decide +kernel
theorem dL_isGlossary_167 : decode cL_isGlossary 167 = .ok (.iload 5, 2) := by decide +kernel
theorem dL_isGlossary_169 : decode cL_isGlossary 169 = .ok (.if_icmp .lt 33, 3) := by decide +kernel
theorem dL_isGlossary_172 : decode cL_isGlossary 172 = .ok (.iload 5, 2) := by decide +kernel
theorem dL_isGlossary_174 : decode cL_isGlossary 174 = .ok (.iconst 1, 1) := by decide +kernel
theorem dL_isGlossary_175 : decode cL_isGlossary 175 = .ok (.if_icmp .lt 27, 3) := by decide +kernel
theorem dL_isGlossary_178 : decode cL_isGlossary 178 = .ok (.aload_n 0, 1) := by decide +kernel
theorem dL_isGlossary_179 : decode cL_isGlossary 179 = .ok (.iload 4, 2) := by decide +kernel
theorem dL_isGlossary_181 : decode cL_isGlossary 181 = .ok (.iconst 0, 1) := by decide +kernel
theorem dL_isGlossary_182 : decode cL_isGlossary 182 = .ok (.invokevirtual 138, 3) := by decide +kernel
theorem dL_isGlossary_185 : decode cL_isGlossary 185 = .ok (.bipush 97, 2) := by decide +kernel
theorem dL_isGlossary_187 : decode cL_isGlossary 187 = .ok (.if_icmp .lt 15, 3) := by decide +kernel
theorem dL_isGlossary_190 : decode cL_isGlossary 190 = .ok (.aload_n 0, 1) := by decide +kernel
theorem dL_isGlossary_191 : decode cL_isGlossary 191 = .ok (.iload 4, 2) := by decide +kernel
theorem dL_isGlossary_193 : decode cL_isGlossary 193 = .ok (.bipush 7, 2) := by decide +kernel
theorem dL_isGlossary_195 : decode cL_isGlossary 195 = .ok (.invokevirtual 138, 3) := by decide +kernel
theorem dL_isGlossary_198 : decode cL_isGlossary 198 = .ok (.iconst (-1), 1) := by decide +kernel
theorem dL_isGlossary_199 : decode cL_isGlossary 199 = .ok (.if_icmp .eq 5, 3) := by decide +kernel
theorem dL_isGlossary_202 : decode cL_isGlossary 202 = .ok (.iconst 0, 1) := by decide +kernel
theorem dL_isGlossary_203 : decode cL_isGlossary 203 = .ok (.ireturn, 1) := by decide +kernel
theorem dL_isGlossary_204 : decode cL_isGlossary 204 = .ok (.iinc 4 1, 3) := by decide +kernel
theorem dL_isGlossary_207 : decode cL_isGlossary 207 = .ok (.goto (-168), 3) := by decide +kernel
theorem dL_isGlossary_210 : decode cL_isGlossary 210 = .ok (.iload_n 3, 1) := by decide +kernel
theorem dL_isGlossary_211 : decode cL_isGlossary 211 = .ok (.iload_n 2, 1) := by decide +kernel
theorem dL_isGlossary_212 : decode cL_isGlossary 212 = .ok (.if_icmp .ne 7, 3) := by decide +kernel
theorem dL_isGlossary_215 : decode cL_isGlossary 215 = .ok (.iconst 1, 1) := by decide +kernel
theorem dL_isGlossary_216 : decode cL_isGlossary 216 = .ok (.goto 4, 3) := by decide +kernel
theorem dL_isGlossary_219 : decode cL_isGlossary 219 = .ok (.iconst 0, 1) := by decide +kernel
theorem dL_isGlossary_220 : decode cL_isGlossary 220 = .ok (.ireturn, 1) := by decide +kernel
set_option maxRecDepth 20000 in
theorem ggL_holds_X10_errorPosition : GoodIn wsL_holds wsX10_errorPosition := goodIn_r _ [5, 6, 7, 8, 9, 10, 11, 12, 13, 14, 15, 16, 17, 18, 19, 20, 21, 22, 23, 24, 25, 26, 27, 28, 29, 30, 31, 32, 33, 34, 35, 36, 37, 38, 39, 40, 41, 42, 43, 4, 44, 45, 46, 47, 48, 49, 50, 51, 52, 53, 54, 55, 56, 57, 58, 59, 60, 61, 62, 63, 64, 65, 66, 67, 68, 69, 70, 71, 72, 73, 74, 75, 76, 77, 446, 447, 448, 449, 450, 451, 452, 453, 454, 455, 456, 457, 458, 459, 460, 461, 462, 463, 464, 465, 466, 467, 468] (by decide +kernel) (by decide +kernel)
set_option maxRecDepth 20000 in
theorem gL_holds_X10_errorPosition : GoodIn wsL_holds (wsV RL 141 RX10 yX10_errorPosition wsX10_errorPosition) := goodIn_app (goodIn_of _ (by decide +kernel)) ggL_holds_X10_errorPosition
set_option maxRecDepth 20000 in
theorem ggL_holds_L_arePamphlets : GoodIn wsL_holds wsL_arePamphlets := goodIn_ca (goodIn_r _ [81, 82, 83, 84, 4, 85, 86, 87, 88, 89, 90, 91, 92, 93, 94, 95, 96, 97, 98, 99, 100, 101, 102, 103, 104, 105, 106, 107, 108, 109, 110, 111, 112, 113, 114, 115, 116, 117, 118, 119, 19, 120, 21, 121, 122, 123, 124, 125, 126, 127, 128, 129, 130, 131, 132, 133, 134, 135, 136, 137, 24, 25, 26, 27, 28, 138, 139, 140, 141, 142, 143, 144, 145, 146, 147, 148, 149, 150, 151, 152, 153, 154, 155, 156, 22, 71, 157, 158, 159, 51, 52, 53, 160, 161, 162, 163, 164, 165, 166, 167, 168, 169, 170, 171, 172, 173, 174, 175, 176, 177, 178, 179, 180, 181, 182, 183, 184, 185, 186, 187, 188, 189, 190, 191, 192, 193, 194, 195, 196, 197, 198, 199, 200, 201, 202, 203, 446, 447, 448, 449, 450, 451, 452, 469, 470, 471, 472, 460, 461, 462, 463, 464, 465, 466, 467, 468, 473] (by decide +kernel) (by decide +kernel)) (goodIn_sub (fun _ h => List.mem_cons_of_mem _ (List.mem_append_right _ h)) (by decide +kernel))
set_option maxRecDepth 20000 in
theorem gL_holds_L_arePamphlets : GoodIn wsL_holds (va_wsS RL 144 yL_arePamphlets wsL_arePamphlets) := goodIn_app (goodIn_of _ (by decide +kernel)) ggL_holds_L_arePamphlets
set_option maxRecDepth 20000 in
theorem ggL_holds_L_isBlame : GoodIn wsL_holds wsL_isBlame := goodIn_ca (goodIn_r _ [206, 82, 83, 84, 4, 85, 86, 109, 110, 111, 112, 91, 92, 93, 94, 95, 96, 97, 98, 99, 100, 101, 102, 103, 104, 105, 106, 107, 108, 207, 208, 209, 210, 211, 133, 134, 135, 136, 212, 213, 214, 215, 216, 217, 218, 219, 24, 25, 26, 27, 28, 220, 221, 222, 223, 224, 225, 226, 227, 51, 52, 53, 228, 59, 60, 61, 229, 230, 231, 232, 233, 126, 127, 128, 234, 235, 236, 237, 238, 239, 240, 241, 242, 243, 244, 245, 246, 247, 248, 249, 250, 251, 252, 19, 253, 72, 73, 157, 254, 255, 256, 257, 258, 259, 260, 261, 262, 263, 264, 265, 22, 266, 267, 268, 80, 269, 129, 130, 131, 132, 137, 270, 271, 272, 273, 274, 275, 276, 277, 278, 279, 280, 281, 282, 283, 284, 285, 286, 287, 288, 289, 290, 291, 292, 293, 294, 295, 296, 297, 298, 299, 300, 196, 197, 198, 199, 87, 88, 89, 90, 301, 302, 303, 304, 305, 306, 307, 308, 309, 310, 311, 312, 313, 314, 315, 316, 317, 318, 319, 320, 321, 322, 323, 324, 325, 326, 327, 328, 329, 121, 122, 123, 124, 125, 117, 118, 119, 120, 21, 330, 331, 332, 333, 334, 335, 336, 337, 338, 339, 340, 341, 342, 343, 344, 345, 346, 347, 348, 349, 350, 351, 352, 353, 354, 355, 356, 357, 358, 359, 360, 361, 362, 363, 364, 365, 366, 367, 368, 369, 370, 371, 372, 373, 374, 375, 376, 377, 378, 379, 446, 447, 448, 449, 450, 451, 452, 469, 470, 471, 472, 460, 461, 462, 463, 464, 465, 466, 467, 474, 475, 476, 477, 478, 479, 480, 468] (by decide +kernel) (by decide +kernel)) (goodIn_sub (fun _ h => List.mem_cons_of_mem _ (List.mem_append_right _ h)) (by decide +kernel))
set_option maxRecDepth 20000 in
theorem gL_holds_L_isBlame : GoodIn wsL_holds (va_wsS RL 148 yL_isBlame wsL_isBlame) := goodIn_app (goodIn_of _ (by decide +kernel)) ggL_holds_L_isBlame
set_option maxRecDepth 20000 in
theorem ggL_holds_L_isGlossary : GoodIn wsL_holds wsL_isGlossary := goodIn_ca (goodIn_r _ [382, 383, 384, 385, 4, 386, 387, 86, 388, 389, 390, 391, 392, 393, 394, 104, 105, 100, 106, 107, 108, 395, 59, 60, 26, 61, 28, 396, 397, 398, 399, 400, 401, 402, 51, 52, 53, 403, 24, 25, 27, 404, 405, 406, 407, 408, 409, 410, 411, 82, 83, 84, 85, 87, 88, 89, 90, 91, 92, 93, 94, 95, 96, 97, 98, 99, 101, 102, 103, 412, 413, 414, 415, 189, 190, 191, 137, 416, 417, 418, 419, 420, 421, 422, 325, 423, 424, 425, 446, 447, 448, 449, 450, 451, 452, 481, 482, 483, 469, 470, 471, 472, 460, 461, 462, 463, 464, 465, 466, 467, 468] (by decide +kernel) (by decide +kernel)) (goodIn_sub (fun _ h => List.mem_cons_of_mem _ (List.mem_append_right _ h)) (by decide +kernel))
set_option maxRecDepth 20000 in
theorem gL_holds_L_isGlossary : GoodIn wsL_holds (va_wsS RL 151 yL_isGlossary wsL_isGlossary) := goodIn_app (goodIn_of _ (by decide +kernel)) ggL_holds_L_isGlossary
set_option maxRecDepth 20000 in
theorem ggL_holds_X10_whyNotPrinted : GoodIn wsL_holds wsX10_whyNotPrinted := goodIn_r _ [429, 86, 6, 7, 8, 9, 10, 11, 12, 13, 14, 15, 16, 17, 18, 19, 20, 21, 22, 23, 24, 25, 26, 27, 28, 29, 30, 31, 32, 33, 34, 35, 36, 37, 38, 39, 40, 41, 42, 43, 4, 44, 45, 46, 47, 48, 49, 50, 51, 52, 53, 54, 55, 56, 57, 58, 59, 60, 61, 62, 63, 64, 65, 66, 67, 68, 69, 70, 71, 72, 73, 74, 75, 76, 77, 430, 431, 432, 433, 434, 435, 436, 100, 437, 438, 439, 98, 99, 101, 102, 440, 441, 442, 443, 444, 445, 104, 105, 106, 107, 108, 446, 447, 448, 449, 450, 451, 452, 469, 470, 471, 472, 453, 454, 455, 456, 457, 458, 459, 460, 461, 462, 463, 464, 465, 466, 467, 468] (by decide +kernel) (by decide +kernel)
set_option maxRecDepth 20000 in
theorem gL_holds_X10_whyNotPrinted : GoodIn wsL_holds (wsV RL 154 RX10 yX10_whyNotPrinted wsX10_whyNotPrinted) := goodIn_app (goodIn_of _ (by decide +kernel)) ggL_holds_X10_whyNotPrinted
set_option maxRecDepth 20000 in
theorem ggL_holds_X10_pamphlets : GoodIn wsL_holds wsX10_pamphlets := goodIn_r _ [85, 86, 446, 447, 448, 449, 450, 451, 452, 469, 470, 471, 472] (by decide +kernel) (by decide +kernel)
set_option maxRecDepth 20000 in
theorem gL_holds_X10_pamphlets : GoodIn wsL_holds (wsV RL 79 RX10 yX10_pamphlets wsX10_pamphlets) := goodIn_app (goodIn_of _ (by decide +kernel)) ggL_holds_X10_pamphlets
theorem dL_holds_0 : decode cL_holds 0 = .ok (.aload_n 0, 1) := by decide +kernel
theorem dL_holds_1 : decode cL_holds 1 = .ok (.invokevirtual 141, 3) := by decide +kernel
theorem dL_holds_4 : decode cL_holds 4 = .ok (.istore_n 2, 1) := by decide +kernel
theorem dL_holds_5 : decode cL_holds 5 = .ok (.aload_n 0, 1) := by decide +kernel
theorem dL_holds_6 : decode cL_holds 6 = .ok (.invokestatic 144, 3) := by decide +kernel
theorem dL_holds_9 : decode cL_holds 9 = .ok (.ifCond .eq 55, 3) := by decide +kernel
theorem dL_holds_12 : decode cL_holds 12 = .ok (.aload_n 0, 1) := by decide +kernel
theorem dL_holds_13 : decode cL_holds 13 = .ok (.invokestatic 148, 3) := by decide +kernel
theorem dL_holds_16 : decode cL_holds 16 = .ok (.ifCond .eq 48, 3) := by decide +kernel
theorem dL_holds_19 : decode cL_holds 19 = .ok (.iload_n 1, 1) := by decide +kernel
theorem dL_holds_20 : decode cL_holds 20 = .ok (.iconst 3, 1) := by decide +kernel
theorem dL_holds_21 : decode cL_holds 21 = .ok (.irem, 1) := by decide +kernel
theorem dL_holds_22 : decode cL_holds 22 = .ok (.iconst 1, 1) := by decide +kernel
theorem dL_holds_23 : decode cL_holds 23 = .ok (.if_icmp .ne 10, 3) := by decide +kernel
theorem dL_holds_26 : decode cL_holds 26 = .ok (.aload_n 0, 1) := by decide +kernel
theorem dL_holds_27 : decode cL_holds 27 = .ok (.invokestatic 151, 3) := by decide +kernel
theorem dL_holds_30 : decode cL_holds 30 = .ok (.ifCond .eq 34, 3) := by decide +kernel
theorem dL_holds_33 : decode cL_holds 33 = .ok (.iload_n 2, 1) := by decide +kernel
theorem dL_holds_34 : decode cL_holds 34 = .ok (.ifCond .lt 30, 3) := by decide +kernel
theorem dL_holds_37 : decode cL_holds 37 = .ok (.iload_n 2, 1) := by decide +kernel
theorem dL_holds_38 : decode cL_holds 38 = .ok (.bipush 100, 2) := by decide +kernel
theorem dL_holds_40 : decode cL_holds 40 = .ok (.if_icmp .gt 24, 3) := by decide +kernel
theorem dL_holds_43 : decode cL_holds 43 = .ok (.aload_n 0, 1) := by decide +kernel
theorem dL_holds_44 : decode cL_holds 44 = .ok (.invokevirtual 154, 3) := by decide +kernel
theorem dL_holds_47 : decode cL_holds 47 = .ok (.iconst 1, 1) := by decide +kernel
theorem dL_holds_48 : decode cL_holds 48 = .ok (.if_icmp .ne 12, 3) := by decide +kernel
theorem dL_holds_51 : decode cL_holds 51 = .ok (.aload_n 0, 1) := by decide +kernel
theorem dL_holds_52 : decode cL_holds 52 = .ok (.invokevirtual 79, 3) := by decide +kernel
theorem dL_holds_55 : decode cL_holds 55 = .ok (.bipush 20, 2) := by decide +kernel
theorem dL_holds_57 : decode cL_holds 57 = .ok (.if_icmp .ne 7, 3) := by decide +kernel
theorem dL_holds_60 : decode cL_holds 60 = .ok (.iconst 1, 1) := by decide +kernel
theorem dL_holds_61 : decode cL_holds 61 = .ok (.goto 4, 3) := by decide +kernel
theorem dL_holds_64 : decode cL_holds 64 = .ok (.iconst 0, 1) := by decide +kernel
theorem dL_holds_65 : decode cL_holds 65 = .ok (.ireturn, 1) := by decide +kernel
set_option maxRecDepth 20000 in
theorem ggL_tale_X10_day : GoodIn wsL_tale wsX10_day := goodIn_r _ [6, 7, 86, 87, 88, 89, 90, 91, 92, 93, 94, 95, 96] (by decide +kernel) (by decide +kernel)
set_option maxRecDepth 20000 in
theorem gL_tale_X10_day : GoodIn wsL_tale (wsV RL 104 RX10 yX10_day wsX10_day) := goodIn_app (goodIn_of _ (by decide +kernel)) ggL_tale_X10_day
set_option maxRecDepth 20000 in
theorem ggL_tale_X10_pamphlets : GoodIn wsL_tale wsX10_pamphlets := goodIn_r _ [11, 7, 86, 87, 88, 89, 90, 91, 92, 93, 94, 95, 96] (by decide +kernel) (by decide +kernel)
set_option maxRecDepth 20000 in
theorem gL_tale_X10_pamphlets : GoodIn wsL_tale (wsV RL 79 RX10 yX10_pamphlets wsX10_pamphlets) := goodIn_app (goodIn_of _ (by decide +kernel)) ggL_tale_X10_pamphlets
set_option maxRecDepth 20000 in
theorem ggL_tale_X10_authorOf : GoodIn wsL_tale wsX10_authorOf := goodIn_ca (goodIn_r _ [15, 7, 16, 17, 18, 5, 19, 20, 21, 22, 23, 24, 25, 26, 27, 28, 29, 30, 31, 32, 33, 86, 87, 88, 89, 90, 91, 92, 97, 98, 99, 100, 101, 102, 103, 104, 93, 94, 95, 96] (by decide +kernel) (by decide +kernel)) (goodIn_sub (fun _ h => List.mem_cons_of_mem _ (List.mem_append_right _ h)) (by decide +kernel))
set_option maxRecDepth 20000 in
theorem gL_tale_X10_authorOf : GoodIn wsL_tale (wsV RL 159 RX10 yX10_authorOf wsX10_authorOf) := goodIn_app (goodIn_of _ (by decide +kernel)) ggL_tale_X10_authorOf
set_option maxRecDepth 20000 in
theorem ggL_tale_X10_dayOf : GoodIn wsL_tale wsX10_dayOf := goodIn_ca (goodIn_r _ [37, 7, 16, 17, 18, 5, 19, 20, 21, 22, 23, 24, 25, 26, 27, 28, 29, 30, 31, 32, 33, 86, 87, 88, 89, 90, 91, 92, 97, 98, 99, 100, 101, 102, 103, 104, 93, 94, 95, 96] (by decide +kernel) (by decide +kernel)) (goodIn_sub (fun _ h => List.mem_cons_of_mem _ (List.mem_append_right _ h)) (by decide +kernel))
set_option maxRecDepth 20000 in
theorem gL_tale_X10_dayOf : GoodIn wsL_tale (wsV RL 57 RX10 yX10_dayOf wsX10_dayOf) := goodIn_app (goodIn_of _ (by decide +kernel)) ggL_tale_X10_dayOf
set_option maxRecDepth 20000 in
theorem ggL_tale_X10_wordsOf : GoodIn wsL_tale wsX10_wordsOf := goodIn_ca (goodIn_r _ [41, 7, 16, 17, 18, 5, 19, 20, 21, 22, 23, 24, 25, 26, 27, 28, 29, 30, 31, 32, 33, 86, 87, 88, 89, 90, 91, 92, 97, 98, 99, 100, 101, 102, 103, 104, 93, 94, 95, 96] (by decide +kernel) (by decide +kernel)) (goodIn_sub (fun _ h => List.mem_cons_of_mem _ (List.mem_append_right _ h)) (by decide +kernel))
set_option maxRecDepth 20000 in
theorem gL_tale_X10_wordsOf : GoodIn wsL_tale (wsV RL 60 RX10 yX10_wordsOf wsX10_wordsOf) := goodIn_app (goodIn_of _ (by decide +kernel)) ggL_tale_X10_wordsOf
set_option maxRecDepth 20000 in
theorem ggL_tale_X10_letterOf : GoodIn wsL_tale wsX10_letterOf := goodIn_ca (goodIn_r _ [45, 7, 46, 47, 48, 5, 49, 20, 21, 16, 17, 18, 19, 22, 23, 24, 25, 26, 27, 28, 29, 30, 31, 32, 33, 50, 51, 52, 53, 54, 55, 56, 57, 58, 59, 60, 61, 86, 87, 88, 89, 90, 91, 92, 97, 98, 99, 100, 101, 102, 103, 104, 93, 94, 95, 96, 105] (by decide +kernel) (by decide +kernel)) (goodIn_sub (fun _ h => List.mem_cons_of_mem _ (List.mem_append_right _ h)) (by decide +kernel))
set_option maxRecDepth 20000 in
theorem gL_tale_X10_letterOf : GoodIn wsL_tale (wsV RL 162 RX10 yX10_letterOf wsX10_letterOf) := goodIn_app (goodIn_of _ (by decide +kernel)) ggL_tale_X10_letterOf
set_option maxRecDepth 20000 in
theorem ggL_tale_X10_quotationsOf : GoodIn wsL_tale wsX10_quotationsOf := goodIn_ca (goodIn_r _ [65, 7, 16, 17, 18, 5, 19, 20, 21, 22, 23, 24, 25, 26, 27, 28, 29, 30, 31, 32, 33, 86, 87, 88, 89, 90, 91, 92, 97, 98, 99, 100, 101, 102, 103, 104, 93, 94, 95, 96] (by decide +kernel) (by decide +kernel)) (goodIn_sub (fun _ h => List.mem_cons_of_mem _ (List.mem_append_right _ h)) (by decide +kernel))
set_option maxRecDepth 20000 in
theorem gL_tale_X10_quotationsOf : GoodIn wsL_tale (wsV RL 82 RX10 yX10_quotationsOf wsX10_quotationsOf) := goodIn_app (goodIn_of _ (by decide +kernel)) ggL_tale_X10_quotationsOf
set_option maxRecDepth 20000 in
theorem ggL_tale_X10_sourceOf : GoodIn wsL_tale wsX10_sourceOf := goodIn_ca (goodIn_r _ [69, 7, 70, 71, 72, 5, 73, 20, 21, 16, 17, 18, 19, 22, 23, 24, 25, 26, 27, 28, 29, 30, 31, 32, 33, 74, 75, 76, 56, 77, 58, 86, 87, 88, 89, 90, 91, 92, 97, 98, 99, 100, 101, 102, 103, 104, 93, 94, 95, 96, 105] (by decide +kernel) (by decide +kernel)) (goodIn_sub (fun _ h => List.mem_cons_of_mem _ (List.mem_append_right _ h)) (by decide +kernel))
set_option maxRecDepth 20000 in
theorem gL_tale_X10_sourceOf : GoodIn wsL_tale (wsV RL 30 RX10 yX10_sourceOf wsX10_sourceOf) := goodIn_app (goodIn_of _ (by decide +kernel)) ggL_tale_X10_sourceOf
set_option maxRecDepth 20000 in
theorem ggL_tale_X10_beginOf : GoodIn wsL_tale wsX10_beginOf := goodIn_ca (goodIn_r _ [81, 7, 70, 71, 72, 5, 73, 20, 21, 16, 17, 18, 19, 22, 23, 24, 25, 26, 27, 28, 29, 30, 31, 32, 33, 74, 75, 76, 56, 77, 58, 86, 87, 88, 89, 90, 91, 92, 97, 98, 99, 100, 101, 102, 103, 104, 93, 94, 95, 96, 105] (by decide +kernel) (by decide +kernel)) (goodIn_sub (fun _ h => List.mem_cons_of_mem _ (List.mem_append_right _ h)) (by decide +kernel))
set_option maxRecDepth 20000 in
theorem gL_tale_X10_beginOf : GoodIn wsL_tale (wsV RL 33 RX10 yX10_beginOf wsX10_beginOf) := goodIn_app (goodIn_of _ (by decide +kernel)) ggL_tale_X10_beginOf
set_option maxRecDepth 20000 in
theorem ggL_tale_X10_lengthOf : GoodIn wsL_tale wsX10_lengthOf := goodIn_ca (goodIn_r _ [85, 7, 70, 71, 72, 5, 73, 20, 21, 16, 17, 18, 19, 22, 23, 24, 25, 26, 27, 28, 29, 30, 31, 32, 33, 74, 75, 76, 56, 77, 58, 86, 87, 88, 89, 90, 91, 92, 97, 98, 99, 100, 101, 102, 103, 104, 93, 94, 95, 96, 105] (by decide +kernel) (by decide +kernel)) (goodIn_sub (fun _ h => List.mem_cons_of_mem _ (List.mem_append_right _ h)) (by decide +kernel))
set_option maxRecDepth 20000 in
theorem gL_tale_X10_lengthOf : GoodIn wsL_tale (wsV RL 36 RX10 yX10_lengthOf wsX10_lengthOf) := goodIn_app (goodIn_of _ (by decide +kernel)) ggL_tale_X10_lengthOf
theorem dL_tale_0 : decode cL_tale 0 = .ok (.ldc2_w 157, 3) := by decide +kernel
theorem dL_tale_3 : decode cL_tale 3 = .ok (.aload_n 0, 1) := by decide +kernel
theorem dL_tale_4 : decode cL_tale 4 = .ok (.invokevirtual 104, 3) := by decide +kernel
theorem dL_tale_7 : decode cL_tale 7 = .ok (.i2l, 1) := by decide +kernel
theorem dL_tale_8 : decode cL_tale 8 = .ok (.lmul, 1) := by decide +kernel
theorem dL_tale_9 : decode cL_tale 9 = .ok (.aload_n 0, 1) := by decide +kernel
theorem dL_tale_10 : decode cL_tale 10 = .ok (.invokevirtual 79, 3) := by decide +kernel
theorem dL_tale_13 : decode cL_tale 13 = .ok (.i2l, 1) := by decide +kernel
theorem dL_tale_14 : decode cL_tale 14 = .ok (.ladd, 1) := by decide +kernel
theorem dL_tale_15 : decode cL_tale 15 = .ok (.lstore_n 1, 1) := by decide +kernel
theorem dL_tale_16 : decode cL_tale 16 = .ok (.iconst 0, 1) := by decide +kernel
theorem dL_tale_17 : decode cL_tale 17 = .ok (.istore_n 3, 1) := by decide +kernel
theorem dL_tale_18 : decode cL_tale 18 = .ok (.iload_n 3, 1) := by decide +kernel
theorem dL_tale_19 : decode cL_tale 19 = .ok (.aload_n 0, 1) := by decide +kernel
theorem dL_tale_20 : decode cL_tale 20 = .ok (.invokevirtual 79, 3) := by decide +kernel
theorem dL_tale_23 : decode cL_tale 23 = .ok (.if_icmp .ge 167, 3) := by decide +kernel
theorem dL_tale_26 : decode cL_tale 26 = .ok (.ldc2_w 157, 3) := by decide +kernel
theorem dL_tale_29 : decode cL_tale 29 = .ok (.ldc2_w 157, 3) := by decide +kernel
theorem dL_tale_32 : decode cL_tale 32 = .ok (.ldc2_w 157, 3) := by decide +kernel
theorem dL_tale_35 : decode cL_tale 35 = .ok (.lload_n 1, 1) := by decide +kernel
theorem dL_tale_36 : decode cL_tale 36 = .ok (.lmul, 1) := by decide +kernel
theorem dL_tale_37 : decode cL_tale 37 = .ok (.aload_n 0, 1) := by decide +kernel
theorem dL_tale_38 : decode cL_tale 38 = .ok (.iload_n 3, 1) := by decide +kernel
theorem dL_tale_39 : decode cL_tale 39 = .ok (.invokevirtual 159, 3) := by decide +kernel
theorem dL_tale_42 : decode cL_tale 42 = .ok (.i2l, 1) := by decide +kernel
theorem dL_tale_43 : decode cL_tale 43 = .ok (.ladd, 1) := by decide +kernel
theorem dL_tale_44 : decode cL_tale 44 = .ok (.lmul, 1) := by decide +kernel
theorem dL_tale_45 : decode cL_tale 45 = .ok (.aload_n 0, 1) := by decide +kernel
theorem dL_tale_46 : decode cL_tale 46 = .ok (.iload_n 3, 1) := by decide +kernel
theorem dL_tale_47 : decode cL_tale 47 = .ok (.invokevirtual 57, 3) := by decide +kernel
theorem dL_tale_50 : decode cL_tale 50 = .ok (.i2l, 1) := by decide +kernel
theorem dL_tale_51 : decode cL_tale 51 = .ok (.ladd, 1) := by decide +kernel
theorem dL_tale_52 : decode cL_tale 52 = .ok (.lmul, 1) := by decide +kernel
theorem dL_tale_53 : decode cL_tale 53 = .ok (.aload_n 0, 1) := by decide +kernel
theorem dL_tale_54 : decode cL_tale 54 = .ok (.iload_n 3, 1) := by decide +kernel
theorem dL_tale_55 : decode cL_tale 55 = .ok (.invokevirtual 60, 3) := by decide +kernel
theorem dL_tale_58 : decode cL_tale 58 = .ok (.i2l, 1) := by decide +kernel
theorem dL_tale_59 : decode cL_tale 59 = .ok (.ladd, 1) := by decide +kernel
theorem dL_tale_60 : decode cL_tale 60 = .ok (.lstore_n 1, 1) := by decide +kernel
theorem dL_tale_61 : decode cL_tale 61 = .ok (.iconst 0, 1) := by decide +kernel
theorem dL_tale_62 : decode cL_tale 62 = .ok (.istore 4, 2) := by decide +kernel
theorem dL_tale_64 : decode cL_tale 64 = .ok (.iload 4, 2) := by decide +kernel
theorem dL_tale_66 : decode cL_tale 66 = .ok (.aload_n 0, 1) := by decide +kernel
theorem dL_tale_67 : decode cL_tale 67 = .ok (.iload_n 3, 1) := by decide +kernel
theorem dL_tale_68 : decode cL_tale 68 = .ok (.invokevirtual 60, 3) := by decide +kernel
theorem dL_tale_71 : decode cL_tale 71 = .ok (.if_icmp .ge 53, 3) := by decide +kernel
theorem dL_tale_74 : decode cL_tale 74 = .ok (.ldc2_w 157, 3) := by decide +kernel
theorem dL_tale_77 : decode cL_tale 77 = .ok (.ldc2_w 157, 3) := by decide +kernel
theorem dL_tale_80 : decode cL_tale 80 = .ok (.ldc2_w 157, 3) := by decide +kernel
theorem dL_tale_83 : decode cL_tale 83 = .ok (.lload_n 1, 1) := by decide +kernel
theorem dL_tale_84 : decode cL_tale 84 = .ok (.lmul, 1) := by decide +kernel
theorem dL_tale_85 : decode cL_tale 85 = .ok (.aload_n 0, 1) := by decide +kernel
theorem dL_tale_86 : decode cL_tale 86 = .ok (.iload_n 3, 1) := by decide +kernel
theorem dL_tale_87 : decode cL_tale 87 = .ok (.iload 4, 2) := by decide +kernel
theorem dL_tale_89 : decode cL_tale 89 = .ok (.iconst 0, 1) := by decide +kernel
theorem dL_tale_90 : decode cL_tale 90 = .ok (.invokevirtual 162, 3) := by decide +kernel
theorem dL_tale_93 : decode cL_tale 93 = .ok (.i2l, 1) := by decide +kernel
theorem dL_tale_94 : decode cL_tale 94 = .ok (.ladd, 1) := by decide +kernel
theorem dL_tale_95 : decode cL_tale 95 = .ok (.lmul, 1) := by decide +kernel
theorem dL_tale_96 : decode cL_tale 96 = .ok (.aload_n 0, 1) := by decide +kernel
theorem dL_tale_97 : decode cL_tale 97 = .ok (.iload_n 3, 1) := by decide +kernel
theorem dL_tale_98 : decode cL_tale 98 = .ok (.iload 4, 2) := by decide +kernel
theorem dL_tale_100 : decode cL_tale 100 = .ok (.iconst 1, 1) := by decide +kernel
theorem dL_tale_101 : decode cL_tale 101 = .ok (.invokevirtual 162, 3) := by decide +kernel
theorem dL_tale_104 : decode cL_tale 104 = .ok (.i2l, 1) := by decide +kernel
theorem dL_tale_105 : decode cL_tale 105 = .ok (.ladd, 1) := by decide +kernel
theorem dL_tale_106 : decode cL_tale 106 = .ok (.lmul, 1) := by decide +kernel
theorem dL_tale_107 : decode cL_tale 107 = .ok (.aload_n 0, 1) := by decide +kernel
theorem dL_tale_108 : decode cL_tale 108 = .ok (.iload_n 3, 1) := by decide +kernel
theorem dL_tale_109 : decode cL_tale 109 = .ok (.iload 4, 2) := by decide +kernel
theorem dL_tale_111 : decode cL_tale 111 = .ok (.iconst 2, 1) := by decide +kernel
theorem dL_tale_112 : decode cL_tale 112 = .ok (.invokevirtual 162, 3) := by decide +kernel
theorem dL_tale_115 : decode cL_tale 115 = .ok (.i2l, 1) := by decide +kernel
theorem dL_tale_116 : decode cL_tale 116 = .ok (.ladd, 1) := by decide +kernel
theorem dL_tale_117 : decode cL_tale 117 = .ok (.lstore_n 1, 1) := by decide +kernel
theorem dL_tale_118 : decode cL_tale 118 = .ok (.iinc 4 1, 3) := by decide +kernel
theorem dL_tale_121 : decode cL_tale 121 = .ok (.goto (-57), 3) := by decide +kernel
theorem dL_tale_124 : decode cL_tale 124 = .ok (.iconst 0, 1) := by decide +kernel
theorem dL_tale_125 : decode cL_tale 125 = .ok (.istore 4, 2) := by decide +kernel
theorem dL_tale_127 : decode cL_tale 127 = .ok (.iload 4, 2) := by decide +kernel
theorem dL_tale_129 : decode cL_tale 129 = .ok (.aload_n 0, 1) := by decide +kernel
theorem dL_tale_130 : decode cL_tale 130 = .ok (.iload_n 3, 1) := by decide +kernel
theorem dL_tale_131 : decode cL_tale 131 = .ok (.invokevirtual 82, 3) := by decide +kernel
theorem dL_tale_134 : decode cL_tale 134 = .ok (.if_icmp .ge 50, 3) := by decide +kernel
theorem dL_tale_137 : decode cL_tale 137 = .ok (.ldc2_w 157, 3) := by decide +kernel
theorem dL_tale_140 : decode cL_tale 140 = .ok (.ldc2_w 157, 3) := by decide +kernel
theorem dL_tale_143 : decode cL_tale 143 = .ok (.ldc2_w 157, 3) := by decide +kernel
theorem dL_tale_146 : decode cL_tale 146 = .ok (.lload_n 1, 1) := by decide +kernel
theorem dL_tale_147 : decode cL_tale 147 = .ok (.lmul, 1) := by decide +kernel
theorem dL_tale_148 : decode cL_tale 148 = .ok (.aload_n 0, 1) := by decide +kernel
theorem dL_tale_149 : decode cL_tale 149 = .ok (.iload_n 3, 1) := by decide +kernel
theorem dL_tale_150 : decode cL_tale 150 = .ok (.iload 4, 2) := by decide +kernel
theorem dL_tale_152 : decode cL_tale 152 = .ok (.invokevirtual 30, 3) := by decide +kernel
theorem dL_tale_155 : decode cL_tale 155 = .ok (.i2l, 1) := by decide +kernel
theorem dL_tale_156 : decode cL_tale 156 = .ok (.ladd, 1) := by decide +kernel
theorem dL_tale_157 : decode cL_tale 157 = .ok (.lmul, 1) := by decide +kernel
theorem dL_tale_158 : decode cL_tale 158 = .ok (.aload_n 0, 1) := by decide +kernel
theorem dL_tale_159 : decode cL_tale 159 = .ok (.iload_n 3, 1) := by decide +kernel
theorem dL_tale_160 : decode cL_tale 160 = .ok (.iload 4, 2) := by decide +kernel
theorem dL_tale_162 : decode cL_tale 162 = .ok (.invokevirtual 33, 3) := by decide +kernel
theorem dL_tale_165 : decode cL_tale 165 = .ok (.i2l, 1) := by decide +kernel
theorem dL_tale_166 : decode cL_tale 166 = .ok (.ladd, 1) := by decide +kernel
theorem dL_tale_167 : decode cL_tale 167 = .ok (.lmul, 1) := by decide +kernel
theorem dL_tale_168 : decode cL_tale 168 = .ok (.aload_n 0, 1) := by decide +kernel
theorem dL_tale_169 : decode cL_tale 169 = .ok (.iload_n 3, 1) := by decide +kernel
theorem dL_tale_170 : decode cL_tale 170 = .ok (.iload 4, 2) := by decide +kernel
theorem dL_tale_172 : decode cL_tale 172 = .ok (.invokevirtual 36, 3) := by decide +kernel
theorem dL_tale_175 : decode cL_tale 175 = .ok (.i2l, 1) := by decide +kernel
theorem dL_tale_176 : decode cL_tale 176 = .ok (.ladd, 1) := by decide +kernel
theorem dL_tale_177 : decode cL_tale 177 = .ok (.lstore_n 1, 1) := by decide +kernel
theorem dL_tale_178 : decode cL_tale 178 = .ok (.iinc 4 1, 3) := by decide +kernel
theorem dL_tale_181 : decode cL_tale 181 = .ok (.goto (-54), 3) := by decide +kernel
theorem dL_tale_184 : decode cL_tale 184 = .ok (.iinc 3 1, 3) := by decide +kernel
theorem dL_tale_187 : decode cL_tale 187 = .ok (.goto (-169), 3) := by decide +kernel
theorem dL_tale_190 : decode cL_tale 190 = .ok (.lload_n 1, 1) := by decide +kernel
theorem dL_tale_191 : decode cL_tale 191 = .ok (.lreturn, 1) := by decide +kernel
set_option maxRecDepth 20000 in
theorem ggL_typeWord_L_low : GoodIn wsL_typeWord wsL_low := goodIn_r _ [4, 5] (by decide +kernel) (by decide +kernel)
set_option maxRecDepth 20000 in
theorem gL_typeWord_L_low : GoodIn wsL_typeWord (va_wsS RL 166 yL_low wsL_low) := goodIn_app (goodIn_of _ (by decide +kernel)) ggL_typeWord_L_low
set_option maxRecDepth 20000 in
theorem ggL_typeWord_X10_append : GoodIn wsL_typeWord wsX10_append := goodIn_ca (goodIn_ca (goodIn_r _ [10, 11, 12, 13, 14, 15, 16, 17, 18, 19, 20, 21, 22, 23, 24, 25, 26, 27, 28, 29, 30, 31, 32, 33, 34, 35, 36, 37, 38] (by decide +kernel) (by decide +kernel)) (goodIn_sub (fun _ h => List.mem_cons_of_mem _ (List.mem_append_left _ (List.mem_append_right _ h))) (by decide +kernel))) (goodIn_sub (fun _ h => List.mem_cons_of_mem _ (List.mem_append_right _ h)) (by decide +kernel))
set_option maxRecDepth 20000 in
theorem gL_typeWord_X10_append : GoodIn wsL_typeWord (wsV RL 169 RX10 yX10_append wsX10_append) := goodIn_app (goodIn_of _ (by decide +kernel)) ggL_typeWord_X10_append
theorem dL_typeWord_0 : decode cL_typeWord 0 = .ok (.aload_n 0, 1) := by decide +kernel
theorem dL_typeWord_1 : decode cL_typeWord 1 = .ok (.bipush 97, 2) := by decide +kernel
theorem dL_typeWord_3 : decode cL_typeWord 3 = .ok (.iload_n 1, 1) := by decide +kernel
theorem dL_typeWord_4 : decode cL_typeWord 4 = .ok (.iconst 3, 1) := by decide +kernel
theorem dL_typeWord_5 : decode cL_typeWord 5 = .ok (.invokestatic 166, 3) := by decide +kernel
theorem dL_typeWord_8 : decode cL_typeWord 8 = .ok (.iadd, 1) := by decide +kernel
theorem dL_typeWord_9 : decode cL_typeWord 9 = .ok (.invokevirtual 169, 3) := by decide +kernel
theorem dL_typeWord_12 : decode cL_typeWord 12 = .ok (.istore_n 2, 1) := by decide +kernel
theorem dL_typeWord_13 : decode cL_typeWord 13 = .ok (.iload_n 1, 1) := by decide +kernel
theorem dL_typeWord_14 : decode cL_typeWord 14 = .ok (.iconst 3, 1) := by decide +kernel
theorem dL_typeWord_15 : decode cL_typeWord 15 = .ok (.ishr, 1) := by decide +kernel
theorem dL_typeWord_16 : decode cL_typeWord 16 = .ok (.iconst 3, 1) := by decide +kernel
theorem dL_typeWord_17 : decode cL_typeWord 17 = .ok (.invokestatic 166, 3) := by decide +kernel
theorem dL_typeWord_20 : decode cL_typeWord 20 = .ok (.ifCond .le 20, 3) := by decide +kernel
theorem dL_typeWord_23 : decode cL_typeWord 23 = .ok (.aload_n 0, 1) := by decide +kernel
theorem dL_typeWord_24 : decode cL_typeWord 24 = .ok (.bipush 97, 2) := by decide +kernel
theorem dL_typeWord_26 : decode cL_typeWord 26 = .ok (.iload_n 1, 1) := by decide +kernel
theorem dL_typeWord_27 : decode cL_typeWord 27 = .ok (.iconst 5, 1) := by decide +kernel
theorem dL_typeWord_28 : decode cL_typeWord 28 = .ok (.ishr, 1) := by decide +kernel
theorem dL_typeWord_29 : decode cL_typeWord 29 = .ok (.iconst 2, 1) := by decide +kernel
theorem dL_typeWord_30 : decode cL_typeWord 30 = .ok (.invokestatic 166, 3) := by decide +kernel
theorem dL_typeWord_33 : decode cL_typeWord 33 = .ok (.iadd, 1) := by decide +kernel
theorem dL_typeWord_34 : decode cL_typeWord 34 = .ok (.invokevirtual 169, 3) := by decide +kernel
theorem dL_typeWord_37 : decode cL_typeWord 37 = .ok (.goto 4, 3) := by decide +kernel
theorem dL_typeWord_40 : decode cL_typeWord 40 = .ok (.iload_n 2, 1) := by decide +kernel
theorem dL_typeWord_41 : decode cL_typeWord 41 = .ok (.istore_n 2, 1) := by decide +kernel
theorem dL_typeWord_42 : decode cL_typeWord 42 = .ok (.iload_n 1, 1) := by decide +kernel
theorem dL_typeWord_43 : decode cL_typeWord 43 = .ok (.iconst 3, 1) := by decide +kernel
theorem dL_typeWord_44 : decode cL_typeWord 44 = .ok (.ishr, 1) := by decide +kernel
theorem dL_typeWord_45 : decode cL_typeWord 45 = .ok (.bipush 9, 2) := by decide +kernel
theorem dL_typeWord_47 : decode cL_typeWord 47 = .ok (.invokestatic 166, 3) := by decide +kernel
theorem dL_typeWord_50 : decode cL_typeWord 50 = .ok (.bipush 8, 2) := by decide +kernel
theorem dL_typeWord_52 : decode cL_typeWord 52 = .ok (.if_icmp .ne 12, 3) := by decide +kernel
theorem dL_typeWord_55 : decode cL_typeWord 55 = .ok (.aload_n 0, 1) := by decide +kernel
theorem dL_typeWord_56 : decode cL_typeWord 56 = .ok (.bipush 122, 2) := by decide +kernel
theorem dL_typeWord_58 : decode cL_typeWord 58 = .ok (.invokevirtual 169, 3) := by decide +kernel
theorem dL_typeWord_61 : decode cL_typeWord 61 = .ok (.goto 4, 3) := by decide +kernel
theorem dL_typeWord_64 : decode cL_typeWord 64 = .ok (.iload_n 2, 1) := by decide +kernel
theorem dL_typeWord_65 : decode cL_typeWord 65 = .ok (.ireturn, 1) := by decide +kernel
set_option maxRecDepth 20000 in
theorem ggL_typeSame_X10_pamphlets : GoodIn wsL_typeSame wsX10_pamphlets := goodIn_r _ [5, 6, 77, 78, 79, 80, 81, 82, 83, 84, 85, 86, 87] (by decide +kernel) (by decide +kernel)
set_option maxRecDepth 20000 in
theorem gL_typeSame_X10_pamphlets : GoodIn wsL_typeSame (wsV RL 79 RX10 yX10_pamphlets wsX10_pamphlets) := goodIn_app (goodIn_of _ (by decide +kernel)) ggL_typeSame_X10_pamphlets
set_option maxRecDepth 20000 in
theorem ggL_typeSame_L_low : GoodIn wsL_typeSame wsL_low := goodIn_r _ [10, 11] (by decide +kernel) (by decide +kernel)
set_option maxRecDepth 20000 in
theorem gL_typeSame_L_low : GoodIn wsL_typeSame (va_wsS RL 166 yL_low wsL_low) := goodIn_app (goodIn_of _ (by decide +kernel)) ggL_typeSame_L_low
set_option maxRecDepth 20000 in
theorem ggL_typeSame_L_typeWord : GoodIn wsL_typeSame wsL_typeWord := goodIn_ca (goodIn_ca (goodIn_r _ [14, 7, 8, 9, 10, 11, 15, 16, 17, 4, 18, 19, 20, 21, 22, 23, 24, 25, 26, 27, 28, 29, 30, 31, 32, 33, 34, 35, 36, 77, 78, 79, 80, 81, 82, 83, 88, 89, 90] (by decide +kernel) (by decide +kernel)) (goodIn_sub (fun _ h => List.mem_cons_of_mem _ (List.mem_append_left _ (List.mem_append_left _ (List.mem_append_right _ h)))) (by decide +kernel))) (goodIn_sub (fun _ h => List.mem_cons_of_mem _ (List.mem_append_left _ (List.mem_append_right _ h))) (by decide +kernel))
set_option maxRecDepth 20000 in
theorem gL_typeSame_L_typeWord : GoodIn wsL_typeSame (va_wsS RL 172 yL_typeWord wsL_typeWord) := goodIn_app (goodIn_of _ (by decide +kernel)) ggL_typeSame_L_typeWord
set_option maxRecDepth 20000 in
theorem ggL_typeSame_X10_wordsOf : GoodIn wsL_typeSame wsX10_wordsOf := goodIn_ca (goodIn_r _ [40, 6, 41, 42, 43, 4, 44, 45, 46, 47, 48, 49, 50, 51, 52, 53, 54, 55, 56, 57, 58, 77, 78, 79, 80, 81, 82, 83, 91, 92, 93, 94, 95, 96, 97, 98, 84, 85, 86, 87] (by decide +kernel) (by decide +kernel)) (goodIn_sub (fun _ h => List.mem_cons_of_mem _ (List.mem_append_right _ h)) (by decide +kernel))
set_option maxRecDepth 20000 in
theorem gL_typeSame_X10_wordsOf : GoodIn wsL_typeSame (wsV RL 60 RX10 yX10_wordsOf wsX10_wordsOf) := goodIn_app (goodIn_of _ (by decide +kernel)) ggL_typeSame_X10_wordsOf
set_option maxRecDepth 20000 in
theorem ggL_typeSame_X10_letterOf : GoodIn wsL_typeSame wsX10_letterOf := goodIn_ca (goodIn_r _ [62, 6, 63, 64, 65, 4, 66, 45, 46, 41, 42, 43, 44, 47, 48, 49, 50, 51, 52, 53, 54, 55, 56, 57, 58, 67, 68, 69, 70, 71, 72, 34, 73, 36, 74, 75, 76, 77, 78, 79, 80, 81, 82, 83, 91, 92, 93, 94, 95, 96, 97, 98, 84, 85, 86, 87, 90] (by decide +kernel) (by decide +kernel)) (goodIn_sub (fun _ h => List.mem_cons_of_mem _ (List.mem_append_right _ h)) (by decide +kernel))
set_option maxRecDepth 20000 in
theorem gL_typeSame_X10_letterOf : GoodIn wsL_typeSame (wsV RL 162 RX10 yX10_letterOf wsX10_letterOf) := goodIn_app (goodIn_of _ (by decide +kernel)) ggL_typeSame_X10_letterOf
set_option maxRecDepth 20000 in
theorem ggL_typeSame_X10_append : GoodIn wsL_typeSame wsX10_append := goodIn_ca (goodIn_ca (goodIn_r _ [18, 19, 20, 21, 22, 23, 24, 25, 26, 27, 28, 29, 30, 31, 32, 33, 34, 35, 36, 77, 78, 79, 80, 81, 82, 83, 88, 89, 90] (by decide +kernel) (by decide +kernel)) (goodIn_sub (fun _ h => List.mem_cons_of_mem _ (List.mem_append_left _ (List.mem_append_left _ (List.mem_append_right _ h)))) (by decide +kernel))) (goodIn_sub (fun _ h => List.mem_cons_of_mem _ (List.mem_append_left _ (List.mem_append_right _ h))) (by decide +kernel))
set_option maxRecDepth 20000 in
theorem gL_typeSame_X10_append : GoodIn wsL_typeSame (wsV RL 169 RX10 yX10_append wsX10_append) := goodIn_app (goodIn_of _ (by decide +kernel)) ggL_typeSame_X10_append
theorem dL_typeSame_0 : decode cL_typeSame 0 = .ok (.iload_n 1, 1) := by decide +kernel
theorem dL_typeSame_1 : decode cL_typeSame 1 = .ok (.aload_n 0, 1) := by decide +kernel
theorem dL_typeSame_2 : decode cL_typeSame 2 = .ok (.invokevirtual 79, 3) := by decide +kernel
theorem dL_typeSame_5 : decode cL_typeSame 5 = .ok (.if_icmp .ge 12, 3) := by decide +kernel
theorem dL_typeSame_8 : decode cL_typeSame 8 = .ok (.iload_n 3, 1) := by decide +kernel
theorem dL_typeSame_9 : decode cL_typeSame 9 = .ok (.bipush 6, 2) := by decide +kernel
theorem dL_typeSame_11 : decode cL_typeSame 11 = .ok (.invokestatic 166, 3) := by decide +kernel
theorem dL_typeSame_14 : decode cL_typeSame 14 = .ok (.ifCond .ne 9, 3) := by decide +kernel
theorem dL_typeSame_17 : decode cL_typeSame 17 = .ok (.aload_n 0, 1) := by decide +kernel
theorem dL_typeSame_18 : decode cL_typeSame 18 = .ok (.iload_n 3, 1) := by decide +kernel
theorem dL_typeSame_19 : decode cL_typeSame 19 = .ok (.invokestatic 172, 3) := by decide +kernel
theorem dL_typeSame_22 : decode cL_typeSame 22 = .ok (.ireturn, 1) := by decide +kernel
theorem dL_typeSame_23 : decode cL_typeSame 23 = .ok (.iconst 0, 1) := by decide +kernel
theorem dL_typeSame_24 : decode cL_typeSame 24 = .ok (.istore 4, 2) := by decide +kernel
theorem dL_typeSame_26 : decode cL_typeSame 26 = .ok (.iconst 0, 1) := by decide +kernel
theorem dL_typeSame_27 : decode cL_typeSame 27 = .ok (.istore 5, 2) := by decide +kernel
theorem dL_typeSame_29 : decode cL_typeSame 29 = .ok (.iload 5, 2) := by decide +kernel
theorem dL_typeSame_31 : decode cL_typeSame 31 = .ok (.iconst 3, 1) := by decide +kernel
theorem dL_typeSame_32 : decode cL_typeSame 32 = .ok (.if_icmp .ge 47, 3) := by decide +kernel
theorem dL_typeSame_35 : decode cL_typeSame 35 = .ok (.aload_n 0, 1) := by decide +kernel
theorem dL_typeSame_36 : decode cL_typeSame 36 = .ok (.iload_n 1, 1) := by decide +kernel
theorem dL_typeSame_37 : decode cL_typeSame 37 = .ok (.iload_n 2, 1) := by decide +kernel
theorem dL_typeSame_38 : decode cL_typeSame 38 = .ok (.aload_n 0, 1) := by decide +kernel
theorem dL_typeSame_39 : decode cL_typeSame 39 = .ok (.iload_n 1, 1) := by decide +kernel
theorem dL_typeSame_40 : decode cL_typeSame 40 = .ok (.invokevirtual 60, 3) := by decide +kernel
theorem dL_typeSame_43 : decode cL_typeSame 43 = .ok (.irem, 1) := by decide +kernel
theorem dL_typeSame_44 : decode cL_typeSame 44 = .ok (.iload 5, 2) := by decide +kernel
theorem dL_typeSame_46 : decode cL_typeSame 46 = .ok (.invokevirtual 162, 3) := by decide +kernel
theorem dL_typeSame_49 : decode cL_typeSame 49 = .ok (.iconst (-1), 1) := by decide +kernel
theorem dL_typeSame_50 : decode cL_typeSame 50 = .ok (.if_icmp .eq 29, 3) := by decide +kernel
theorem dL_typeSame_53 : decode cL_typeSame 53 = .ok (.aload_n 0, 1) := by decide +kernel
theorem dL_typeSame_54 : decode cL_typeSame 54 = .ok (.aload_n 0, 1) := by decide +kernel
theorem dL_typeSame_55 : decode cL_typeSame 55 = .ok (.iload_n 1, 1) := by decide +kernel
theorem dL_typeSame_56 : decode cL_typeSame 56 = .ok (.iload_n 2, 1) := by decide +kernel
theorem dL_typeSame_57 : decode cL_typeSame 57 = .ok (.aload_n 0, 1) := by decide +kernel
theorem dL_typeSame_58 : decode cL_typeSame 58 = .ok (.iload_n 1, 1) := by decide +kernel
theorem dL_typeSame_59 : decode cL_typeSame 59 = .ok (.invokevirtual 60, 3) := by decide +kernel
theorem dL_typeSame_62 : decode cL_typeSame 62 = .ok (.irem, 1) := by decide +kernel
theorem dL_typeSame_63 : decode cL_typeSame 63 = .ok (.iload 5, 2) := by decide +kernel
theorem dL_typeSame_65 : decode cL_typeSame 65 = .ok (.invokevirtual 162, 3) := by decide +kernel
theorem dL_typeSame_68 : decode cL_typeSame 68 = .ok (.invokevirtual 169, 3) := by decide +kernel
theorem dL_typeSame_71 : decode cL_typeSame 71 = .ok (.istore 4, 2) := by decide +kernel
theorem dL_typeSame_73 : decode cL_typeSame 73 = .ok (.iinc 5 1, 3) := by decide +kernel
theorem dL_typeSame_76 : decode cL_typeSame 76 = .ok (.goto (-47), 3) := by decide +kernel
theorem dL_typeSame_79 : decode cL_typeSame 79 = .ok (.iload 4, 2) := by decide +kernel
theorem dL_typeSame_81 : decode cL_typeSame 81 = .ok (.ireturn, 1) := by decide +kernel
set_option maxRecDepth 20000 in
theorem ggL_typeQuotation_L_low : GoodIn wsL_typeQuotation wsL_low := goodIn_r _ [4, 5] (by decide +kernel) (by decide +kernel)
set_option maxRecDepth 20000 in
theorem gL_typeQuotation_L_low : GoodIn wsL_typeQuotation (va_wsS RL 166 yL_low wsL_low) := goodIn_app (goodIn_of _ (by decide +kernel)) ggL_typeQuotation_L_low
set_option maxRecDepth 20000 in
theorem ggL_typeQuotation_X10_append : GoodIn wsL_typeQuotation wsX10_append := goodIn_ca (goodIn_ca (goodIn_r _ [10, 11, 12, 13, 14, 15, 16, 17, 18, 19, 20, 21, 22, 23, 24, 25, 26, 27, 28, 80, 81, 82, 83, 84, 85, 86, 87, 88, 89] (by decide +kernel) (by decide +kernel)) (goodIn_sub (fun _ h => List.mem_cons_of_mem _ (List.mem_append_left _ (List.mem_append_left _ (List.mem_append_right _ h)))) (by decide +kernel))) (goodIn_sub (fun _ h => List.mem_cons_of_mem _ (List.mem_append_left _ (List.mem_append_right _ h))) (by decide +kernel))
set_option maxRecDepth 20000 in
theorem gL_typeQuotation_X10_append : GoodIn wsL_typeQuotation (wsV RL 169 RX10 yX10_append wsX10_append) := goodIn_app (goodIn_of _ (by decide +kernel)) ggL_typeQuotation_X10_append
set_option maxRecDepth 20000 in
theorem ggL_typeQuotation_L_typeSame : GoodIn wsL_typeQuotation wsL_typeSame := goodIn_ca (goodIn_ca (goodIn_ca (goodIn_r _ [31, 32, 33, 34, 9, 35, 36, 1, 2, 3, 4, 5, 37, 38, 39, 6, 7, 8, 10, 11, 12, 13, 14, 15, 16, 17, 18, 19, 20, 21, 22, 23, 24, 25, 26, 27, 28, 40, 41, 42, 43, 44, 45, 46, 47, 48, 49, 50, 51, 52, 53, 54, 55, 56, 57, 58, 59, 60, 61, 62, 63, 64, 65, 66, 67, 68, 69, 70, 71, 72, 73, 74, 75, 76, 77, 78, 79, 80, 81, 82, 83, 84, 85, 86, 90, 91, 92, 93, 87, 88, 89, 94, 95, 96, 97, 98, 99, 100, 101] (by decide +kernel) (by decide +kernel)) (goodIn_sub (fun _ h => List.mem_cons_of_mem _ (List.mem_append_left _ (List.mem_append_left _ (List.mem_append_right _ h)))) (by decide +kernel))) (goodIn_sub (fun _ h => List.mem_cons_of_mem _ (List.mem_append_left _ (List.mem_append_right _ h))) (by decide +kernel))) (goodIn_sub (fun _ h => List.mem_cons_of_mem _ (List.mem_append_right _ h)) (by decide +kernel))
set_option maxRecDepth 20000 in
theorem gL_typeQuotation_L_typeSame : GoodIn wsL_typeQuotation (va_wsS RL 176 yL_typeSame wsL_typeSame) := goodIn_app (goodIn_of _ (by decide +kernel)) ggL_typeQuotation_L_typeSame
theorem dL_typeQuotation_0 : decode cL_typeQuotation 0 = .ok (.iconst 1, 1) := by decide +kernel
theorem dL_typeQuotation_1 : decode cL_typeQuotation 1 = .ok (.iload_n 2, 1) := by decide +kernel
theorem dL_typeQuotation_2 : decode cL_typeQuotation 2 = .ok (.iconst 2, 1) := by decide +kernel
theorem dL_typeQuotation_3 : decode cL_typeQuotation 3 = .ok (.ishr, 1) := by decide +kernel
theorem dL_typeQuotation_4 : decode cL_typeQuotation 4 = .ok (.iconst 4, 1) := by decide +kernel
theorem dL_typeQuotation_5 : decode cL_typeQuotation 5 = .ok (.invokestatic 166, 3) := by decide +kernel
theorem dL_typeQuotation_8 : decode cL_typeQuotation 8 = .ok (.iadd, 1) := by decide +kernel
theorem dL_typeQuotation_9 : decode cL_typeQuotation 9 = .ok (.istore_n 3, 1) := by decide +kernel
theorem dL_typeQuotation_10 : decode cL_typeQuotation 10 = .ok (.iload_n 2, 1) := by decide +kernel
theorem dL_typeQuotation_11 : decode cL_typeQuotation 11 = .ok (.bipush 6, 2) := by decide +kernel
theorem dL_typeQuotation_13 : decode cL_typeQuotation 13 = .ok (.ishr, 1) := by decide +kernel
theorem dL_typeQuotation_14 : decode cL_typeQuotation 14 = .ok (.bipush 20, 2) := by decide +kernel
theorem dL_typeQuotation_16 : decode cL_typeQuotation 16 = .ok (.invokestatic 166, 3) := by decide +kernel
theorem dL_typeQuotation_19 : decode cL_typeQuotation 19 = .ok (.istore 4, 2) := by decide +kernel
theorem dL_typeQuotation_21 : decode cL_typeQuotation 21 = .ok (.aload_n 0, 1) := by decide +kernel
theorem dL_typeQuotation_22 : decode cL_typeQuotation 22 = .ok (.bipush 34, 2) := by decide +kernel
theorem dL_typeQuotation_24 : decode cL_typeQuotation 24 = .ok (.invokevirtual 169, 3) := by decide +kernel
theorem dL_typeQuotation_27 : decode cL_typeQuotation 27 = .ok (.istore 5, 2) := by decide +kernel
theorem dL_typeQuotation_29 : decode cL_typeQuotation 29 = .ok (.iconst 0, 1) := by decide +kernel
theorem dL_typeQuotation_30 : decode cL_typeQuotation 30 = .ok (.istore 6, 2) := by decide +kernel
theorem dL_typeQuotation_32 : decode cL_typeQuotation 32 = .ok (.iload 6, 2) := by decide +kernel
theorem dL_typeQuotation_34 : decode cL_typeQuotation 34 = .ok (.iload_n 3, 1) := by decide +kernel
theorem dL_typeQuotation_35 : decode cL_typeQuotation 35 = .ok (.if_icmp .ge 67, 3) := by decide +kernel
theorem dL_typeQuotation_38 : decode cL_typeQuotation 38 = .ok (.iload 6, 2) := by decide +kernel
theorem dL_typeQuotation_40 : decode cL_typeQuotation 40 = .ok (.ifCond .le 12, 3) := by decide +kernel
theorem dL_typeQuotation_43 : decode cL_typeQuotation 43 = .ok (.aload_n 0, 1) := by decide +kernel
theorem dL_typeQuotation_44 : decode cL_typeQuotation 44 = .ok (.bipush 32, 2) := by decide +kernel
theorem dL_typeQuotation_46 : decode cL_typeQuotation 46 = .ok (.invokevirtual 169, 3) := by decide +kernel
theorem dL_typeQuotation_49 : decode cL_typeQuotation 49 = .ok (.goto 5, 3) := by decide +kernel
theorem dL_typeQuotation_52 : decode cL_typeQuotation 52 = .ok (.iload 5, 2) := by decide +kernel
theorem dL_typeQuotation_54 : decode cL_typeQuotation 54 = .ok (.istore 5, 2) := by decide +kernel
theorem dL_typeQuotation_56 : decode cL_typeQuotation 56 = .ok (.aload_n 0, 1) := by decide +kernel
theorem dL_typeQuotation_57 : decode cL_typeQuotation 57 = .ok (.iload_n 1, 1) := by decide +kernel
theorem dL_typeQuotation_58 : decode cL_typeQuotation 58 = .ok (.iload 4, 2) := by decide +kernel
theorem dL_typeQuotation_60 : decode cL_typeQuotation 60 = .ok (.iload 6, 2) := by decide +kernel
theorem dL_typeQuotation_62 : decode cL_typeQuotation 62 = .ok (.iadd, 1) := by decide +kernel
theorem dL_typeQuotation_63 : decode cL_typeQuotation 63 = .ok (.iload_n 2, 1) := by decide +kernel
theorem dL_typeQuotation_64 : decode cL_typeQuotation 64 = .ok (.bipush 9, 2) := by decide +kernel
theorem dL_typeQuotation_66 : decode cL_typeQuotation 66 = .ok (.ishr, 1) := by decide +kernel
theorem dL_typeQuotation_67 : decode cL_typeQuotation 67 = .ok (.iconst 5, 1) := by decide +kernel
theorem dL_typeQuotation_68 : decode cL_typeQuotation 68 = .ok (.invokestatic 166, 3) := by decide +kernel
theorem dL_typeQuotation_71 : decode cL_typeQuotation 71 = .ok (.ifCond .ne 8, 3) := by decide +kernel
theorem dL_typeQuotation_74 : decode cL_typeQuotation 74 = .ok (.iload 6, 2) := by decide +kernel
theorem dL_typeQuotation_76 : decode cL_typeQuotation 76 = .ok (.goto 4, 3) := by decide +kernel
theorem dL_typeQuotation_79 : decode cL_typeQuotation 79 = .ok (.iconst 0, 1) := by decide +kernel
theorem dL_typeQuotation_80 : decode cL_typeQuotation 80 = .ok (.iadd, 1) := by decide +kernel
theorem dL_typeQuotation_81 : decode cL_typeQuotation 81 = .ok (.iload_n 2, 1) := by decide +kernel
theorem dL_typeQuotation_82 : decode cL_typeQuotation 82 = .ok (.iload 6, 2) := by decide +kernel
theorem dL_typeQuotation_84 : decode cL_typeQuotation 84 = .ok (.ishr, 1) := by decide +kernel
theorem dL_typeQuotation_85 : decode cL_typeQuotation 85 = .ok (.bipush 7, 2) := by decide +kernel
theorem dL_typeQuotation_87 : decode cL_typeQuotation 87 = .ok (.iload 6, 2) := by decide +kernel
theorem dL_typeQuotation_89 : decode cL_typeQuotation 89 = .ok (.imul, 1) := by decide +kernel
theorem dL_typeQuotation_90 : decode cL_typeQuotation 90 = .ok (.ixor, 1) := by decide +kernel
theorem dL_typeQuotation_91 : decode cL_typeQuotation 91 = .ok (.invokestatic 176, 3) := by decide +kernel
theorem dL_typeQuotation_94 : decode cL_typeQuotation 94 = .ok (.istore 5, 2) := by decide +kernel
theorem dL_typeQuotation_96 : decode cL_typeQuotation 96 = .ok (.iinc 6 1, 3) := by decide +kernel
theorem dL_typeQuotation_99 : decode cL_typeQuotation 99 = .ok (.goto (-67), 3) := by decide +kernel
theorem dL_typeQuotation_102 : decode cL_typeQuotation 102 = .ok (.aload_n 0, 1) := by decide +kernel
theorem dL_typeQuotation_103 : decode cL_typeQuotation 103 = .ok (.bipush 34, 2) := by decide +kernel
theorem dL_typeQuotation_105 : decode cL_typeQuotation 105 = .ok (.invokevirtual 169, 3) := by decide +kernel
theorem dL_typeQuotation_108 : decode cL_typeQuotation 108 = .ok (.aload_n 0, 1) := by decide +kernel
theorem dL_typeQuotation_109 : decode cL_typeQuotation 109 = .ok (.bipush 64, 2) := by decide +kernel
theorem dL_typeQuotation_111 : decode cL_typeQuotation 111 = .ok (.invokevirtual 169, 3) := by decide +kernel
theorem dL_typeQuotation_114 : decode cL_typeQuotation 114 = .ok (.iadd, 1) := by decide +kernel
theorem dL_typeQuotation_115 : decode cL_typeQuotation 115 = .ok (.istore 5, 2) := by decide +kernel
theorem dL_typeQuotation_117 : decode cL_typeQuotation 117 = .ok (.iload_n 1, 1) := by decide +kernel
theorem dL_typeQuotation_118 : decode cL_typeQuotation 118 = .ok (.bipush 9, 2) := by decide +kernel
theorem dL_typeQuotation_120 : decode cL_typeQuotation 120 = .ok (.if_icmp .le 12, 3) := by decide +kernel
theorem dL_typeQuotation_123 : decode cL_typeQuotation 123 = .ok (.aload_n 0, 1) := by decide +kernel
theorem dL_typeQuotation_124 : decode cL_typeQuotation 124 = .ok (.bipush 49, 2) := by decide +kernel
theorem dL_typeQuotation_126 : decode cL_typeQuotation 126 = .ok (.invokevirtual 169, 3) := by decide +kernel
theorem dL_typeQuotation_129 : decode cL_typeQuotation 129 = .ok (.goto 5, 3) := by decide +kernel
theorem dL_typeQuotation_132 : decode cL_typeQuotation 132 = .ok (.iload 5, 2) := by decide +kernel
theorem dL_typeQuotation_134 : decode cL_typeQuotation 134 = .ok (.istore 5, 2) := by decide +kernel
theorem dL_typeQuotation_136 : decode cL_typeQuotation 136 = .ok (.aload_n 0, 1) := by decide +kernel
theorem dL_typeQuotation_137 : decode cL_typeQuotation 137 = .ok (.bipush 48, 2) := by decide +kernel
theorem dL_typeQuotation_139 : decode cL_typeQuotation 139 = .ok (.iload_n 1, 1) := by decide +kernel
theorem dL_typeQuotation_140 : decode cL_typeQuotation 140 = .ok (.bipush 10, 2) := by decide +kernel
theorem dL_typeQuotation_142 : decode cL_typeQuotation 142 = .ok (.irem, 1) := by decide +kernel
theorem dL_typeQuotation_143 : decode cL_typeQuotation 143 = .ok (.iadd, 1) := by decide +kernel
theorem dL_typeQuotation_144 : decode cL_typeQuotation 144 = .ok (.invokevirtual 169, 3) := by decide +kernel
theorem dL_typeQuotation_147 : decode cL_typeQuotation 147 = .ok (.ireturn, 1) := by decide +kernel
