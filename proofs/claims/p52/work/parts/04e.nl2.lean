theorem dL_cell_0 : decode cL_cell 0 = .ok (.iload_n 1, 1) := by decide +kernel
theorem dL_cell_1 : decode cL_cell 1 = .ok (.aload_n 0, 1) := by decide +kernel
theorem dL_cell_2 : decode cL_cell 2 = .ok (.arraylength, 1) := by decide +kernel
theorem dL_cell_3 : decode cL_cell 3 = .ok (.if_icmp .ge 9, 3) := by decide +kernel
theorem dL_cell_6 : decode cL_cell 6 = .ok (.aload_n 0, 1) := by decide +kernel
theorem dL_cell_7 : decode cL_cell 7 = .ok (.iload_n 1, 1) := by decide +kernel
theorem dL_cell_8 : decode cL_cell 8 = .ok (.iaload, 1) := by decide +kernel
theorem dL_cell_9 : decode cL_cell 9 = .ok (.goto 12, 3) := by decide +kernel
theorem dL_cell_12 : decode cL_cell 12 = .ok (.ldc 7, 2) := by decide +kernel
theorem dL_cell_14 : decode cL_cell 14 = .ok (.iload_n 1, 1) := by decide +kernel
theorem dL_cell_15 : decode cL_cell 15 = .ok (.iconst 5, 1) := by decide +kernel
theorem dL_cell_16 : decode cL_cell 16 = .ok (.iadd, 1) := by decide +kernel
theorem dL_cell_17 : decode cL_cell 17 = .ok (.imul, 1) := by decide +kernel
theorem dL_cell_18 : decode cL_cell 18 = .ok (.ldc 8, 2) := by decide +kernel
theorem dL_cell_20 : decode cL_cell 20 = .ok (.iadd, 1) := by decide +kernel
theorem dL_cell_21 : decode cL_cell 21 = .ok (.ireturn, 1) := by decide +kernel
theorem dL_low_0 : decode cL_low 0 = .ok (.iload_n 0, 1) := by decide +kernel
theorem dL_low_1 : decode cL_low 1 = .ok (.ldc 9, 2) := by decide +kernel
theorem dL_low_3 : decode cL_low 3 = .ok (.iand, 1) := by decide +kernel
theorem dL_low_4 : decode cL_low 4 = .ok (.iload_n 1, 1) := by decide +kernel
theorem dL_low_5 : decode cL_low 5 = .ok (.irem, 1) := by decide +kernel
theorem dL_low_6 : decode cL_low 6 = .ok (.ireturn, 1) := by decide +kernel
set_option maxRecDepth 20000 in
theorem ggL_tryPrint_X10_print : GoodIn wsL_tryPrint wsX10_print := goodIn_ca (goodIn_ca (goodIn_r _ [7, 8, 9, 10, 11, 12, 13, 14, 15, 16, 17, 6, 18, 19, 20, 21, 22, 23, 24, 25, 26, 27, 28, 29, 30, 31, 32, 33, 34, 35, 36, 37, 38, 39, 40, 41, 42, 43, 44, 45, 46, 47, 48, 49, 50, 51, 52, 53, 54, 55, 56, 57, 58, 59, 60, 61, 62, 63, 64, 65, 66, 67, 68, 69, 70, 71, 72, 73, 74, 75, 76, 77, 78, 79, 80, 81, 82, 83, 84, 85, 86, 87, 88, 89, 90, 91, 92, 93, 94, 95, 96, 97, 98, 99, 100, 101, 102, 103, 104, 105, 106, 107, 108, 109, 110, 111, 112, 113, 114, 115, 116, 117, 118, 119, 120, 121, 122, 123, 124, 125, 126, 127, 128, 129, 130, 131, 132, 133, 134, 135, 136, 137, 138, 139, 140, 141, 142, 143, 144, 145, 146, 147, 148, 149, 150, 151, 152, 153, 154, 155, 156, 157, 158, 159, 160, 161, 162, 163, 164, 165, 166, 167, 168, 169, 170, 171, 172, 173, 174, 175, 176, 177, 178, 179, 180, 181, 182, 183, 184] (by decide +kernel) (by decide +kernel)) (goodIn_sub (fun _ h => List.mem_cons_of_mem _ (List.mem_append_left _ (List.mem_append_right _ h))) (by decide +kernel))) (goodIn_sub (fun _ h => List.mem_cons_of_mem _ (List.mem_append_right _ h)) (by decide +kernel))
set_option maxRecDepth 20000 in
theorem gL_tryPrint_X10_print : GoodIn wsL_tryPrint (wsV RL 10 RX10 yX10_print wsX10_print) := goodIn_app (goodIn_of _ (by decide +kernel)) ggL_tryPrint_X10_print
theorem dL_tryPrint_0 : decode cL_tryPrint 0 = .ok (.aload_n 0, 1) := by decide +kernel
theorem dL_tryPrint_1 : decode cL_tryPrint 1 = .ok (.iload_n 1, 1) := by decide +kernel
theorem dL_tryPrint_2 : decode cL_tryPrint 2 = .ok (.invokevirtual 10, 3) := by decide +kernel
theorem dL_tryPrint_5 : decode cL_tryPrint 5 = .ok (.ireturn, 1) := by decide +kernel
theorem dL_tryPrint_6 : decode cL_tryPrint 6 = .ok (.astore_n 2, 1) := by decide +kernel
theorem dL_tryPrint_7 : decode cL_tryPrint 7 = .ok (.sipush (-7001), 3) := by decide +kernel
theorem dL_tryPrint_10 : decode cL_tryPrint 10 = .ok (.ireturn, 1) := by decide +kernel
theorem dL_tryPrint_11 : decode cL_tryPrint 11 = .ok (.astore_n 2, 1) := by decide +kernel
theorem dL_tryPrint_12 : decode cL_tryPrint 12 = .ok (.sipush (-7002), 3) := by decide +kernel
theorem dL_tryPrint_15 : decode cL_tryPrint 15 = .ok (.ireturn, 1) := by decide +kernel
set_option maxRecDepth 20000 in
theorem ggL_tryMend_X10_mend : GoodIn wsL_tryMend wsX10_mend := goodIn_ca (goodIn_ca (goodIn_r _ [7, 8, 9, 10, 11, 12, 13, 14, 15, 6, 16, 17, 18, 19, 20, 21, 22, 23, 24, 25, 26, 27, 28, 29, 30, 31, 32, 33, 34, 35, 36, 37, 38, 39, 40, 41, 42, 43, 44, 45, 46, 47, 48, 49, 50, 51, 52, 53, 54, 55, 56, 57, 58, 59, 60, 61, 62, 63, 64, 65, 66, 67, 68, 69, 70, 71, 72, 73, 74, 75, 76, 77, 78, 79, 80, 81, 82, 83, 84, 85, 86, 87, 88, 89, 90, 91, 92, 93, 94, 95, 96, 97, 98, 99, 100, 101, 102, 103, 104, 105, 106, 107, 108, 109, 110, 111, 112, 113, 114, 115, 116, 117, 118, 119, 120, 121, 122, 123, 124, 125, 126, 127, 128, 129, 130, 131, 132, 133, 134, 135, 136, 137, 138, 139, 140, 141, 142, 143, 144, 145, 146, 147, 148, 149, 150, 151, 152, 153, 154, 155, 156, 157, 158, 159, 160, 161, 162, 163, 164, 165, 166, 167, 168, 169, 170, 171, 172] (by decide +kernel) (by decide +kernel)) (goodIn_sub (fun _ h => List.mem_cons_of_mem _ (List.mem_append_left _ (List.mem_append_right _ h))) (by decide +kernel))) (goodIn_sub (fun _ h => List.mem_cons_of_mem _ (List.mem_append_right _ h)) (by decide +kernel))
set_option maxRecDepth 20000 in
theorem gL_tryMend_X10_mend : GoodIn wsL_tryMend (wsV RL 20 RX10 yX10_mend wsX10_mend) := goodIn_app (goodIn_of _ (by decide +kernel)) ggL_tryMend_X10_mend
theorem dL_tryMend_0 : decode cL_tryMend 0 = .ok (.aload_n 0, 1) := by decide +kernel
theorem dL_tryMend_1 : decode cL_tryMend 1 = .ok (.iload_n 1, 1) := by decide +kernel
theorem dL_tryMend_2 : decode cL_tryMend 2 = .ok (.iload_n 2, 1) := by decide +kernel
theorem dL_tryMend_3 : decode cL_tryMend 3 = .ok (.invokevirtual 20, 3) := by decide +kernel
theorem dL_tryMend_6 : decode cL_tryMend 6 = .ok (.ireturn, 1) := by decide +kernel
theorem dL_tryMend_7 : decode cL_tryMend 7 = .ok (.astore_n 3, 1) := by decide +kernel
theorem dL_tryMend_8 : decode cL_tryMend 8 = .ok (.sipush (-7003), 3) := by decide +kernel
theorem dL_tryMend_11 : decode cL_tryMend 11 = .ok (.ireturn, 1) := by decide +kernel
theorem dL_tryMend_12 : decode cL_tryMend 12 = .ok (.astore_n 3, 1) := by decide +kernel
theorem dL_tryMend_13 : decode cL_tryMend 13 = .ok (.sipush (-7002), 3) := by decide +kernel
theorem dL_tryMend_16 : decode cL_tryMend 16 = .ok (.ireturn, 1) := by decide +kernel
set_option maxRecDepth 20000 in
theorem ggL_tryWithdraw_X10_withdraw : GoodIn wsL_tryWithdraw wsX10_withdraw := goodIn_ca (goodIn_r _ [6, 7, 8, 9, 10, 11, 12, 13, 14, 15, 16, 17, 18, 19, 20, 21, 22, 23, 24, 25, 26, 27, 28, 29, 30, 31, 32, 33, 34, 35, 36, 37, 38, 39, 40, 41, 42, 43, 44, 45, 46, 47, 48, 49, 50, 51, 52, 53, 54, 55, 56, 57, 58, 59, 60, 61, 62, 63, 64, 65, 66, 67, 68, 69, 70, 71, 72, 73, 74, 75, 76, 77, 78, 79, 80, 81, 82, 83, 84] (by decide +kernel) (by decide +kernel)) (goodIn_sub (fun _ h => List.mem_cons_of_mem _ (List.mem_append_right _ h)) (by decide +kernel))
set_option maxRecDepth 20000 in
theorem gL_tryWithdraw_X10_withdraw : GoodIn wsL_tryWithdraw (wsV RL 26 RX10 yX10_withdraw wsX10_withdraw) := goodIn_app (goodIn_of _ (by decide +kernel)) ggL_tryWithdraw_X10_withdraw
theorem dL_tryWithdraw_0 : decode cL_tryWithdraw 0 = .ok (.aload_n 0, 1) := by decide +kernel
theorem dL_tryWithdraw_1 : decode cL_tryWithdraw 1 = .ok (.invokevirtual 26, 3) := by decide +kernel
theorem dL_tryWithdraw_4 : decode cL_tryWithdraw 4 = .ok (.ireturn, 1) := by decide +kernel
theorem dL_tryWithdraw_5 : decode cL_tryWithdraw 5 = .ok (.astore_n 1, 1) := by decide +kernel
theorem dL_tryWithdraw_6 : decode cL_tryWithdraw 6 = .ok (.sipush (-7002), 3) := by decide +kernel
theorem dL_tryWithdraw_9 : decode cL_tryWithdraw 9 = .ok (.ireturn, 1) := by decide +kernel
set_option maxRecDepth 20000 in
theorem ggL_isQuotation_X10_sourceOf : GoodIn wsL_isQuotation wsX10_sourceOf := goodIn_ca (goodIn_r _ [5, 6, 7, 8, 9, 4, 10, 11, 12, 13, 14, 15, 16, 17, 18, 19, 20, 21, 22, 23, 24, 25, 26, 27, 28, 29, 30, 31, 32, 33, 34, 186, 187, 188, 189, 190, 191, 192, 193, 194, 195, 196, 197, 198, 199, 200, 201, 202, 203, 204, 205] (by decide +kernel) (by decide +kernel)) (goodIn_sub (fun _ h => List.mem_cons_of_mem _ (List.mem_append_right _ h)) (by decide +kernel))
set_option maxRecDepth 20000 in
theorem gL_isQuotation_X10_sourceOf : GoodIn wsL_isQuotation (wsV RL 30 RX10 yX10_sourceOf wsX10_sourceOf) := goodIn_app (goodIn_of _ (by decide +kernel)) ggL_isQuotation_X10_sourceOf
set_option maxRecDepth 20000 in
theorem ggL_isQuotation_X10_beginOf : GoodIn wsL_isQuotation wsX10_beginOf := goodIn_ca (goodIn_r _ [38, 6, 7, 8, 9, 4, 10, 11, 12, 13, 14, 15, 16, 17, 18, 19, 20, 21, 22, 23, 24, 25, 26, 27, 28, 29, 30, 31, 32, 33, 34, 186, 187, 188, 189, 190, 191, 192, 193, 194, 195, 196, 197, 198, 199, 200, 201, 202, 203, 204, 205] (by decide +kernel) (by decide +kernel)) (goodIn_sub (fun _ h => List.mem_cons_of_mem _ (List.mem_append_right _ h)) (by decide +kernel))
set_option maxRecDepth 20000 in
theorem gL_isQuotation_X10_beginOf : GoodIn wsL_isQuotation (wsV RL 33 RX10 yX10_beginOf wsX10_beginOf) := goodIn_app (goodIn_of _ (by decide +kernel)) ggL_isQuotation_X10_beginOf
set_option maxRecDepth 20000 in
theorem ggL_isQuotation_X10_lengthOf : GoodIn wsL_isQuotation wsX10_lengthOf := goodIn_ca (goodIn_r _ [42, 6, 7, 8, 9, 4, 10, 11, 12, 13, 14, 15, 16, 17, 18, 19, 20, 21, 22, 23, 24, 25, 26, 27, 28, 29, 30, 31, 32, 33, 34, 186, 187, 188, 189, 190, 191, 192, 193, 194, 195, 196, 197, 198, 199, 200, 201, 202, 203, 204, 205] (by decide +kernel) (by decide +kernel)) (goodIn_sub (fun _ h => List.mem_cons_of_mem _ (List.mem_append_right _ h)) (by decide +kernel))
set_option maxRecDepth 20000 in
theorem gL_isQuotation_X10_lengthOf : GoodIn wsL_isQuotation (wsV RL 36 RX10 yX10_lengthOf wsX10_lengthOf) := goodIn_app (goodIn_of _ (by decide +kernel)) ggL_isQuotation_X10_lengthOf
set_option maxRecDepth 20000 in
theorem ggL_isQuotation_X10_changesByTable : GoodIn wsL_isQuotation wsX10_changesByTable := goodIn_ca (goodIn_r _ [46, 47, 6, 7, 8, 9, 4, 10, 11, 12, 13, 14, 15, 16, 17, 18, 19, 20, 21, 22, 23, 24, 25, 26, 27, 28, 48, 49, 50, 51, 52, 53, 54, 55, 30, 31, 32, 33, 34, 56, 57, 58, 59, 60, 61, 62, 63, 64, 65, 66, 67, 68, 69, 70, 71, 72, 73, 74, 75, 76, 77, 78, 79, 80, 81, 82, 83, 84, 85, 186, 187, 188, 189, 190, 191, 192, 193, 194, 195, 196, 197, 198, 199, 200, 201, 202, 203, 204, 206, 207, 208, 209, 210, 211, 212, 205] (by decide +kernel) (by decide +kernel)) (goodIn_sub (fun _ h => List.mem_cons_of_mem _ (List.mem_append_right _ h)) (by decide +kernel))
set_option maxRecDepth 20000 in
theorem gL_isQuotation_X10_changesByTable : GoodIn wsL_isQuotation (wsV RL 39 RX10 yX10_changesByTable wsX10_changesByTable) := goodIn_app (goodIn_of _ (by decide +kernel)) ggL_isQuotation_X10_changesByTable
set_option maxRecDepth 20000 in
theorem ggL_isQuotation_X10_passageOf : GoodIn wsL_isQuotation wsX10_passageOf := goodIn_ca (goodIn_r _ [89, 47, 6, 7, 8, 9, 4, 10, 11, 12, 13, 14, 15, 16, 17, 18, 19, 20, 21, 22, 23, 24, 25, 26, 27, 28, 48, 49, 50, 51, 52, 53, 54, 55, 30, 31, 32, 33, 34, 56, 57, 58, 59, 60, 61, 62, 63, 64, 65, 66, 67, 68, 69, 70, 71, 72, 73, 74, 75, 76, 77, 78, 79, 80, 81, 82, 83, 84, 85, 186, 187, 188, 189, 190, 191, 192, 206, 207, 208, 209, 210, 211, 212, 193, 194, 195, 196, 197, 198, 199, 200, 201, 202, 203, 204, 205] (by decide +kernel) (by decide +kernel)) (goodIn_sub (fun _ h => List.mem_cons_of_mem _ (List.mem_append_right _ h)) (by decide +kernel))
set_option maxRecDepth 20000 in
theorem gL_isQuotation_X10_passageOf : GoodIn wsL_isQuotation (wsV RL 42 RX10 yX10_passageOf wsX10_passageOf) := goodIn_app (goodIn_of _ (by decide +kernel)) ggL_isQuotation_X10_passageOf
set_option maxRecDepth 20000 in
theorem ggL_isQuotation_X10_passageLength : GoodIn wsL_isQuotation wsX10_passageLength := goodIn_ca (goodIn_r _ [93, 47, 6, 7, 8, 9, 4, 10, 11, 12, 13, 14, 15, 16, 17, 18, 19, 20, 21, 22, 23, 24, 25, 26, 27, 28, 48, 49, 50, 51, 52, 53, 54, 55, 30, 31, 32, 33, 34, 56, 57, 58, 59, 60, 61, 62, 63, 64, 65, 66, 67, 68, 69, 70, 71, 72, 73, 74, 75, 76, 77, 78, 79, 80, 81, 82, 83, 84, 85, 186, 187, 188, 189, 190, 191, 192, 206, 207, 208, 209, 210, 211, 212, 193, 194, 195, 196, 197, 198, 199, 200, 201, 202, 203, 204, 205] (by decide +kernel) (by decide +kernel)) (goodIn_sub (fun _ h => List.mem_cons_of_mem _ (List.mem_append_right _ h)) (by decide +kernel))
set_option maxRecDepth 20000 in
theorem gL_isQuotation_X10_passageLength : GoodIn wsL_isQuotation (wsV RL 45 RX10 yX10_passageLength wsX10_passageLength) := goodIn_app (goodIn_of _ (by decide +kernel)) ggL_isQuotation_X10_passageLength
set_option maxRecDepth 20000 in
theorem ggL_isQuotation_X10_comesFrom : GoodIn wsL_isQuotation wsX10_comesFrom := goodIn_ca (goodIn_r _ [97, 47, 6, 7, 8, 9, 4, 10, 11, 12, 13, 14, 15, 16, 17, 18, 19, 20, 21, 22, 23, 24, 25, 26, 27, 28, 98, 99, 100, 51, 101, 53, 102, 49, 50, 52, 54, 55, 30, 31, 32, 33, 34, 56, 57, 58, 59, 60, 61, 62, 63, 64, 65, 66, 67, 68, 69, 70, 71, 72, 73, 74, 75, 76, 77, 78, 79, 80, 81, 82, 83, 84, 85, 103, 104, 105, 106, 107, 108, 109, 110, 111, 112, 113, 114, 115, 186, 187, 188, 189, 190, 191, 192, 193, 194, 195, 196, 197, 198, 199, 200, 201, 202, 203, 204, 206, 207, 208, 209, 210, 211, 212, 205] (by decide +kernel) (by decide +kernel)) (goodIn_sub (fun _ h => List.mem_cons_of_mem _ (List.mem_append_right _ h)) (by decide +kernel))
set_option maxRecDepth 20000 in
theorem gL_isQuotation_X10_comesFrom : GoodIn wsL_isQuotation (wsV RL 48 RX10 yX10_comesFrom wsX10_comesFrom) := goodIn_app (goodIn_of _ (by decide +kernel)) ggL_isQuotation_X10_comesFrom
set_option maxRecDepth 20000 in
theorem ggL_isQuotation_X10_traceOf : GoodIn wsL_isQuotation wsX10_traceOf := goodIn_ca (goodIn_r _ [119, 47, 6, 7, 8, 9, 4, 10, 11, 12, 13, 14, 15, 16, 17, 18, 19, 20, 21, 22, 23, 24, 25, 26, 27, 28, 120, 121, 122, 51, 123, 124, 125, 54, 55, 30, 31, 32, 33, 34, 126, 99, 100, 101, 53, 102, 49, 50, 52, 56, 57, 58, 59, 60, 61, 62, 63, 64, 65, 66, 67, 68, 69, 70, 71, 72, 73, 74, 75, 76, 77, 78, 79, 80, 81, 82, 83, 84, 85, 103, 104, 105, 106, 107, 108, 109, 110, 111, 112, 113, 114, 115, 186, 187, 188, 189, 190, 191, 192, 206, 207, 208, 193, 194, 195, 196, 197, 198, 199, 200, 201, 202, 203, 204, 205, 209, 210, 211, 212] (by decide +kernel) (by decide +kernel)) (goodIn_sub (fun _ h => List.mem_cons_of_mem _ (List.mem_append_right _ h)) (by decide +kernel))
set_option maxRecDepth 20000 in
theorem gL_isQuotation_X10_traceOf : GoodIn wsL_isQuotation (wsV RL 51 RX10 yX10_traceOf wsX10_traceOf) := goodIn_app (goodIn_of _ (by decide +kernel)) ggL_isQuotation_X10_traceOf
set_option maxRecDepth 20000 in
theorem ggL_isQuotation_X10_originOf : GoodIn wsL_isQuotation wsX10_originOf := goodIn_ca (goodIn_r _ [130, 47, 6, 7, 8, 9, 4, 10, 11, 12, 13, 14, 15, 16, 17, 18, 19, 20, 21, 22, 23, 24, 25, 26, 27, 28, 120, 121, 122, 51, 123, 124, 125, 54, 55, 30, 31, 32, 33, 34, 126, 99, 100, 101, 53, 102, 49, 50, 52, 56, 57, 58, 59, 60, 61, 62, 63, 64, 65, 66, 67, 68, 69, 70, 71, 72, 73, 74, 75, 76, 77, 78, 79, 80, 81, 82, 83, 84, 85, 103, 104, 105, 106, 107, 108, 109, 110, 111, 112, 113, 114, 115, 186, 187, 188, 189, 190, 191, 192, 206, 207, 208, 193, 194, 195, 196, 197, 198, 199, 200, 201, 202, 203, 204, 205, 209, 210, 211, 212] (by decide +kernel) (by decide +kernel)) (goodIn_sub (fun _ h => List.mem_cons_of_mem _ (List.mem_append_right _ h)) (by decide +kernel))
set_option maxRecDepth 20000 in
theorem gL_isQuotation_X10_originOf : GoodIn wsL_isQuotation (wsV RL 54 RX10 yX10_originOf wsX10_originOf) := goodIn_app (goodIn_of _ (by decide +kernel)) ggL_isQuotation_X10_originOf
set_option maxRecDepth 20000 in
theorem ggL_isQuotation_X10_dayOf : GoodIn wsL_isQuotation wsX10_dayOf := goodIn_ca (goodIn_r _ [134, 6, 13, 14, 15, 4, 16, 11, 12, 17, 18, 19, 20, 21, 22, 23, 24, 25, 26, 27, 28, 186, 187, 188, 189, 190, 191, 192, 193, 194, 195, 196, 197, 198, 199, 200, 201, 202, 203, 204] (by decide +kernel) (by decide +kernel)) (goodIn_sub (fun _ h => List.mem_cons_of_mem _ (List.mem_append_right _ h)) (by decide +kernel))
set_option maxRecDepth 20000 in
theorem gL_isQuotation_X10_dayOf : GoodIn wsL_isQuotation (wsV RL 57 RX10 yX10_dayOf wsX10_dayOf) := goodIn_app (goodIn_of _ (by decide +kernel)) ggL_isQuotation_X10_dayOf
set_option maxRecDepth 20000 in
theorem ggL_isQuotation_X10_wordsOf : GoodIn wsL_isQuotation wsX10_wordsOf := goodIn_ca (goodIn_r _ [138, 6, 13, 14, 15, 4, 16, 11, 12, 17, 18, 19, 20, 21, 22, 23, 24, 25, 26, 27, 28, 186, 187, 188, 189, 190, 191, 192, 193, 194, 195, 196, 197, 198, 199, 200, 201, 202, 203, 204] (by decide +kernel) (by decide +kernel)) (goodIn_sub (fun _ h => List.mem_cons_of_mem _ (List.mem_append_right _ h)) (by decide +kernel))
set_option maxRecDepth 20000 in
theorem gL_isQuotation_X10_wordsOf : GoodIn wsL_isQuotation (wsV RL 60 RX10 yX10_wordsOf wsX10_wordsOf) := goodIn_app (goodIn_of _ (by decide +kernel)) ggL_isQuotation_X10_wordsOf
set_option maxRecDepth 20000 in
theorem ggL_isQuotation_X10_changesByPassages : GoodIn wsL_isQuotation wsX10_changesByPassages := goodIn_ca (goodIn_r _ [142, 47, 6, 7, 8, 9, 4, 10, 11, 12, 13, 14, 15, 16, 17, 18, 19, 20, 21, 22, 23, 24, 25, 26, 27, 28, 143, 144, 145, 51, 146, 53, 54, 55, 30, 31, 32, 33, 34, 147, 148, 149, 59, 150, 75, 76, 77, 78, 62, 151, 152, 153, 154, 61, 63, 64, 65, 66, 67, 68, 69, 70, 71, 72, 73, 74, 186, 187, 188, 189, 190, 191, 192, 193, 194, 195, 196, 197, 198, 199, 200, 201, 202, 203, 204, 206, 207, 208, 205, 209, 210, 211, 212] (by decide +kernel) (by decide +kernel)) (goodIn_sub (fun _ h => List.mem_cons_of_mem _ (List.mem_append_right _ h)) (by decide +kernel))
set_option maxRecDepth 20000 in
theorem gL_isQuotation_X10_changesByPassages : GoodIn wsL_isQuotation (wsV RL 63 RX10 yX10_changesByPassages wsX10_changesByPassages) := goodIn_app (goodIn_of _ (by decide +kernel)) ggL_isQuotation_X10_changesByPassages
set_option maxRecDepth 20000 in
theorem ggL_isQuotation_X10_isSameWord : GoodIn wsL_isQuotation wsX10_isSameWord := goodIn_ca (goodIn_r _ [158, 6, 159, 160, 161, 4, 162, 11, 12, 13, 14, 15, 16, 17, 18, 19, 20, 21, 22, 23, 24, 25, 26, 27, 28, 163, 68, 69, 32, 70, 34, 186, 187, 188, 189, 190, 191, 192, 193, 194, 195, 196, 197, 198, 199, 200, 201, 202, 203, 204, 205] (by decide +kernel) (by decide +kernel)) (goodIn_sub (fun _ h => List.mem_cons_of_mem _ (List.mem_append_right _ h)) (by decide +kernel))
set_option maxRecDepth 20000 in
theorem gL_isQuotation_X10_isSameWord : GoodIn wsL_isQuotation (wsV RL 66 RX10 yX10_isSameWord wsX10_isSameWord) := goodIn_app (goodIn_of _ (by decide +kernel)) ggL_isQuotation_X10_isSameWord
set_option maxRecDepth 20000 in
theorem ggL_isQuotation_X10_pageOf : GoodIn wsL_isQuotation wsX10_pageOf := goodIn_ca (goodIn_r _ [167, 47, 6, 7, 8, 9, 4, 10, 11, 12, 13, 14, 15, 16, 17, 18, 19, 20, 21, 22, 23, 24, 25, 26, 27, 28, 48, 49, 50, 51, 52, 53, 54, 55, 30, 31, 32, 33, 34, 56, 57, 58, 59, 60, 61, 62, 63, 64, 65, 66, 67, 68, 69, 70, 71, 72, 73, 74, 75, 76, 77, 78, 79, 80, 81, 82, 83, 84, 85, 186, 187, 188, 189, 190, 191, 192, 206, 207, 208, 209, 210, 211, 212, 193, 194, 195, 196, 197, 198, 199, 200, 201, 202, 203, 204, 205] (by decide +kernel) (by decide +kernel)) (goodIn_sub (fun _ h => List.mem_cons_of_mem _ (List.mem_append_right _ h)) (by decide +kernel))
set_option maxRecDepth 20000 in
theorem gL_isQuotation_X10_pageOf : GoodIn wsL_isQuotation (wsV RL 70 RX10 yX10_pageOf wsX10_pageOf) := goodIn_app (goodIn_of _ (by decide +kernel)) ggL_isQuotation_X10_pageOf
set_option maxRecDepth 20000 in
theorem ggL_isQuotation_X10_wordsOn : GoodIn wsL_isQuotation wsX10_wordsOn := goodIn_ca (goodIn_r _ [171, 11, 12, 6, 172, 76, 77, 78, 13, 14, 15, 4, 16, 17, 18, 19, 20, 21, 22, 23, 24, 25, 26, 27, 28, 173, 174, 175, 106, 176, 177, 186, 187, 188, 189, 190, 191, 192, 193, 194, 195, 196, 197, 198, 199, 200, 201, 202, 203, 204] (by decide +kernel) (by decide +kernel)) (goodIn_sub (fun _ h => List.mem_cons_of_mem _ (List.mem_append_right _ h)) (by decide +kernel))
set_option maxRecDepth 20000 in
theorem gL_isQuotation_X10_wordsOn : GoodIn wsL_isQuotation (wsV RL 73 RX10 yX10_wordsOn wsX10_wordsOn) := goodIn_app (goodIn_of _ (by decide +kernel)) ggL_isQuotation_X10_wordsOn
set_option maxRecDepth 20000 in
theorem ggL_isQuotation_X10_changesAtOrigin : GoodIn wsL_isQuotation wsX10_changesAtOrigin := goodIn_ca (goodIn_r _ [181, 47, 6, 7, 8, 9, 4, 10, 11, 12, 13, 14, 15, 16, 17, 18, 19, 20, 21, 22, 23, 24, 25, 26, 27, 28, 120, 121, 122, 51, 123, 124, 125, 54, 55, 30, 31, 32, 33, 34, 126, 99, 100, 101, 53, 102, 49, 50, 52, 56, 57, 58, 59, 60, 61, 62, 63, 64, 65, 66, 67, 68, 69, 70, 71, 72, 73, 74, 75, 76, 77, 78, 79, 80, 81, 82, 83, 84, 85, 103, 104, 105, 106, 107, 108, 109, 110, 111, 112, 113, 114, 115, 182, 183, 184, 185, 186, 187, 188, 189, 190, 191, 192, 193, 194, 195, 196, 197, 198, 199, 200, 201, 202, 203, 204, 206, 207, 208, 205, 209, 210, 211, 212] (by decide +kernel) (by decide +kernel)) (goodIn_sub (fun _ h => List.mem_cons_of_mem _ (List.mem_append_right _ h)) (by decide +kernel))
set_option maxRecDepth 20000 in
theorem gL_isQuotation_X10_changesAtOrigin : GoodIn wsL_isQuotation (wsV RL 76 RX10 yX10_changesAtOrigin wsX10_changesAtOrigin) := goodIn_app (goodIn_of _ (by decide +kernel)) ggL_isQuotation_X10_changesAtOrigin
theorem dL_isQuotation_0 : decode cL_isQuotation 0 = .ok (.aload_n 0, 1) := by decide +kernel
theorem dL_isQuotation_1 : decode cL_isQuotation 1 = .ok (.iload_n 1, 1) := by decide +kernel
theorem dL_isQuotation_2 : decode cL_isQuotation 2 = .ok (.iload_n 2, 1) := by decide +kernel
theorem dL_isQuotation_3 : decode cL_isQuotation 3 = .ok (.invokevirtual 30, 3) := by decide +kernel
theorem dL_isQuotation_6 : decode cL_isQuotation 6 = .ok (.istore_n 3, 1) := by decide +kernel
theorem dL_isQuotation_7 : decode cL_isQuotation 7 = .ok (.aload_n 0, 1) := by decide +kernel
theorem dL_isQuotation_8 : decode cL_isQuotation 8 = .ok (.iload_n 1, 1) := by decide +kernel
theorem dL_isQuotation_9 : decode cL_isQuotation 9 = .ok (.iload_n 2, 1) := by decide +kernel
theorem dL_isQuotation_10 : decode cL_isQuotation 10 = .ok (.invokevirtual 33, 3) := by decide +kernel
theorem dL_isQuotation_13 : decode cL_isQuotation 13 = .ok (.istore 4, 2) := by decide +kernel
theorem dL_isQuotation_15 : decode cL_isQuotation 15 = .ok (.aload_n 0, 1) := by decide +kernel
theorem dL_isQuotation_16 : decode cL_isQuotation 16 = .ok (.iload_n 1, 1) := by decide +kernel
theorem dL_isQuotation_17 : decode cL_isQuotation 17 = .ok (.iload_n 2, 1) := by decide +kernel
theorem dL_isQuotation_18 : decode cL_isQuotation 18 = .ok (.invokevirtual 36, 3) := by decide +kernel
theorem dL_isQuotation_21 : decode cL_isQuotation 21 = .ok (.istore 5, 2) := by decide +kernel
theorem dL_isQuotation_23 : decode cL_isQuotation 23 = .ok (.aload_n 0, 1) := by decide +kernel
theorem dL_isQuotation_24 : decode cL_isQuotation 24 = .ok (.iload_n 1, 1) := by decide +kernel
theorem dL_isQuotation_25 : decode cL_isQuotation 25 = .ok (.iload_n 2, 1) := by decide +kernel
theorem dL_isQuotation_26 : decode cL_isQuotation 26 = .ok (.invokevirtual 39, 3) := by decide +kernel
theorem dL_isQuotation_29 : decode cL_isQuotation 29 = .ok (.istore 6, 2) := by decide +kernel
theorem dL_isQuotation_31 : decode cL_isQuotation 31 = .ok (.aload_n 0, 1) := by decide +kernel
theorem dL_isQuotation_32 : decode cL_isQuotation 32 = .ok (.iload_n 1, 1) := by decide +kernel
theorem dL_isQuotation_33 : decode cL_isQuotation 33 = .ok (.iload_n 2, 1) := by decide +kernel
theorem dL_isQuotation_34 : decode cL_isQuotation 34 = .ok (.invokevirtual 42, 3) := by decide +kernel
theorem dL_isQuotation_37 : decode cL_isQuotation 37 = .ok (.istore 7, 2) := by decide +kernel
theorem dL_isQuotation_39 : decode cL_isQuotation 39 = .ok (.aload_n 0, 1) := by decide +kernel
theorem dL_isQuotation_40 : decode cL_isQuotation 40 = .ok (.iload_n 1, 1) := by decide +kernel
theorem dL_isQuotation_41 : decode cL_isQuotation 41 = .ok (.iload_n 2, 1) := by decide +kernel
theorem dL_isQuotation_42 : decode cL_isQuotation 42 = .ok (.invokevirtual 45, 3) := by decide +kernel
theorem dL_isQuotation_45 : decode cL_isQuotation 45 = .ok (.istore 8, 2) := by decide +kernel
theorem dL_isQuotation_47 : decode cL_isQuotation 47 = .ok (.aload_n 0, 1) := by decide +kernel
theorem dL_isQuotation_48 : decode cL_isQuotation 48 = .ok (.iload_n 1, 1) := by decide +kernel
theorem dL_isQuotation_49 : decode cL_isQuotation 49 = .ok (.iload_n 2, 1) := by decide +kernel
theorem dL_isQuotation_50 : decode cL_isQuotation 50 = .ok (.invokevirtual 48, 3) := by decide +kernel
theorem dL_isQuotation_53 : decode cL_isQuotation 53 = .ok (.istore 9, 2) := by decide +kernel
theorem dL_isQuotation_55 : decode cL_isQuotation 55 = .ok (.aload_n 0, 1) := by decide +kernel
theorem dL_isQuotation_56 : decode cL_isQuotation 56 = .ok (.iload_n 1, 1) := by decide +kernel
theorem dL_isQuotation_57 : decode cL_isQuotation 57 = .ok (.iload_n 2, 1) := by decide +kernel
theorem dL_isQuotation_58 : decode cL_isQuotation 58 = .ok (.invokevirtual 51, 3) := by decide +kernel
theorem dL_isQuotation_61 : decode cL_isQuotation 61 = .ok (.istore 10, 2) := by decide +kernel
theorem dL_isQuotation_63 : decode cL_isQuotation 63 = .ok (.aload_n 0, 1) := by decide +kernel
theorem dL_isQuotation_64 : decode cL_isQuotation 64 = .ok (.iload_n 1, 1) := by decide +kernel
theorem dL_isQuotation_65 : decode cL_isQuotation 65 = .ok (.iload_n 2, 1) := by decide +kernel
theorem dL_isQuotation_66 : decode cL_isQuotation 66 = .ok (.invokevirtual 54, 3) := by decide +kernel
theorem dL_isQuotation_69 : decode cL_isQuotation 69 = .ok (.istore 11, 2) := by decide +kernel
theorem dL_isQuotation_71 : decode cL_isQuotation 71 = .ok (.iload_n 3, 1) := by decide +kernel
theorem dL_isQuotation_72 : decode cL_isQuotation 72 = .ok (.ifCond .lt 87, 3) := by decide +kernel
theorem dL_isQuotation_75 : decode cL_isQuotation 75 = .ok (.iload_n 3, 1) := by decide +kernel
theorem dL_isQuotation_76 : decode cL_isQuotation 76 = .ok (.iload_n 1, 1) := by decide +kernel
theorem dL_isQuotation_77 : decode cL_isQuotation 77 = .ok (.if_icmp .ge 82, 3) := by decide +kernel
theorem dL_isQuotation_80 : decode cL_isQuotation 80 = .ok (.aload_n 0, 1) := by decide +kernel
theorem dL_isQuotation_81 : decode cL_isQuotation 81 = .ok (.iload_n 3, 1) := by decide +kernel
theorem dL_isQuotation_82 : decode cL_isQuotation 82 = .ok (.invokevirtual 57, 3) := by decide +kernel
theorem dL_isQuotation_85 : decode cL_isQuotation 85 = .ok (.aload_n 0, 1) := by decide +kernel
theorem dL_isQuotation_86 : decode cL_isQuotation 86 = .ok (.iload_n 1, 1) := by decide +kernel
theorem dL_isQuotation_87 : decode cL_isQuotation 87 = .ok (.invokevirtual 57, 3) := by decide +kernel
theorem dL_isQuotation_90 : decode cL_isQuotation 90 = .ok (.if_icmp .ge 69, 3) := by decide +kernel
theorem dL_isQuotation_93 : decode cL_isQuotation 93 = .ok (.iload 5, 2) := by decide +kernel
theorem dL_isQuotation_95 : decode cL_isQuotation 95 = .ok (.iconst 1, 1) := by decide +kernel
theorem dL_isQuotation_96 : decode cL_isQuotation 96 = .ok (.if_icmp .lt 63, 3) := by decide +kernel
theorem dL_isQuotation_99 : decode cL_isQuotation 99 = .ok (.iload 4, 2) := by decide +kernel
theorem dL_isQuotation_101 : decode cL_isQuotation 101 = .ok (.iload 5, 2) := by decide +kernel
theorem dL_isQuotation_103 : decode cL_isQuotation 103 = .ok (.iadd, 1) := by decide +kernel
theorem dL_isQuotation_104 : decode cL_isQuotation 104 = .ok (.aload_n 0, 1) := by decide +kernel
theorem dL_isQuotation_105 : decode cL_isQuotation 105 = .ok (.iload_n 1, 1) := by decide +kernel
theorem dL_isQuotation_106 : decode cL_isQuotation 106 = .ok (.invokevirtual 60, 3) := by decide +kernel
theorem dL_isQuotation_109 : decode cL_isQuotation 109 = .ok (.if_icmp .gt 50, 3) := by decide +kernel
theorem dL_isQuotation_112 : decode cL_isQuotation 112 = .ok (.iload 7, 2) := by decide +kernel
theorem dL_isQuotation_114 : decode cL_isQuotation 114 = .ok (.ifCond .lt 45, 3) := by decide +kernel
theorem dL_isQuotation_117 : decode cL_isQuotation 117 = .ok (.iload 8, 2) := by decide +kernel
theorem dL_isQuotation_119 : decode cL_isQuotation 119 = .ok (.iconst 1, 1) := by decide +kernel
theorem dL_isQuotation_120 : decode cL_isQuotation 120 = .ok (.if_icmp .lt 39, 3) := by decide +kernel
theorem dL_isQuotation_123 : decode cL_isQuotation 123 = .ok (.iload 7, 2) := by decide +kernel
theorem dL_isQuotation_125 : decode cL_isQuotation 125 = .ok (.iload 8, 2) := by decide +kernel
theorem dL_isQuotation_127 : decode cL_isQuotation 127 = .ok (.iadd, 1) := by decide +kernel
theorem dL_isQuotation_128 : decode cL_isQuotation 128 = .ok (.aload_n 0, 1) := by decide +kernel
theorem dL_isQuotation_129 : decode cL_isQuotation 129 = .ok (.iload_n 3, 1) := by decide +kernel
theorem dL_isQuotation_130 : decode cL_isQuotation 130 = .ok (.invokevirtual 60, 3) := by decide +kernel
theorem dL_isQuotation_133 : decode cL_isQuotation 133 = .ok (.if_icmp .gt 26, 3) := by decide +kernel
theorem dL_isQuotation_136 : decode cL_isQuotation 136 = .ok (.iload 6, 2) := by decide +kernel
theorem dL_isQuotation_138 : decode cL_isQuotation 138 = .ok (.aload_n 0, 1) := by decide +kernel
theorem dL_isQuotation_139 : decode cL_isQuotation 139 = .ok (.iload_n 1, 1) := by decide +kernel
theorem dL_isQuotation_140 : decode cL_isQuotation 140 = .ok (.iload_n 2, 1) := by decide +kernel
theorem dL_isQuotation_141 : decode cL_isQuotation 141 = .ok (.invokevirtual 63, 3) := by decide +kernel
theorem dL_isQuotation_144 : decode cL_isQuotation 144 = .ok (.if_icmp .ne 15, 3) := by decide +kernel
theorem dL_isQuotation_147 : decode cL_isQuotation 147 = .ok (.iload 6, 2) := by decide +kernel
theorem dL_isQuotation_149 : decode cL_isQuotation 149 = .ok (.ifCond .lt 10, 3) := by decide +kernel
theorem dL_isQuotation_152 : decode cL_isQuotation 152 = .ok (.iload 6, 2) := by decide +kernel
theorem dL_isQuotation_154 : decode cL_isQuotation 154 = .ok (.iload 5, 2) := by decide +kernel
theorem dL_isQuotation_156 : decode cL_isQuotation 156 = .ok (.if_icmp .le 5, 3) := by decide +kernel
theorem dL_isQuotation_159 : decode cL_isQuotation 159 = .ok (.iconst 0, 1) := by decide +kernel
theorem dL_isQuotation_160 : decode cL_isQuotation 160 = .ok (.ireturn, 1) := by decide +kernel
theorem dL_isQuotation_161 : decode cL_isQuotation 161 = .ok (.iload 8, 2) := by decide +kernel
theorem dL_isQuotation_163 : decode cL_isQuotation 163 = .ok (.iload 5, 2) := by decide +kernel
theorem dL_isQuotation_165 : decode cL_isQuotation 165 = .ok (.if_icmp .ne 7, 3) := by decide +kernel
theorem dL_isQuotation_168 : decode cL_isQuotation 168 = .ok (.iconst 1, 1) := by decide +kernel
theorem dL_isQuotation_169 : decode cL_isQuotation 169 = .ok (.goto 4, 3) := by decide +kernel
theorem dL_isQuotation_172 : decode cL_isQuotation 172 = .ok (.iconst 0, 1) := by decide +kernel
theorem dL_isQuotation_173 : decode cL_isQuotation 173 = .ok (.istore 12, 2) := by decide +kernel
theorem dL_isQuotation_175 : decode cL_isQuotation 175 = .ok (.iconst 0, 1) := by decide +kernel
theorem dL_isQuotation_176 : decode cL_isQuotation 176 = .ok (.istore 13, 2) := by decide +kernel
theorem dL_isQuotation_178 : decode cL_isQuotation 178 = .ok (.iload 13, 2) := by decide +kernel
theorem dL_isQuotation_180 : decode cL_isQuotation 180 = .ok (.iload 5, 2) := by decide +kernel
theorem dL_isQuotation_182 : decode cL_isQuotation 182 = .ok (.if_icmp .ge 32, 3) := by decide +kernel
theorem dL_isQuotation_185 : decode cL_isQuotation 185 = .ok (.iload 12, 2) := by decide +kernel
theorem dL_isQuotation_187 : decode cL_isQuotation 187 = .ok (.ifCond .eq 27, 3) := by decide +kernel
theorem dL_isQuotation_190 : decode cL_isQuotation 190 = .ok (.aload_n 0, 1) := by decide +kernel
theorem dL_isQuotation_191 : decode cL_isQuotation 191 = .ok (.iload_n 1, 1) := by decide +kernel
theorem dL_isQuotation_192 : decode cL_isQuotation 192 = .ok (.iload 4, 2) := by decide +kernel
theorem dL_isQuotation_194 : decode cL_isQuotation 194 = .ok (.iload 13, 2) := by decide +kernel
theorem dL_isQuotation_196 : decode cL_isQuotation 196 = .ok (.iadd, 1) := by decide +kernel
theorem dL_isQuotation_197 : decode cL_isQuotation 197 = .ok (.iload_n 3, 1) := by decide +kernel
theorem dL_isQuotation_198 : decode cL_isQuotation 198 = .ok (.iload 7, 2) := by decide +kernel
theorem dL_isQuotation_200 : decode cL_isQuotation 200 = .ok (.iload 13, 2) := by decide +kernel
theorem dL_isQuotation_202 : decode cL_isQuotation 202 = .ok (.iadd, 1) := by decide +kernel
theorem dL_isQuotation_203 : decode cL_isQuotation 203 = .ok (.invokevirtual 66, 3) := by decide +kernel
theorem dL_isQuotation_206 : decode cL_isQuotation 206 = .ok (.istore 12, 2) := by decide +kernel
theorem dL_isQuotation_208 : decode cL_isQuotation 208 = .ok (.iinc 13 1, 3) := by decide +kernel
theorem dL_isQuotation_211 : decode cL_isQuotation 211 = .ok (.goto (-33), 3) := by decide +kernel
theorem dL_isQuotation_214 : decode cL_isQuotation 214 = .ok (.iload 9, 2) := by decide +kernel
theorem dL_isQuotation_216 : decode cL_isQuotation 216 = .ok (.iconst (-1), 1) := by decide +kernel
theorem dL_isQuotation_217 : decode cL_isQuotation 217 = .ok (.if_icmp .eq 38, 3) := by decide +kernel
theorem dL_isQuotation_220 : decode cL_isQuotation 220 = .ok (.aload_n 0, 1) := by decide +kernel
theorem dL_isQuotation_221 : decode cL_isQuotation 221 = .ok (.iload_n 3, 1) := by decide +kernel
theorem dL_isQuotation_222 : decode cL_isQuotation 222 = .ok (.iload 9, 2) := by decide +kernel
theorem dL_isQuotation_224 : decode cL_isQuotation 224 = .ok (.invokevirtual 33, 3) := by decide +kernel
theorem dL_isQuotation_227 : decode cL_isQuotation 227 = .ok (.iload 7, 2) := by decide +kernel
theorem dL_isQuotation_229 : decode cL_isQuotation 229 = .ok (.if_icmp .gt 30, 3) := by decide +kernel
theorem dL_isQuotation_232 : decode cL_isQuotation 232 = .ok (.iload 7, 2) := by decide +kernel
theorem dL_isQuotation_234 : decode cL_isQuotation 234 = .ok (.iload 8, 2) := by decide +kernel
theorem dL_isQuotation_236 : decode cL_isQuotation 236 = .ok (.iadd, 1) := by decide +kernel
theorem dL_isQuotation_237 : decode cL_isQuotation 237 = .ok (.aload_n 0, 1) := by decide +kernel
theorem dL_isQuotation_238 : decode cL_isQuotation 238 = .ok (.iload_n 3, 1) := by decide +kernel
theorem dL_isQuotation_239 : decode cL_isQuotation 239 = .ok (.iload 9, 2) := by decide +kernel
theorem dL_isQuotation_241 : decode cL_isQuotation 241 = .ok (.invokevirtual 33, 3) := by decide +kernel
theorem dL_isQuotation_244 : decode cL_isQuotation 244 = .ok (.aload_n 0, 1) := by decide +kernel
theorem dL_isQuotation_245 : decode cL_isQuotation 245 = .ok (.iload_n 3, 1) := by decide +kernel
theorem dL_isQuotation_246 : decode cL_isQuotation 246 = .ok (.iload 9, 2) := by decide +kernel
theorem dL_isQuotation_248 : decode cL_isQuotation 248 = .ok (.invokevirtual 36, 3) := by decide +kernel
theorem dL_isQuotation_251 : decode cL_isQuotation 251 = .ok (.iadd, 1) := by decide +kernel
theorem dL_isQuotation_252 : decode cL_isQuotation 252 = .ok (.if_icmp .gt 7, 3) := by decide +kernel
theorem dL_isQuotation_255 : decode cL_isQuotation 255 = .ok (.iconst 1, 1) := by decide +kernel
theorem dL_isQuotation_256 : decode cL_isQuotation 256 = .ok (.goto 4, 3) := by decide +kernel
theorem dL_isQuotation_259 : decode cL_isQuotation 259 = .ok (.iconst 0, 1) := by decide +kernel
theorem dL_isQuotation_260 : decode cL_isQuotation 260 = .ok (.istore 13, 2) := by decide +kernel
theorem dL_isQuotation_262 : decode cL_isQuotation 262 = .ok (.aload_n 0, 1) := by decide +kernel
theorem dL_isQuotation_263 : decode cL_isQuotation 263 = .ok (.iload_n 1, 1) := by decide +kernel
theorem dL_isQuotation_264 : decode cL_isQuotation 264 = .ok (.iload_n 2, 1) := by decide +kernel
theorem dL_isQuotation_265 : decode cL_isQuotation 265 = .ok (.invokevirtual 70, 3) := by decide +kernel
theorem dL_isQuotation_268 : decode cL_isQuotation 268 = .ok (.iload 7, 2) := by decide +kernel
theorem dL_isQuotation_270 : decode cL_isQuotation 270 = .ok (.bipush 8, 2) := by decide +kernel
theorem dL_isQuotation_272 : decode cL_isQuotation 272 = .ok (.idiv, 1) := by decide +kernel
theorem dL_isQuotation_273 : decode cL_isQuotation 273 = .ok (.if_icmp .ne 21, 3) := by decide +kernel
theorem dL_isQuotation_276 : decode cL_isQuotation 276 = .ok (.aload_n 0, 1) := by decide +kernel
theorem dL_isQuotation_277 : decode cL_isQuotation 277 = .ok (.iload_n 3, 1) := by decide +kernel
theorem dL_isQuotation_278 : decode cL_isQuotation 278 = .ok (.aload_n 0, 1) := by decide +kernel
theorem dL_isQuotation_279 : decode cL_isQuotation 279 = .ok (.iload_n 1, 1) := by decide +kernel
theorem dL_isQuotation_280 : decode cL_isQuotation 280 = .ok (.iload_n 2, 1) := by decide +kernel
theorem dL_isQuotation_281 : decode cL_isQuotation 281 = .ok (.invokevirtual 70, 3) := by decide +kernel
theorem dL_isQuotation_284 : decode cL_isQuotation 284 = .ok (.invokevirtual 73, 3) := by decide +kernel
theorem dL_isQuotation_287 : decode cL_isQuotation 287 = .ok (.ifCond .le 7, 3) := by decide +kernel
theorem dL_isQuotation_290 : decode cL_isQuotation 290 = .ok (.iconst 1, 1) := by decide +kernel
theorem dL_isQuotation_291 : decode cL_isQuotation 291 = .ok (.goto 4, 3) := by decide +kernel
theorem dL_isQuotation_294 : decode cL_isQuotation 294 = .ok (.iconst 0, 1) := by decide +kernel
theorem dL_isQuotation_295 : decode cL_isQuotation 295 = .ok (.istore 14, 2) := by decide +kernel
theorem dL_isQuotation_297 : decode cL_isQuotation 297 = .ok (.iload 6, 2) := by decide +kernel
theorem dL_isQuotation_299 : decode cL_isQuotation 299 = .ok (.iload 8, 2) := by decide +kernel
theorem dL_isQuotation_301 : decode cL_isQuotation 301 = .ok (.iload 5, 2) := by decide +kernel
theorem dL_isQuotation_303 : decode cL_isQuotation 303 = .ok (.if_icmp .ge 11, 3) := by decide +kernel
theorem dL_isQuotation_306 : decode cL_isQuotation 306 = .ok (.iload 5, 2) := by decide +kernel
theorem dL_isQuotation_308 : decode cL_isQuotation 308 = .ok (.iload 8, 2) := by decide +kernel
theorem dL_isQuotation_310 : decode cL_isQuotation 310 = .ok (.isub, 1) := by decide +kernel
theorem dL_isQuotation_311 : decode cL_isQuotation 311 = .ok (.goto 8, 3) := by decide +kernel
theorem dL_isQuotation_314 : decode cL_isQuotation 314 = .ok (.iload 8, 2) := by decide +kernel
theorem dL_isQuotation_316 : decode cL_isQuotation 316 = .ok (.iload 5, 2) := by decide +kernel
theorem dL_isQuotation_318 : decode cL_isQuotation 318 = .ok (.isub, 1) := by decide +kernel
theorem dL_isQuotation_319 : decode cL_isQuotation 319 = .ok (.if_icmp .lt 7, 3) := by decide +kernel
theorem dL_isQuotation_322 : decode cL_isQuotation 322 = .ok (.iconst 1, 1) := by decide +kernel
theorem dL_isQuotation_323 : decode cL_isQuotation 323 = .ok (.goto 4, 3) := by decide +kernel
theorem dL_isQuotation_326 : decode cL_isQuotation 326 = .ok (.iconst 0, 1) := by decide +kernel
theorem dL_isQuotation_327 : decode cL_isQuotation 327 = .ok (.istore 15, 2) := by decide +kernel
theorem dL_isQuotation_329 : decode cL_isQuotation 329 = .ok (.iload 13, 2) := by decide +kernel
theorem dL_isQuotation_331 : decode cL_isQuotation 331 = .ok (.ifCond .eq 148, 3) := by decide +kernel
theorem dL_isQuotation_334 : decode cL_isQuotation 334 = .ok (.iload 14, 2) := by decide +kernel
theorem dL_isQuotation_336 : decode cL_isQuotation 336 = .ok (.ifCond .eq 143, 3) := by decide +kernel
theorem dL_isQuotation_339 : decode cL_isQuotation 339 = .ok (.iload 15, 2) := by decide +kernel
theorem dL_isQuotation_341 : decode cL_isQuotation 341 = .ok (.ifCond .eq 138, 3) := by decide +kernel
theorem dL_isQuotation_344 : decode cL_isQuotation 344 = .ok (.iload 12, 2) := by decide +kernel
theorem dL_isQuotation_346 : decode cL_isQuotation 346 = .ok (.iload 6, 2) := by decide +kernel
theorem dL_isQuotation_348 : decode cL_isQuotation 348 = .ok (.ifCond .ne 7, 3) := by decide +kernel
theorem dL_isQuotation_351 : decode cL_isQuotation 351 = .ok (.iconst 1, 1) := by decide +kernel
theorem dL_isQuotation_352 : decode cL_isQuotation 352 = .ok (.goto 4, 3) := by decide +kernel
theorem dL_isQuotation_355 : decode cL_isQuotation 355 = .ok (.iconst 0, 1) := by decide +kernel
theorem dL_isQuotation_356 : decode cL_isQuotation 356 = .ok (.if_icmp .ne 123, 3) := by decide +kernel
theorem dL_isQuotation_359 : decode cL_isQuotation 359 = .ok (.iload 10, 2) := by decide +kernel
theorem dL_isQuotation_361 : decode cL_isQuotation 361 = .ok (.iconst 1, 1) := by decide +kernel
theorem dL_isQuotation_362 : decode cL_isQuotation 362 = .ok (.if_icmp .ne 7, 3) := by decide +kernel
theorem dL_isQuotation_365 : decode cL_isQuotation 365 = .ok (.iconst 1, 1) := by decide +kernel
theorem dL_isQuotation_366 : decode cL_isQuotation 366 = .ok (.goto 4, 3) := by decide +kernel
theorem dL_isQuotation_369 : decode cL_isQuotation 369 = .ok (.iconst 0, 1) := by decide +kernel
theorem dL_isQuotation_370 : decode cL_isQuotation 370 = .ok (.iload 9, 2) := by decide +kernel
theorem dL_isQuotation_372 : decode cL_isQuotation 372 = .ok (.iconst (-1), 1) := by decide +kernel
theorem dL_isQuotation_373 : decode cL_isQuotation 373 = .ok (.if_icmp .ne 7, 3) := by decide +kernel
theorem dL_isQuotation_376 : decode cL_isQuotation 376 = .ok (.iconst 1, 1) := by decide +kernel
theorem dL_isQuotation_377 : decode cL_isQuotation 377 = .ok (.goto 4, 3) := by decide +kernel
theorem dL_isQuotation_380 : decode cL_isQuotation 380 = .ok (.iconst 0, 1) := by decide +kernel
theorem dL_isQuotation_381 : decode cL_isQuotation 381 = .ok (.if_icmp .ne 98, 3) := by decide +kernel
theorem dL_isQuotation_384 : decode cL_isQuotation 384 = .ok (.iload 11, 2) := by decide +kernel
theorem dL_isQuotation_386 : decode cL_isQuotation 386 = .ok (.iload_n 3, 1) := by decide +kernel
theorem dL_isQuotation_387 : decode cL_isQuotation 387 = .ok (.if_icmp .ne 7, 3) := by decide +kernel
theorem dL_isQuotation_390 : decode cL_isQuotation 390 = .ok (.iconst 1, 1) := by decide +kernel
theorem dL_isQuotation_391 : decode cL_isQuotation 391 = .ok (.goto 4, 3) := by decide +kernel
theorem dL_isQuotation_394 : decode cL_isQuotation 394 = .ok (.iconst 0, 1) := by decide +kernel
theorem dL_isQuotation_395 : decode cL_isQuotation 395 = .ok (.iload 10, 2) := by decide +kernel
theorem dL_isQuotation_397 : decode cL_isQuotation 397 = .ok (.iconst 1, 1) := by decide +kernel
theorem dL_isQuotation_398 : decode cL_isQuotation 398 = .ok (.if_icmp .ne 7, 3) := by decide +kernel
theorem dL_isQuotation_401 : decode cL_isQuotation 401 = .ok (.iconst 1, 1) := by decide +kernel
theorem dL_isQuotation_402 : decode cL_isQuotation 402 = .ok (.goto 4, 3) := by decide +kernel
theorem dL_isQuotation_405 : decode cL_isQuotation 405 = .ok (.iconst 0, 1) := by decide +kernel
theorem dL_isQuotation_406 : decode cL_isQuotation 406 = .ok (.if_icmp .ne 73, 3) := by decide +kernel
theorem dL_isQuotation_409 : decode cL_isQuotation 409 = .ok (.iload 11, 2) := by decide +kernel
theorem dL_isQuotation_411 : decode cL_isQuotation 411 = .ok (.iload_n 3, 1) := by decide +kernel
theorem dL_isQuotation_412 : decode cL_isQuotation 412 = .ok (.if_icmp .gt 67, 3) := by decide +kernel
theorem dL_isQuotation_415 : decode cL_isQuotation 415 = .ok (.iload 9, 2) := by decide +kernel
theorem dL_isQuotation_417 : decode cL_isQuotation 417 = .ok (.iconst (-1), 1) := by decide +kernel
theorem dL_isQuotation_418 : decode cL_isQuotation 418 = .ok (.if_icmp .eq 29, 3) := by decide +kernel
theorem dL_isQuotation_421 : decode cL_isQuotation 421 = .ok (.iload 10, 2) := by decide +kernel
theorem dL_isQuotation_423 : decode cL_isQuotation 423 = .ok (.aload_n 0, 1) := by decide +kernel
theorem dL_isQuotation_424 : decode cL_isQuotation 424 = .ok (.iload_n 3, 1) := by decide +kernel
theorem dL_isQuotation_425 : decode cL_isQuotation 425 = .ok (.iload 9, 2) := by decide +kernel
theorem dL_isQuotation_427 : decode cL_isQuotation 427 = .ok (.invokevirtual 51, 3) := by decide +kernel
theorem dL_isQuotation_430 : decode cL_isQuotation 430 = .ok (.iconst 1, 1) := by decide +kernel
theorem dL_isQuotation_431 : decode cL_isQuotation 431 = .ok (.iadd, 1) := by decide +kernel
theorem dL_isQuotation_432 : decode cL_isQuotation 432 = .ok (.if_icmp .ne 47, 3) := by decide +kernel
theorem dL_isQuotation_435 : decode cL_isQuotation 435 = .ok (.iload 11, 2) := by decide +kernel
theorem dL_isQuotation_437 : decode cL_isQuotation 437 = .ok (.aload_n 0, 1) := by decide +kernel
theorem dL_isQuotation_438 : decode cL_isQuotation 438 = .ok (.iload_n 3, 1) := by decide +kernel
theorem dL_isQuotation_439 : decode cL_isQuotation 439 = .ok (.iload 9, 2) := by decide +kernel
theorem dL_isQuotation_441 : decode cL_isQuotation 441 = .ok (.invokevirtual 54, 3) := by decide +kernel
theorem dL_isQuotation_444 : decode cL_isQuotation 444 = .ok (.if_icmp .ne 35, 3) := by decide +kernel
theorem dL_isQuotation_447 : decode cL_isQuotation 447 = .ok (.aload_n 0, 1) := by decide +kernel
theorem dL_isQuotation_448 : decode cL_isQuotation 448 = .ok (.iload_n 1, 1) := by decide +kernel
theorem dL_isQuotation_449 : decode cL_isQuotation 449 = .ok (.iload_n 2, 1) := by decide +kernel
theorem dL_isQuotation_450 : decode cL_isQuotation 450 = .ok (.invokevirtual 76, 3) := by decide +kernel
theorem dL_isQuotation_453 : decode cL_isQuotation 453 = .ok (.iload 5, 2) := by decide +kernel
theorem dL_isQuotation_455 : decode cL_isQuotation 455 = .ok (.if_icmp .gt 24, 3) := by decide +kernel
theorem dL_isQuotation_458 : decode cL_isQuotation 458 = .ok (.iload 10, 2) := by decide +kernel
theorem dL_isQuotation_460 : decode cL_isQuotation 460 = .ok (.iconst 1, 1) := by decide +kernel
theorem dL_isQuotation_461 : decode cL_isQuotation 461 = .ok (.if_icmp .gt 14, 3) := by decide +kernel
theorem dL_isQuotation_464 : decode cL_isQuotation 464 = .ok (.aload_n 0, 1) := by decide +kernel
theorem dL_isQuotation_465 : decode cL_isQuotation 465 = .ok (.iload_n 1, 1) := by decide +kernel
theorem dL_isQuotation_466 : decode cL_isQuotation 466 = .ok (.iload_n 2, 1) := by decide +kernel
theorem dL_isQuotation_467 : decode cL_isQuotation 467 = .ok (.invokevirtual 76, 3) := by decide +kernel
theorem dL_isQuotation_470 : decode cL_isQuotation 470 = .ok (.iload 6, 2) := by decide +kernel
theorem dL_isQuotation_472 : decode cL_isQuotation 472 = .ok (.if_icmp .ne 7, 3) := by decide +kernel
theorem dL_isQuotation_475 : decode cL_isQuotation 475 = .ok (.iconst 1, 1) := by decide +kernel
theorem dL_isQuotation_476 : decode cL_isQuotation 476 = .ok (.goto 4, 3) := by decide +kernel
theorem dL_isQuotation_479 : decode cL_isQuotation 479 = .ok (.iconst 0, 1) := by decide +kernel
theorem dL_isQuotation_480 : decode cL_isQuotation 480 = .ok (.ireturn, 1) := by decide +kernel
set_option maxRecDepth 20000 in
theorem ggL_arePamphlets_X10_pamphlets : GoodIn wsL_arePamphlets wsX10_pamphlets := goodIn_r _ [5, 6, 136, 137, 138, 139, 140, 141, 142, 143, 144, 145, 146] (by decide +kernel) (by decide +kernel)
set_option maxRecDepth 20000 in
theorem gL_arePamphlets_X10_pamphlets : GoodIn wsL_arePamphlets (wsV RL 79 RX10 yX10_pamphlets wsX10_pamphlets) := goodIn_app (goodIn_of _ (by decide +kernel)) ggL_arePamphlets_X10_pamphlets
set_option maxRecDepth 20000 in
theorem ggL_arePamphlets_X10_wordsOf : GoodIn wsL_arePamphlets wsX10_wordsOf := goodIn_ca (goodIn_r _ [10, 6, 11, 12, 13, 4, 14, 15, 16, 17, 18, 19, 20, 21, 22, 23, 24, 25, 26, 27, 28, 136, 137, 138, 139, 140, 141, 142, 147, 148, 149, 150, 151, 152, 153, 154, 143, 144, 145, 146] (by decide +kernel) (by decide +kernel)) (goodIn_sub (fun _ h => List.mem_cons_of_mem _ (List.mem_append_right _ h)) (by decide +kernel))
set_option maxRecDepth 20000 in
theorem gL_arePamphlets_X10_wordsOf : GoodIn wsL_arePamphlets (wsV RL 60 RX10 yX10_wordsOf wsX10_wordsOf) := goodIn_app (goodIn_of _ (by decide +kernel)) ggL_arePamphlets_X10_wordsOf
set_option maxRecDepth 20000 in
theorem ggL_arePamphlets_X10_quotationsOf : GoodIn wsL_arePamphlets wsX10_quotationsOf := goodIn_ca (goodIn_r _ [32, 6, 11, 12, 13, 4, 14, 15, 16, 17, 18, 19, 20, 21, 22, 23, 24, 25, 26, 27, 28, 136, 137, 138, 139, 140, 141, 142, 147, 148, 149, 150, 151, 152, 153, 154, 143, 144, 145, 146] (by decide +kernel) (by decide +kernel)) (goodIn_sub (fun _ h => List.mem_cons_of_mem _ (List.mem_append_right _ h)) (by decide +kernel))
set_option maxRecDepth 20000 in
theorem gL_arePamphlets_X10_quotationsOf : GoodIn wsL_arePamphlets (wsV RL 82 RX10 yX10_quotationsOf wsX10_quotationsOf) := goodIn_app (goodIn_of _ (by decide +kernel)) ggL_arePamphlets_X10_quotationsOf
set_option maxRecDepth 20000 in
theorem ggL_arePamphlets_X10_pagesOf : GoodIn wsL_arePamphlets wsX10_pagesOf := goodIn_ca (goodIn_r _ [36, 6, 11, 12, 13, 4, 14, 15, 16, 17, 18, 19, 20, 21, 22, 23, 24, 25, 26, 27, 28, 37, 38, 39, 40, 41, 42, 136, 137, 138, 139, 140, 141, 142, 143, 144, 145, 146, 147, 148, 149, 150, 151, 152, 153, 154] (by decide +kernel) (by decide +kernel)) (goodIn_sub (fun _ h => List.mem_cons_of_mem _ (List.mem_append_right _ h)) (by decide +kernel))
set_option maxRecDepth 20000 in
theorem gL_arePamphlets_X10_pagesOf : GoodIn wsL_arePamphlets (wsV RL 85 RX10 yX10_pagesOf wsX10_pagesOf) := goodIn_app (goodIn_of _ (by decide +kernel)) ggL_arePamphlets_X10_pagesOf
set_option maxRecDepth 20000 in
theorem ggL_arePamphlets_X10_wordsOn : GoodIn wsL_arePamphlets wsX10_wordsOn := goodIn_ca (goodIn_r _ [46, 15, 16, 6, 47, 48, 49, 50, 11, 12, 13, 4, 14, 17, 18, 19, 20, 21, 22, 23, 24, 25, 26, 27, 28, 37, 38, 39, 40, 41, 42, 136, 137, 138, 139, 140, 141, 142, 147, 148, 149, 150, 151, 152, 153, 154, 143, 144, 145, 146] (by decide +kernel) (by decide +kernel)) (goodIn_sub (fun _ h => List.mem_cons_of_mem _ (List.mem_append_right _ h)) (by decide +kernel))
set_option maxRecDepth 20000 in
theorem gL_arePamphlets_X10_wordsOn : GoodIn wsL_arePamphlets (wsV RL 73 RX10 yX10_wordsOn wsX10_wordsOn) := goodIn_app (goodIn_of _ (by decide +kernel)) ggL_arePamphlets_X10_wordsOn
set_option maxRecDepth 20000 in
theorem ggL_arePamphlets_X10_sourceOf : GoodIn wsL_arePamphlets wsX10_sourceOf := goodIn_ca (goodIn_r _ [54, 6, 55, 56, 57, 4, 58, 15, 16, 11, 12, 13, 14, 17, 18, 19, 20, 21, 22, 23, 24, 25, 26, 27, 28, 59, 60, 61, 62, 63, 64, 136, 137, 138, 139, 140, 141, 142, 147, 148, 149, 150, 151, 152, 153, 154, 143, 144, 145, 146, 155] (by decide +kernel) (by decide +kernel)) (goodIn_sub (fun _ h => List.mem_cons_of_mem _ (List.mem_append_right _ h)) (by decide +kernel))
set_option maxRecDepth 20000 in
theorem gL_arePamphlets_X10_sourceOf : GoodIn wsL_arePamphlets (wsV RL 30 RX10 yX10_sourceOf wsX10_sourceOf) := goodIn_app (goodIn_of _ (by decide +kernel)) ggL_arePamphlets_X10_sourceOf
set_option maxRecDepth 20000 in
theorem ggL_arePamphlets_X10_ladderOf : GoodIn wsL_arePamphlets wsX10_ladderOf := goodIn_ca (goodIn_r _ [68, 69, 6, 11, 12, 13, 4, 14, 15, 16, 17, 18, 19, 20, 21, 22, 70, 71, 72, 73, 74, 75, 76, 77, 49, 78, 79, 24, 25, 26, 27, 28, 80, 81, 82, 40, 83, 84, 85, 86, 60, 61, 62, 63, 64, 87, 88, 89, 90, 91, 136, 137, 138, 139, 140, 141, 142, 143, 144, 145, 146, 156, 147, 148, 149, 150, 151, 152, 153, 154, 155] (by decide +kernel) (by decide +kernel)) (goodIn_sub (fun _ h => List.mem_cons_of_mem _ (List.mem_append_right _ h)) (by decide +kernel))
set_option maxRecDepth 20000 in
theorem gL_arePamphlets_X10_ladderOf : GoodIn wsL_arePamphlets (wsV RL 88 RX10 yX10_ladderOf wsX10_ladderOf) := goodIn_app (goodIn_of _ (by decide +kernel)) ggL_arePamphlets_X10_ladderOf
set_option maxRecDepth 20000 in
theorem ggL_arePamphlets_X10_laddersOf : GoodIn wsL_arePamphlets wsX10_laddersOf := goodIn_ca (goodIn_r _ [95, 69, 6, 11, 12, 13, 4, 14, 15, 16, 17, 18, 19, 20, 21, 22, 96, 97, 98, 73, 99, 75, 79, 24, 25, 26, 27, 28, 80, 81, 82, 40, 83, 84, 85, 86, 60, 61, 62, 63, 64, 87, 88, 89, 90, 91, 136, 137, 138, 139, 140, 141, 142, 143, 144, 145, 146, 156, 147, 148, 149, 150, 151, 152, 153, 154, 155] (by decide +kernel) (by decide +kernel)) (goodIn_sub (fun _ h => List.mem_cons_of_mem _ (List.mem_append_right _ h)) (by decide +kernel))
set_option maxRecDepth 20000 in
theorem gL_arePamphlets_X10_laddersOf : GoodIn wsL_arePamphlets (wsV RL 91 RX10 yX10_laddersOf wsX10_laddersOf) := goodIn_app (goodIn_of _ (by decide +kernel)) ggL_arePamphlets_X10_laddersOf
set_option maxRecDepth 20000 in
theorem ggL_arePamphlets_X10_answers : GoodIn wsL_arePamphlets wsX10_answers := goodIn_ca (goodIn_r _ [103, 6, 11, 12, 13, 4, 14, 15, 16, 17, 18, 19, 20, 21, 22, 23, 24, 25, 26, 27, 28, 104, 81, 82, 40, 83, 84, 85, 86, 60, 61, 62, 63, 64, 136, 137, 138, 139, 140, 141, 142, 143, 144, 145, 146, 147, 148, 149, 150, 151, 152, 153, 154, 155] (by decide +kernel) (by decide +kernel)) (goodIn_sub (fun _ h => List.mem_cons_of_mem _ (List.mem_append_right _ h)) (by decide +kernel))
set_option maxRecDepth 20000 in
theorem gL_arePamphlets_X10_answers : GoodIn wsL_arePamphlets (wsV RL 94 RX10 yX10_answers wsX10_answers) := goodIn_app (goodIn_of _ (by decide +kernel)) ggL_arePamphlets_X10_answers
set_option maxRecDepth 20000 in
theorem ggL_arePamphlets_X10_readingOf : GoodIn wsL_arePamphlets wsX10_readingOf := goodIn_ca (goodIn_r _ [108, 69, 6, 11, 12, 13, 4, 14, 15, 16, 17, 18, 19, 20, 21, 22, 109, 110, 111, 73, 112, 75, 88, 89, 90, 62, 91, 64, 87, 60, 61, 63, 79, 24, 25, 26, 27, 28, 113, 114, 115, 116, 136, 137, 138, 139, 140, 141, 142, 143, 144, 145, 146, 156, 155, 147, 148, 149, 150, 151, 152, 153, 154] (by decide +kernel) (by decide +kernel)) (goodIn_sub (fun _ h => List.mem_cons_of_mem _ (List.mem_append_right _ h)) (by decide +kernel))
set_option maxRecDepth 20000 in
theorem gL_arePamphlets_X10_readingOf : GoodIn wsL_arePamphlets (wsV RL 98 RX10 yX10_readingOf wsX10_readingOf) := goodIn_app (goodIn_of _ (by decide +kernel)) ggL_arePamphlets_X10_readingOf
set_option maxRecDepth 20000 in
theorem ggL_arePamphlets_X10_readAt : GoodIn wsL_arePamphlets wsX10_readAt := goodIn_ca (goodIn_r _ [120, 69, 6, 11, 12, 13, 4, 14, 15, 16, 17, 18, 19, 20, 21, 22, 109, 110, 111, 73, 112, 75, 88, 89, 90, 62, 91, 64, 87, 60, 61, 63, 79, 24, 25, 26, 27, 28, 113, 114, 115, 116, 121, 122, 123, 124, 125, 126, 127, 136, 137, 138, 139, 140, 141, 142, 143, 144, 145, 146, 156, 155, 147, 148, 149, 150, 151, 152, 153, 154] (by decide +kernel) (by decide +kernel)) (goodIn_sub (fun _ h => List.mem_cons_of_mem _ (List.mem_append_right _ h)) (by decide +kernel))
set_option maxRecDepth 20000 in
theorem gL_arePamphlets_X10_readAt : GoodIn wsL_arePamphlets (wsV RL 101 RX10 yX10_readAt wsX10_readAt) := goodIn_app (goodIn_of _ (by decide +kernel)) ggL_arePamphlets_X10_readAt
set_option maxRecDepth 20000 in
theorem ggL_arePamphlets_X10_dayOf : GoodIn wsL_arePamphlets wsX10_dayOf := goodIn_ca (goodIn_r _ [131, 6, 11, 12, 13, 4, 14, 15, 16, 17, 18, 19, 20, 21, 22, 23, 24, 25, 26, 27, 28, 136, 137, 138, 139, 140, 141, 142, 147, 148, 149, 150, 151, 152, 153, 154, 143, 144, 145, 146] (by decide +kernel) (by decide +kernel)) (goodIn_sub (fun _ h => List.mem_cons_of_mem _ (List.mem_append_right _ h)) (by decide +kernel))
set_option maxRecDepth 20000 in
theorem gL_arePamphlets_X10_dayOf : GoodIn wsL_arePamphlets (wsV RL 57 RX10 yX10_dayOf wsX10_dayOf) := goodIn_app (goodIn_of _ (by decide +kernel)) ggL_arePamphlets_X10_dayOf
set_option maxRecDepth 20000 in
theorem ggL_arePamphlets_X10_day : GoodIn wsL_arePamphlets wsX10_day := goodIn_r _ [135, 6, 136, 137, 138, 139, 140, 141, 142, 143, 144, 145, 146] (by decide +kernel) (by decide +kernel)
set_option maxRecDepth 20000 in
theorem gL_arePamphlets_X10_day : GoodIn wsL_arePamphlets (wsV RL 104 RX10 yX10_day wsX10_day) := goodIn_app (goodIn_of _ (by decide +kernel)) ggL_arePamphlets_X10_day
theorem dL_arePamphlets_0 : decode cL_arePamphlets 0 = .ok (.iconst 0, 1) := by decide +kernel
theorem dL_arePamphlets_1 : decode cL_arePamphlets 1 = .ok (.istore_n 1, 1) := by decide +kernel
theorem dL_arePamphlets_2 : decode cL_arePamphlets 2 = .ok (.iconst 0, 1) := by decide +kernel
theorem dL_arePamphlets_3 : decode cL_arePamphlets 3 = .ok (.istore_n 2, 1) := by decide +kernel
theorem dL_arePamphlets_4 : decode cL_arePamphlets 4 = .ok (.iload_n 2, 1) := by decide +kernel
theorem dL_arePamphlets_5 : decode cL_arePamphlets 5 = .ok (.aload_n 0, 1) := by decide +kernel
theorem dL_arePamphlets_6 : decode cL_arePamphlets 6 = .ok (.invokevirtual 79, 3) := by decide +kernel
theorem dL_arePamphlets_9 : decode cL_arePamphlets 9 = .ok (.if_icmp .ge 326, 3) := by decide +kernel
theorem dL_arePamphlets_12 : decode cL_arePamphlets 12 = .ok (.aload_n 0, 1) := by decide +kernel
theorem dL_arePamphlets_13 : decode cL_arePamphlets 13 = .ok (.iload_n 2, 1) := by decide +kernel
theorem dL_arePamphlets_14 : decode cL_arePamphlets 14 = .ok (.invokevirtual 60, 3) := by decide +kernel
theorem dL_arePamphlets_17 : decode cL_arePamphlets 17 = .ok (.istore_n 3, 1) := by decide +kernel
theorem dL_arePamphlets_18 : decode cL_arePamphlets 18 = .ok (.iconst 0, 1) := by decide +kernel
theorem dL_arePamphlets_19 : decode cL_arePamphlets 19 = .ok (.istore 4, 2) := by decide +kernel
theorem dL_arePamphlets_21 : decode cL_arePamphlets 21 = .ok (.iconst 1, 1) := by decide +kernel
theorem dL_arePamphlets_22 : decode cL_arePamphlets 22 = .ok (.istore 5, 2) := by decide +kernel
theorem dL_arePamphlets_24 : decode cL_arePamphlets 24 = .ok (.aload_n 0, 1) := by decide +kernel
theorem dL_arePamphlets_25 : decode cL_arePamphlets 25 = .ok (.iload_n 2, 1) := by decide +kernel
theorem dL_arePamphlets_26 : decode cL_arePamphlets 26 = .ok (.invokevirtual 82, 3) := by decide +kernel
theorem dL_arePamphlets_29 : decode cL_arePamphlets 29 = .ok (.ifCond .ne 7, 3) := by decide +kernel
theorem dL_arePamphlets_32 : decode cL_arePamphlets 32 = .ok (.iconst 1, 1) := by decide +kernel
theorem dL_arePamphlets_33 : decode cL_arePamphlets 33 = .ok (.goto 4, 3) := by decide +kernel
theorem dL_arePamphlets_36 : decode cL_arePamphlets 36 = .ok (.iconst 0, 1) := by decide +kernel
theorem dL_arePamphlets_37 : decode cL_arePamphlets 37 = .ok (.istore 6, 2) := by decide +kernel
theorem dL_arePamphlets_39 : decode cL_arePamphlets 39 = .ok (.iconst 0, 1) := by decide +kernel
theorem dL_arePamphlets_40 : decode cL_arePamphlets 40 = .ok (.istore 7, 2) := by decide +kernel
theorem dL_arePamphlets_42 : decode cL_arePamphlets 42 = .ok (.iload 7, 2) := by decide +kernel
theorem dL_arePamphlets_44 : decode cL_arePamphlets 44 = .ok (.aload_n 0, 1) := by decide +kernel
theorem dL_arePamphlets_45 : decode cL_arePamphlets 45 = .ok (.iload_n 2, 1) := by decide +kernel
theorem dL_arePamphlets_46 : decode cL_arePamphlets 46 = .ok (.invokevirtual 85, 3) := by decide +kernel
theorem dL_arePamphlets_49 : decode cL_arePamphlets 49 = .ok (.if_icmp .ge 21, 3) := by decide +kernel
theorem dL_arePamphlets_52 : decode cL_arePamphlets 52 = .ok (.iload 4, 2) := by decide +kernel
theorem dL_arePamphlets_54 : decode cL_arePamphlets 54 = .ok (.aload_n 0, 1) := by decide +kernel
theorem dL_arePamphlets_55 : decode cL_arePamphlets 55 = .ok (.iload_n 2, 1) := by decide +kernel
theorem dL_arePamphlets_56 : decode cL_arePamphlets 56 = .ok (.iload 7, 2) := by decide +kernel
theorem dL_arePamphlets_58 : decode cL_arePamphlets 58 = .ok (.invokevirtual 73, 3) := by decide +kernel
theorem dL_arePamphlets_61 : decode cL_arePamphlets 61 = .ok (.iadd, 1) := by decide +kernel
theorem dL_arePamphlets_62 : decode cL_arePamphlets 62 = .ok (.istore 4, 2) := by decide +kernel
theorem dL_arePamphlets_64 : decode cL_arePamphlets 64 = .ok (.iinc 7 1, 3) := by decide +kernel
theorem dL_arePamphlets_67 : decode cL_arePamphlets 67 = .ok (.goto (-25), 3) := by decide +kernel
theorem dL_arePamphlets_70 : decode cL_arePamphlets 70 = .ok (.iconst 0, 1) := by decide +kernel
theorem dL_arePamphlets_71 : decode cL_arePamphlets 71 = .ok (.istore 7, 2) := by decide +kernel
theorem dL_arePamphlets_73 : decode cL_arePamphlets 73 = .ok (.iload 7, 2) := by decide +kernel
theorem dL_arePamphlets_75 : decode cL_arePamphlets 75 = .ok (.aload_n 0, 1) := by decide +kernel
theorem dL_arePamphlets_76 : decode cL_arePamphlets 76 = .ok (.invokevirtual 79, 3) := by decide +kernel
theorem dL_arePamphlets_79 : decode cL_arePamphlets 79 = .ok (.if_icmp .ge 120, 3) := by decide +kernel
theorem dL_arePamphlets_82 : decode cL_arePamphlets 82 = .ok (.iconst 0, 1) := by decide +kernel
theorem dL_arePamphlets_83 : decode cL_arePamphlets 83 = .ok (.istore 8, 2) := by decide +kernel
theorem dL_arePamphlets_85 : decode cL_arePamphlets 85 = .ok (.iconst 0, 1) := by decide +kernel
theorem dL_arePamphlets_86 : decode cL_arePamphlets 86 = .ok (.istore 9, 2) := by decide +kernel
theorem dL_arePamphlets_88 : decode cL_arePamphlets 88 = .ok (.iload 9, 2) := by decide +kernel
theorem dL_arePamphlets_90 : decode cL_arePamphlets 90 = .ok (.aload_n 0, 1) := by decide +kernel
theorem dL_arePamphlets_91 : decode cL_arePamphlets 91 = .ok (.iload_n 2, 1) := by decide +kernel
theorem dL_arePamphlets_92 : decode cL_arePamphlets 92 = .ok (.invokevirtual 82, 3) := by decide +kernel
theorem dL_arePamphlets_95 : decode cL_arePamphlets 95 = .ok (.if_icmp .ge 33, 3) := by decide +kernel
theorem dL_arePamphlets_98 : decode cL_arePamphlets 98 = .ok (.iload 8, 2) := by decide +kernel
theorem dL_arePamphlets_100 : decode cL_arePamphlets 100 = .ok (.ifCond .ne 15, 3) := by decide +kernel
theorem dL_arePamphlets_103 : decode cL_arePamphlets 103 = .ok (.aload_n 0, 1) := by decide +kernel
theorem dL_arePamphlets_104 : decode cL_arePamphlets 104 = .ok (.iload_n 2, 1) := by decide +kernel
theorem dL_arePamphlets_105 : decode cL_arePamphlets 105 = .ok (.iload 9, 2) := by decide +kernel
theorem dL_arePamphlets_107 : decode cL_arePamphlets 107 = .ok (.invokevirtual 30, 3) := by decide +kernel
theorem dL_arePamphlets_110 : decode cL_arePamphlets 110 = .ok (.iload 7, 2) := by decide +kernel
theorem dL_arePamphlets_112 : decode cL_arePamphlets 112 = .ok (.if_icmp .ne 7, 3) := by decide +kernel
theorem dL_arePamphlets_115 : decode cL_arePamphlets 115 = .ok (.iconst 1, 1) := by decide +kernel
theorem dL_arePamphlets_116 : decode cL_arePamphlets 116 = .ok (.goto 4, 3) := by decide +kernel
theorem dL_arePamphlets_119 : decode cL_arePamphlets 119 = .ok (.iconst 0, 1) := by decide +kernel
theorem dL_arePamphlets_120 : decode cL_arePamphlets 120 = .ok (.istore 8, 2) := by decide +kernel
theorem dL_arePamphlets_122 : decode cL_arePamphlets 122 = .ok (.iinc 9 1, 3) := by decide +kernel
theorem dL_arePamphlets_125 : decode cL_arePamphlets 125 = .ok (.goto (-37), 3) := by decide +kernel
theorem dL_arePamphlets_128 : decode cL_arePamphlets 128 = .ok (.iload 8, 2) := by decide +kernel
theorem dL_arePamphlets_130 : decode cL_arePamphlets 130 = .ok (.ifCond .eq 25, 3) := by decide +kernel
theorem dL_arePamphlets_133 : decode cL_arePamphlets 133 = .ok (.aload_n 0, 1) := by decide +kernel
theorem dL_arePamphlets_134 : decode cL_arePamphlets 134 = .ok (.iload 7, 2) := by decide +kernel
theorem dL_arePamphlets_136 : decode cL_arePamphlets 136 = .ok (.invokevirtual 88, 3) := by decide +kernel
theorem dL_arePamphlets_139 : decode cL_arePamphlets 139 = .ok (.iload 5, 2) := by decide +kernel
theorem dL_arePamphlets_141 : decode cL_arePamphlets 141 = .ok (.if_icmp .lt 14, 3) := by decide +kernel
theorem dL_arePamphlets_144 : decode cL_arePamphlets 144 = .ok (.aload_n 0, 1) := by decide +kernel
theorem dL_arePamphlets_145 : decode cL_arePamphlets 145 = .ok (.iload 7, 2) := by decide +kernel
theorem dL_arePamphlets_147 : decode cL_arePamphlets 147 = .ok (.invokevirtual 88, 3) := by decide +kernel
theorem dL_arePamphlets_150 : decode cL_arePamphlets 150 = .ok (.iconst 1, 1) := by decide +kernel
theorem dL_arePamphlets_151 : decode cL_arePamphlets 151 = .ok (.iadd, 1) := by decide +kernel
theorem dL_arePamphlets_152 : decode cL_arePamphlets 152 = .ok (.goto 5, 3) := by decide +kernel
theorem dL_arePamphlets_155 : decode cL_arePamphlets 155 = .ok (.iload 5, 2) := by decide +kernel
theorem dL_arePamphlets_157 : decode cL_arePamphlets 157 = .ok (.istore 5, 2) := by decide +kernel
theorem dL_arePamphlets_159 : decode cL_arePamphlets 159 = .ok (.iload 6, 2) := by decide +kernel
theorem dL_arePamphlets_161 : decode cL_arePamphlets 161 = .ok (.iload 8, 2) := by decide +kernel
theorem dL_arePamphlets_163 : decode cL_arePamphlets 163 = .ok (.ifCond .eq 12, 3) := by decide +kernel
theorem dL_arePamphlets_166 : decode cL_arePamphlets 166 = .ok (.aload_n 0, 1) := by decide +kernel
theorem dL_arePamphlets_167 : decode cL_arePamphlets 167 = .ok (.iload 7, 2) := by decide +kernel
theorem dL_arePamphlets_169 : decode cL_arePamphlets 169 = .ok (.invokevirtual 91, 3) := by decide +kernel
theorem dL_arePamphlets_172 : decode cL_arePamphlets 172 = .ok (.goto 4, 3) := by decide +kernel
theorem dL_arePamphlets_175 : decode cL_arePamphlets 175 = .ok (.iconst 0, 1) := by decide +kernel
theorem dL_arePamphlets_176 : decode cL_arePamphlets 176 = .ok (.iadd, 1) := by decide +kernel
theorem dL_arePamphlets_177 : decode cL_arePamphlets 177 = .ok (.istore 6, 2) := by decide +kernel
theorem dL_arePamphlets_179 : decode cL_arePamphlets 179 = .ok (.aload_n 0, 1) := by decide +kernel
theorem dL_arePamphlets_180 : decode cL_arePamphlets 180 = .ok (.iload_n 2, 1) := by decide +kernel
theorem dL_arePamphlets_181 : decode cL_arePamphlets 181 = .ok (.iload 7, 2) := by decide +kernel
theorem dL_arePamphlets_183 : decode cL_arePamphlets 183 = .ok (.invokevirtual 94, 3) := by decide +kernel
theorem dL_arePamphlets_186 : decode cL_arePamphlets 186 = .ok (.iload 8, 2) := by decide +kernel
theorem dL_arePamphlets_188 : decode cL_arePamphlets 188 = .ok (.if_icmp .eq 5, 3) := by decide +kernel
theorem dL_arePamphlets_191 : decode cL_arePamphlets 191 = .ok (.iconst 0, 1) := by decide +kernel
theorem dL_arePamphlets_192 : decode cL_arePamphlets 192 = .ok (.ireturn, 1) := by decide +kernel
theorem dL_arePamphlets_193 : decode cL_arePamphlets 193 = .ok (.iinc 7 1, 3) := by decide +kernel
theorem dL_arePamphlets_196 : decode cL_arePamphlets 196 = .ok (.goto (-123), 3) := by decide +kernel
theorem dL_arePamphlets_199 : decode cL_arePamphlets 199 = .ok (.aload_n 0, 1) := by decide +kernel
theorem dL_arePamphlets_200 : decode cL_arePamphlets 200 = .ok (.iload_n 2, 1) := by decide +kernel
theorem dL_arePamphlets_201 : decode cL_arePamphlets 201 = .ok (.invokevirtual 98, 3) := by decide +kernel
theorem dL_arePamphlets_204 : decode cL_arePamphlets 204 = .ok (.istore 7, 2) := by decide +kernel
theorem dL_arePamphlets_206 : decode cL_arePamphlets 206 = .ok (.iconst 1, 1) := by decide +kernel
theorem dL_arePamphlets_207 : decode cL_arePamphlets 207 = .ok (.istore 8, 2) := by decide +kernel
theorem dL_arePamphlets_209 : decode cL_arePamphlets 209 = .ok (.iload 8, 2) := by decide +kernel
theorem dL_arePamphlets_211 : decode cL_arePamphlets 211 = .ok (.iload 7, 2) := by decide +kernel
theorem dL_arePamphlets_213 : decode cL_arePamphlets 213 = .ok (.if_icmp .ge 30, 3) := by decide +kernel
theorem dL_arePamphlets_216 : decode cL_arePamphlets 216 = .ok (.aload_n 0, 1) := by decide +kernel
theorem dL_arePamphlets_217 : decode cL_arePamphlets 217 = .ok (.iload_n 2, 1) := by decide +kernel
theorem dL_arePamphlets_218 : decode cL_arePamphlets 218 = .ok (.iload 8, 2) := by decide +kernel
theorem dL_arePamphlets_220 : decode cL_arePamphlets 220 = .ok (.iconst 1, 1) := by decide +kernel
theorem dL_arePamphlets_221 : decode cL_arePamphlets 221 = .ok (.isub, 1) := by decide +kernel
theorem dL_arePamphlets_222 : decode cL_arePamphlets 222 = .ok (.invokevirtual 101, 3) := by decide +kernel
theorem dL_arePamphlets_225 : decode cL_arePamphlets 225 = .ok (.aload_n 0, 1) := by decide +kernel
theorem dL_arePamphlets_226 : decode cL_arePamphlets 226 = .ok (.iload_n 2, 1) := by decide +kernel
theorem dL_arePamphlets_227 : decode cL_arePamphlets 227 = .ok (.iload 8, 2) := by decide +kernel
theorem dL_arePamphlets_229 : decode cL_arePamphlets 229 = .ok (.invokevirtual 101, 3) := by decide +kernel
theorem dL_arePamphlets_232 : decode cL_arePamphlets 232 = .ok (.if_icmp .lt 5, 3) := by decide +kernel
theorem dL_arePamphlets_235 : decode cL_arePamphlets 235 = .ok (.iconst 0, 1) := by decide +kernel
theorem dL_arePamphlets_236 : decode cL_arePamphlets 236 = .ok (.ireturn, 1) := by decide +kernel
theorem dL_arePamphlets_237 : decode cL_arePamphlets 237 = .ok (.iinc 8 1, 3) := by decide +kernel
theorem dL_arePamphlets_240 : decode cL_arePamphlets 240 = .ok (.goto (-31), 3) := by decide +kernel
theorem dL_arePamphlets_243 : decode cL_arePamphlets 243 = .ok (.iload_n 3, 1) := by decide +kernel
theorem dL_arePamphlets_244 : decode cL_arePamphlets 244 = .ok (.iconst 1, 1) := by decide +kernel
theorem dL_arePamphlets_245 : decode cL_arePamphlets 245 = .ok (.if_icmp .lt 76, 3) := by decide +kernel
theorem dL_arePamphlets_248 : decode cL_arePamphlets 248 = .ok (.iload_n 3, 1) := by decide +kernel
theorem dL_arePamphlets_249 : decode cL_arePamphlets 249 = .ok (.bipush 60, 2) := by decide +kernel
theorem dL_arePamphlets_251 : decode cL_arePamphlets 251 = .ok (.if_icmp .gt 70, 3) := by decide +kernel
theorem dL_arePamphlets_254 : decode cL_arePamphlets 254 = .ok (.iload 4, 2) := by decide +kernel
theorem dL_arePamphlets_256 : decode cL_arePamphlets 256 = .ok (.iload_n 3, 1) := by decide +kernel
theorem dL_arePamphlets_257 : decode cL_arePamphlets 257 = .ok (.if_icmp .ne 64, 3) := by decide +kernel
theorem dL_arePamphlets_260 : decode cL_arePamphlets 260 = .ok (.aload_n 0, 1) := by decide +kernel
theorem dL_arePamphlets_261 : decode cL_arePamphlets 261 = .ok (.iload_n 2, 1) := by decide +kernel
theorem dL_arePamphlets_262 : decode cL_arePamphlets 262 = .ok (.invokevirtual 57, 3) := by decide +kernel
theorem dL_arePamphlets_265 : decode cL_arePamphlets 265 = .ok (.iload_n 1, 1) := by decide +kernel
theorem dL_arePamphlets_266 : decode cL_arePamphlets 266 = .ok (.if_icmp .lt 55, 3) := by decide +kernel
theorem dL_arePamphlets_269 : decode cL_arePamphlets 269 = .ok (.aload_n 0, 1) := by decide +kernel
theorem dL_arePamphlets_270 : decode cL_arePamphlets 270 = .ok (.iload_n 2, 1) := by decide +kernel
theorem dL_arePamphlets_271 : decode cL_arePamphlets 271 = .ok (.invokevirtual 57, 3) := by decide +kernel
theorem dL_arePamphlets_274 : decode cL_arePamphlets 274 = .ok (.aload_n 0, 1) := by decide +kernel
theorem dL_arePamphlets_275 : decode cL_arePamphlets 275 = .ok (.invokevirtual 104, 3) := by decide +kernel
theorem dL_arePamphlets_278 : decode cL_arePamphlets 278 = .ok (.if_icmp .gt 43, 3) := by decide +kernel
theorem dL_arePamphlets_281 : decode cL_arePamphlets 281 = .ok (.aload_n 0, 1) := by decide +kernel
theorem dL_arePamphlets_282 : decode cL_arePamphlets 282 = .ok (.iload_n 2, 1) := by decide +kernel
theorem dL_arePamphlets_283 : decode cL_arePamphlets 283 = .ok (.invokevirtual 88, 3) := by decide +kernel
theorem dL_arePamphlets_286 : decode cL_arePamphlets 286 = .ok (.iload 5, 2) := by decide +kernel
theorem dL_arePamphlets_288 : decode cL_arePamphlets 288 = .ok (.if_icmp .ne 33, 3) := by decide +kernel
theorem dL_arePamphlets_291 : decode cL_arePamphlets 291 = .ok (.aload_n 0, 1) := by decide +kernel
theorem dL_arePamphlets_292 : decode cL_arePamphlets 292 = .ok (.iload_n 2, 1) := by decide +kernel
theorem dL_arePamphlets_293 : decode cL_arePamphlets 293 = .ok (.invokevirtual 91, 3) := by decide +kernel
theorem dL_arePamphlets_296 : decode cL_arePamphlets 296 = .ok (.iload 6, 2) := by decide +kernel
theorem dL_arePamphlets_298 : decode cL_arePamphlets 298 = .ok (.if_icmp .ne 23, 3) := by decide +kernel
theorem dL_arePamphlets_301 : decode cL_arePamphlets 301 = .ok (.iload 7, 2) := by decide +kernel
theorem dL_arePamphlets_303 : decode cL_arePamphlets 303 = .ok (.iload 5, 2) := by decide +kernel
theorem dL_arePamphlets_305 : decode cL_arePamphlets 305 = .ok (.if_icmp .lt 16, 3) := by decide +kernel
theorem dL_arePamphlets_308 : decode cL_arePamphlets 308 = .ok (.aload_n 0, 1) := by decide +kernel
theorem dL_arePamphlets_309 : decode cL_arePamphlets 309 = .ok (.iload_n 2, 1) := by decide +kernel
theorem dL_arePamphlets_310 : decode cL_arePamphlets 310 = .ok (.iload 7, 2) := by decide +kernel
theorem dL_arePamphlets_312 : decode cL_arePamphlets 312 = .ok (.iconst 1, 1) := by decide +kernel
theorem dL_arePamphlets_313 : decode cL_arePamphlets 313 = .ok (.isub, 1) := by decide +kernel
theorem dL_arePamphlets_314 : decode cL_arePamphlets 314 = .ok (.invokevirtual 101, 3) := by decide +kernel
theorem dL_arePamphlets_317 : decode cL_arePamphlets 317 = .ok (.iload_n 2, 1) := by decide +kernel
theorem dL_arePamphlets_318 : decode cL_arePamphlets 318 = .ok (.if_icmp .eq 5, 3) := by decide +kernel
theorem dL_arePamphlets_321 : decode cL_arePamphlets 321 = .ok (.iconst 0, 1) := by decide +kernel
theorem dL_arePamphlets_322 : decode cL_arePamphlets 322 = .ok (.ireturn, 1) := by decide +kernel
theorem dL_arePamphlets_323 : decode cL_arePamphlets 323 = .ok (.aload_n 0, 1) := by decide +kernel
theorem dL_arePamphlets_324 : decode cL_arePamphlets 324 = .ok (.iload_n 2, 1) := by decide +kernel
theorem dL_arePamphlets_325 : decode cL_arePamphlets 325 = .ok (.invokevirtual 57, 3) := by decide +kernel
theorem dL_arePamphlets_328 : decode cL_arePamphlets 328 = .ok (.istore_n 1, 1) := by decide +kernel
theorem dL_arePamphlets_329 : decode cL_arePamphlets 329 = .ok (.iinc 2 1, 3) := by decide +kernel
theorem dL_arePamphlets_332 : decode cL_arePamphlets 332 = .ok (.goto (-328), 3) := by decide +kernel
theorem dL_arePamphlets_335 : decode cL_arePamphlets 335 = .ok (.aload_n 0, 1) := by decide +kernel
theorem dL_arePamphlets_336 : decode cL_arePamphlets 336 = .ok (.invokevirtual 79, 3) := by decide +kernel
theorem dL_arePamphlets_339 : decode cL_arePamphlets 339 = .ok (.ifCond .lt 16, 3) := by decide +kernel
theorem dL_arePamphlets_342 : decode cL_arePamphlets 342 = .ok (.aload_n 0, 1) := by decide +kernel
theorem dL_arePamphlets_343 : decode cL_arePamphlets 343 = .ok (.invokevirtual 79, 3) := by decide +kernel
theorem dL_arePamphlets_346 : decode cL_arePamphlets 346 = .ok (.bipush 20, 2) := by decide +kernel
theorem dL_arePamphlets_348 : decode cL_arePamphlets 348 = .ok (.if_icmp .gt 7, 3) := by decide +kernel
theorem dL_arePamphlets_351 : decode cL_arePamphlets 351 = .ok (.iconst 1, 1) := by decide +kernel
theorem dL_arePamphlets_352 : decode cL_arePamphlets 352 = .ok (.goto 4, 3) := by decide +kernel
theorem dL_arePamphlets_355 : decode cL_arePamphlets 355 = .ok (.iconst 0, 1) := by decide +kernel
theorem dL_arePamphlets_356 : decode cL_arePamphlets 356 = .ok (.ireturn, 1) := by decide +kernel
