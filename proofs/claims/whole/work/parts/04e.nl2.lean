set_option maxRecDepth 20000 in
theorem ggL_print_X10_print : GoodIn wsL_print wsX10_print := goodIn_ca (goodIn_ca (goodIn_r _ [7, 8, 9, 10, 11, 12, 13, 14, 15, 16, 17, 6, 18, 19, 20, 21, 22, 23, 24, 25, 26, 27, 28, 29, 30, 31, 32, 33, 34, 35, 36, 37, 38, 39, 40, 41, 42, 43, 44, 45, 46, 47, 48, 49, 50, 51, 52, 53, 54, 55, 56, 57, 58, 59, 60, 61, 62, 63, 64, 65, 66, 67, 68, 69, 70, 71, 72, 73, 74, 75, 76, 77, 78, 79, 80, 81, 82, 83, 84, 85, 86, 87, 88, 89, 90, 91, 92, 93, 94, 95, 96, 97, 98, 99, 100, 101, 102, 103, 104, 105, 106, 107, 108, 109, 110, 111, 112, 113, 114, 115, 116, 117, 118, 119, 120, 121, 122, 123, 124, 125, 126, 127, 128, 129, 130, 131, 132, 133, 134, 135, 136, 137, 138, 139, 140, 141, 142, 143, 144, 145, 146, 147, 148, 149, 150, 151, 152, 153, 154, 155, 156, 157, 158, 159, 160, 161, 162, 163, 164, 165, 166, 167, 168, 169, 170, 171, 172, 173, 174, 175, 176, 177, 178, 179, 180, 181, 182, 183, 184] (by decide +kernel) (by decide +kernel)) (goodIn_sub (fun _ h => List.mem_cons_of_mem _ (List.mem_append_left _ (List.mem_append_right _ h))) (by decide +kernel))) (goodIn_sub (fun _ h => List.mem_cons_of_mem _ (List.mem_append_right _ h)) (by decide +kernel))
set_option maxRecDepth 20000 in
theorem gL_print_X10_print : GoodIn wsL_print (wsV RL 7 RX10 yX10_print wsX10_print) := goodIn_app (goodIn_of _ (by decide +kernel)) ggL_print_X10_print
theorem dL_print_0 : decode cL_print 0 = .ok (.aload_n 2, 1) := by decide +kernel
theorem dL_print_1 : decode cL_print 1 = .ok (.iconst 0, 1) := by decide +kernel
theorem dL_print_2 : decode cL_print 2 = .ok (.aload_n 0, 1) := by decide +kernel
theorem dL_print_3 : decode cL_print 3 = .ok (.iload_n 1, 1) := by decide +kernel
theorem dL_print_4 : decode cL_print 4 = .ok (.invokevirtual 7, 3) := by decide +kernel
theorem dL_print_7 : decode cL_print 7 = .ok (.i2l, 1) := by decide +kernel
theorem dL_print_8 : decode cL_print 8 = .ok (.lastore, 1) := by decide +kernel
theorem dL_print_9 : decode cL_print 9 = .ok (.goto 9, 3) := by decide +kernel
theorem dL_print_12 : decode cL_print 12 = .ok (.astore_n 3, 1) := by decide +kernel
theorem dL_print_13 : decode cL_print 13 = .ok (.iconst 1, 1) := by decide +kernel
theorem dL_print_14 : decode cL_print 14 = .ok (.ireturn, 1) := by decide +kernel
theorem dL_print_15 : decode cL_print 15 = .ok (.astore_n 3, 1) := by decide +kernel
theorem dL_print_16 : decode cL_print 16 = .ok (.iconst 2, 1) := by decide +kernel
theorem dL_print_17 : decode cL_print 17 = .ok (.ireturn, 1) := by decide +kernel
theorem dL_print_18 : decode cL_print 18 = .ok (.iconst 0, 1) := by decide +kernel
theorem dL_print_19 : decode cL_print 19 = .ok (.ireturn, 1) := by decide +kernel
set_option maxRecDepth 20000 in
theorem ggL_pass_X10_pass : GoodIn wsL_pass wsX10_pass := goodIn_ca (goodIn_r _ [6, 7, 8, 9, 10, 11, 12, 13, 14, 15, 16, 17, 18, 19, 20, 21, 22, 23, 24, 25, 26, 27, 28, 29, 30, 31, 32, 33, 34, 35, 36, 37, 38, 39, 40, 41, 42, 43, 44, 45, 46, 47, 48, 49, 50, 51, 52, 53, 54, 55, 56, 57, 58, 59, 60, 61, 62, 63, 64, 65, 66, 67, 68, 69, 70, 71, 72, 73, 74, 75, 76, 77, 78, 79, 80, 81, 82, 83] (by decide +kernel) (by decide +kernel)) (goodIn_sub (fun _ h => List.mem_cons_of_mem _ (List.mem_append_right _ h)) (by decide +kernel))
set_option maxRecDepth 20000 in
theorem gL_pass_X10_pass : GoodIn wsL_pass (wsV RL 17 RX10 yX10_pass wsX10_pass) := goodIn_app (goodIn_of _ (by decide +kernel)) ggL_pass_X10_pass
theorem dL_pass_0 : decode cL_pass 0 = .ok (.aload_n 2, 1) := by decide +kernel
theorem dL_pass_1 : decode cL_pass 1 = .ok (.iconst 0, 1) := by decide +kernel
theorem dL_pass_2 : decode cL_pass 2 = .ok (.aload_n 0, 1) := by decide +kernel
theorem dL_pass_3 : decode cL_pass 3 = .ok (.iload_n 1, 1) := by decide +kernel
theorem dL_pass_4 : decode cL_pass 4 = .ok (.invokevirtual 17, 3) := by decide +kernel
theorem dL_pass_7 : decode cL_pass 7 = .ok (.i2l, 1) := by decide +kernel
theorem dL_pass_8 : decode cL_pass 8 = .ok (.lastore, 1) := by decide +kernel
theorem dL_pass_9 : decode cL_pass 9 = .ok (.goto 6, 3) := by decide +kernel
theorem dL_pass_12 : decode cL_pass 12 = .ok (.astore_n 3, 1) := by decide +kernel
theorem dL_pass_13 : decode cL_pass 13 = .ok (.iconst 1, 1) := by decide +kernel
theorem dL_pass_14 : decode cL_pass 14 = .ok (.ireturn, 1) := by decide +kernel
theorem dL_pass_15 : decode cL_pass 15 = .ok (.iconst 0, 1) := by decide +kernel
theorem dL_pass_16 : decode cL_pass 16 = .ok (.ireturn, 1) := by decide +kernel
set_option maxRecDepth 20000 in
theorem ggL_mend_X10_mend : GoodIn wsL_mend wsX10_mend := goodIn_ca (goodIn_ca (goodIn_r _ [7, 8, 9, 10, 11, 12, 13, 14, 15, 6, 16, 17, 18, 19, 20, 21, 22, 23, 24, 25, 26, 27, 28, 29, 30, 31, 32, 33, 34, 35, 36, 37, 38, 39, 40, 41, 42, 43, 44, 45, 46, 47, 48, 49, 50, 51, 52, 53, 54, 55, 56, 57, 58, 59, 60, 61, 62, 63, 64, 65, 66, 67, 68, 69, 70, 71, 72, 73, 74, 75, 76, 77, 78, 79, 80, 81, 82, 83, 84, 85, 86, 87, 88, 89, 90, 91, 92, 93, 94, 95, 96, 97, 98, 99, 100, 101, 102, 103, 104, 105, 106, 107, 108, 109, 110, 111, 112, 113, 114, 115, 116, 117, 118, 119, 120, 121, 122, 123, 124, 125, 126, 127, 128, 129, 130, 131, 132, 133, 134, 135, 136, 137, 138, 139, 140, 141, 142, 143, 144, 145, 146, 147, 148, 149, 150, 151, 152, 153, 154, 155, 156, 157, 158, 159, 160, 161, 162, 163, 164, 165, 166, 167, 168, 169, 170, 171, 172] (by decide +kernel) (by decide +kernel)) (goodIn_sub (fun _ h => List.mem_cons_of_mem _ (List.mem_append_left _ (List.mem_append_right _ h))) (by decide +kernel))) (goodIn_sub (fun _ h => List.mem_cons_of_mem _ (List.mem_append_right _ h)) (by decide +kernel))
set_option maxRecDepth 20000 in
theorem gL_mend_X10_mend : GoodIn wsL_mend (wsV RL 20 RX10 yX10_mend wsX10_mend) := goodIn_app (goodIn_of _ (by decide +kernel)) ggL_mend_X10_mend
theorem dL_mend_0 : decode cL_mend 0 = .ok (.aload_n 3, 1) := by decide +kernel
theorem dL_mend_1 : decode cL_mend 1 = .ok (.iconst 0, 1) := by decide +kernel
theorem dL_mend_2 : decode cL_mend 2 = .ok (.aload_n 0, 1) := by decide +kernel
theorem dL_mend_3 : decode cL_mend 3 = .ok (.iload_n 1, 1) := by decide +kernel
theorem dL_mend_4 : decode cL_mend 4 = .ok (.iload_n 2, 1) := by decide +kernel
theorem dL_mend_5 : decode cL_mend 5 = .ok (.invokevirtual 20, 3) := by decide +kernel
theorem dL_mend_8 : decode cL_mend 8 = .ok (.i2l, 1) := by decide +kernel
theorem dL_mend_9 : decode cL_mend 9 = .ok (.lastore, 1) := by decide +kernel
theorem dL_mend_10 : decode cL_mend 10 = .ok (.goto 11, 3) := by decide +kernel
theorem dL_mend_13 : decode cL_mend 13 = .ok (.astore 4, 2) := by decide +kernel
theorem dL_mend_15 : decode cL_mend 15 = .ok (.iconst 1, 1) := by decide +kernel
theorem dL_mend_16 : decode cL_mend 16 = .ok (.ireturn, 1) := by decide +kernel
theorem dL_mend_17 : decode cL_mend 17 = .ok (.astore 4, 2) := by decide +kernel
theorem dL_mend_19 : decode cL_mend 19 = .ok (.iconst 2, 1) := by decide +kernel
theorem dL_mend_20 : decode cL_mend 20 = .ok (.ireturn, 1) := by decide +kernel
theorem dL_mend_21 : decode cL_mend 21 = .ok (.iconst 0, 1) := by decide +kernel
theorem dL_mend_22 : decode cL_mend 22 = .ok (.ireturn, 1) := by decide +kernel
set_option maxRecDepth 20000 in
theorem ggL_withdraw_X10_withdraw : GoodIn wsL_withdraw wsX10_withdraw := goodIn_ca (goodIn_r _ [6, 7, 8, 9, 10, 11, 12, 13, 14, 15, 16, 17, 18, 19, 20, 21, 22, 23, 24, 25, 26, 27, 28, 29, 30, 31, 32, 33, 34, 35, 36, 37, 38, 39, 40, 41, 42, 43, 44, 45, 46, 47, 48, 49, 50, 51, 52, 53, 54, 55, 56, 57, 58, 59, 60, 61, 62, 63, 64, 65, 66, 67, 68, 69, 70, 71, 72, 73, 74, 75, 76, 77, 78, 79, 80, 81, 82, 83, 84] (by decide +kernel) (by decide +kernel)) (goodIn_sub (fun _ h => List.mem_cons_of_mem _ (List.mem_append_right _ h)) (by decide +kernel))
set_option maxRecDepth 20000 in
theorem gL_withdraw_X10_withdraw : GoodIn wsL_withdraw (wsV RL 26 RX10 yX10_withdraw wsX10_withdraw) := goodIn_app (goodIn_of _ (by decide +kernel)) ggL_withdraw_X10_withdraw
theorem dL_withdraw_0 : decode cL_withdraw 0 = .ok (.aload_n 1, 1) := by decide +kernel
theorem dL_withdraw_1 : decode cL_withdraw 1 = .ok (.iconst 0, 1) := by decide +kernel
theorem dL_withdraw_2 : decode cL_withdraw 2 = .ok (.aload_n 0, 1) := by decide +kernel
theorem dL_withdraw_3 : decode cL_withdraw 3 = .ok (.invokevirtual 26, 3) := by decide +kernel
theorem dL_withdraw_6 : decode cL_withdraw 6 = .ok (.i2l, 1) := by decide +kernel
theorem dL_withdraw_7 : decode cL_withdraw 7 = .ok (.lastore, 1) := by decide +kernel
theorem dL_withdraw_8 : decode cL_withdraw 8 = .ok (.goto 6, 3) := by decide +kernel
theorem dL_withdraw_11 : decode cL_withdraw 11 = .ok (.astore_n 2, 1) := by decide +kernel
theorem dL_withdraw_12 : decode cL_withdraw 12 = .ok (.iconst 1, 1) := by decide +kernel
theorem dL_withdraw_13 : decode cL_withdraw 13 = .ok (.ireturn, 1) := by decide +kernel
theorem dL_withdraw_14 : decode cL_withdraw 14 = .ok (.iconst 0, 1) := by decide +kernel
theorem dL_withdraw_15 : decode cL_withdraw 15 = .ok (.ireturn, 1) := by decide +kernel
set_option maxRecDepth 20000 in
theorem ggL_authorOf_X10_authorOf : GoodIn wsL_authorOf wsX10_authorOf := goodIn_ca (goodIn_r _ [6, 7, 8, 9, 10, 5, 11, 12, 13, 14, 15, 16, 17, 18, 19, 20, 21, 22, 23, 24, 25, 26, 27, 28, 29, 30, 31, 32, 33, 34, 35, 36, 37, 38, 39, 40, 41, 42, 43, 44] (by decide +kernel) (by decide +kernel)) (goodIn_sub (fun _ h => List.mem_cons_of_mem _ (List.mem_append_right _ h)) (by decide +kernel))
set_option maxRecDepth 20000 in
theorem gL_authorOf_X10_authorOf : GoodIn wsL_authorOf (wsV RL 30 RX10 yX10_authorOf wsX10_authorOf) := goodIn_app (goodIn_of _ (by decide +kernel)) ggL_authorOf_X10_authorOf
theorem dL_authorOf_0 : decode cL_authorOf 0 = .ok (.aload_n 2, 1) := by decide +kernel
theorem dL_authorOf_1 : decode cL_authorOf 1 = .ok (.iconst 0, 1) := by decide +kernel
theorem dL_authorOf_2 : decode cL_authorOf 2 = .ok (.aload_n 0, 1) := by decide +kernel
theorem dL_authorOf_3 : decode cL_authorOf 3 = .ok (.iload_n 1, 1) := by decide +kernel
theorem dL_authorOf_4 : decode cL_authorOf 4 = .ok (.invokevirtual 30, 3) := by decide +kernel
theorem dL_authorOf_7 : decode cL_authorOf 7 = .ok (.i2l, 1) := by decide +kernel
theorem dL_authorOf_8 : decode cL_authorOf 8 = .ok (.lastore, 1) := by decide +kernel
theorem dL_authorOf_9 : decode cL_authorOf 9 = .ok (.goto 6, 3) := by decide +kernel
theorem dL_authorOf_12 : decode cL_authorOf 12 = .ok (.astore_n 3, 1) := by decide +kernel
theorem dL_authorOf_13 : decode cL_authorOf 13 = .ok (.iconst 1, 1) := by decide +kernel
theorem dL_authorOf_14 : decode cL_authorOf 14 = .ok (.ireturn, 1) := by decide +kernel
theorem dL_authorOf_15 : decode cL_authorOf 15 = .ok (.iconst 0, 1) := by decide +kernel
theorem dL_authorOf_16 : decode cL_authorOf 16 = .ok (.ireturn, 1) := by decide +kernel
set_option maxRecDepth 20000 in
theorem ggL_dayOf_X10_dayOf : GoodIn wsL_dayOf wsX10_dayOf := goodIn_ca (goodIn_r _ [6, 7, 8, 9, 10, 5, 11, 12, 13, 14, 15, 16, 17, 18, 19, 20, 21, 22, 23, 24, 25, 26, 27, 28, 29, 30, 31, 32, 33, 34, 35, 36, 37, 38, 39, 40, 41, 42, 43, 44] (by decide +kernel) (by decide +kernel)) (goodIn_sub (fun _ h => List.mem_cons_of_mem _ (List.mem_append_right _ h)) (by decide +kernel))
set_option maxRecDepth 20000 in
theorem gL_dayOf_X10_dayOf : GoodIn wsL_dayOf (wsV RL 33 RX10 yX10_dayOf wsX10_dayOf) := goodIn_app (goodIn_of _ (by decide +kernel)) ggL_dayOf_X10_dayOf
theorem dL_dayOf_0 : decode cL_dayOf 0 = .ok (.aload_n 2, 1) := by decide +kernel
theorem dL_dayOf_1 : decode cL_dayOf 1 = .ok (.iconst 0, 1) := by decide +kernel
theorem dL_dayOf_2 : decode cL_dayOf 2 = .ok (.aload_n 0, 1) := by decide +kernel
theorem dL_dayOf_3 : decode cL_dayOf 3 = .ok (.iload_n 1, 1) := by decide +kernel
theorem dL_dayOf_4 : decode cL_dayOf 4 = .ok (.invokevirtual 33, 3) := by decide +kernel
theorem dL_dayOf_7 : decode cL_dayOf 7 = .ok (.i2l, 1) := by decide +kernel
theorem dL_dayOf_8 : decode cL_dayOf 8 = .ok (.lastore, 1) := by decide +kernel
theorem dL_dayOf_9 : decode cL_dayOf 9 = .ok (.goto 6, 3) := by decide +kernel
theorem dL_dayOf_12 : decode cL_dayOf 12 = .ok (.astore_n 3, 1) := by decide +kernel
theorem dL_dayOf_13 : decode cL_dayOf 13 = .ok (.iconst 1, 1) := by decide +kernel
theorem dL_dayOf_14 : decode cL_dayOf 14 = .ok (.ireturn, 1) := by decide +kernel
theorem dL_dayOf_15 : decode cL_dayOf 15 = .ok (.iconst 0, 1) := by decide +kernel
theorem dL_dayOf_16 : decode cL_dayOf 16 = .ok (.ireturn, 1) := by decide +kernel
set_option maxRecDepth 20000 in
theorem ggL_wordsOf_X10_wordsOf : GoodIn wsL_wordsOf wsX10_wordsOf := goodIn_ca (goodIn_r _ [6, 7, 8, 9, 10, 5, 11, 12, 13, 14, 15, 16, 17, 18, 19, 20, 21, 22, 23, 24, 25, 26, 27, 28, 29, 30, 31, 32, 33, 34, 35, 36, 37, 38, 39, 40, 41, 42, 43, 44] (by decide +kernel) (by decide +kernel)) (goodIn_sub (fun _ h => List.mem_cons_of_mem _ (List.mem_append_right _ h)) (by decide +kernel))
set_option maxRecDepth 20000 in
theorem gL_wordsOf_X10_wordsOf : GoodIn wsL_wordsOf (wsV RL 36 RX10 yX10_wordsOf wsX10_wordsOf) := goodIn_app (goodIn_of _ (by decide +kernel)) ggL_wordsOf_X10_wordsOf
theorem dL_wordsOf_0 : decode cL_wordsOf 0 = .ok (.aload_n 2, 1) := by decide +kernel
theorem dL_wordsOf_1 : decode cL_wordsOf 1 = .ok (.iconst 0, 1) := by decide +kernel
theorem dL_wordsOf_2 : decode cL_wordsOf 2 = .ok (.aload_n 0, 1) := by decide +kernel
theorem dL_wordsOf_3 : decode cL_wordsOf 3 = .ok (.iload_n 1, 1) := by decide +kernel
theorem dL_wordsOf_4 : decode cL_wordsOf 4 = .ok (.invokevirtual 36, 3) := by decide +kernel
theorem dL_wordsOf_7 : decode cL_wordsOf 7 = .ok (.i2l, 1) := by decide +kernel
theorem dL_wordsOf_8 : decode cL_wordsOf 8 = .ok (.lastore, 1) := by decide +kernel
theorem dL_wordsOf_9 : decode cL_wordsOf 9 = .ok (.goto 6, 3) := by decide +kernel
theorem dL_wordsOf_12 : decode cL_wordsOf 12 = .ok (.astore_n 3, 1) := by decide +kernel
theorem dL_wordsOf_13 : decode cL_wordsOf 13 = .ok (.iconst 1, 1) := by decide +kernel
theorem dL_wordsOf_14 : decode cL_wordsOf 14 = .ok (.ireturn, 1) := by decide +kernel
theorem dL_wordsOf_15 : decode cL_wordsOf 15 = .ok (.iconst 0, 1) := by decide +kernel
theorem dL_wordsOf_16 : decode cL_wordsOf 16 = .ok (.ireturn, 1) := by decide +kernel
set_option maxRecDepth 20000 in
theorem ggL_pagesOf_X10_pagesOf : GoodIn wsL_pagesOf wsX10_pagesOf := goodIn_ca (goodIn_r _ [6, 7, 8, 9, 10, 5, 11, 12, 13, 14, 15, 16, 17, 18, 19, 20, 21, 22, 23, 24, 25, 26, 27, 28, 29, 30, 31, 32, 33, 34, 35, 36, 37, 38, 39, 40, 41, 42, 43, 44, 45, 46, 47, 48, 49, 50] (by decide +kernel) (by decide +kernel)) (goodIn_sub (fun _ h => List.mem_cons_of_mem _ (List.mem_append_right _ h)) (by decide +kernel))
set_option maxRecDepth 20000 in
theorem gL_pagesOf_X10_pagesOf : GoodIn wsL_pagesOf (wsV RL 39 RX10 yX10_pagesOf wsX10_pagesOf) := goodIn_app (goodIn_of _ (by decide +kernel)) ggL_pagesOf_X10_pagesOf
theorem dL_pagesOf_0 : decode cL_pagesOf 0 = .ok (.aload_n 2, 1) := by decide +kernel
theorem dL_pagesOf_1 : decode cL_pagesOf 1 = .ok (.iconst 0, 1) := by decide +kernel
theorem dL_pagesOf_2 : decode cL_pagesOf 2 = .ok (.aload_n 0, 1) := by decide +kernel
theorem dL_pagesOf_3 : decode cL_pagesOf 3 = .ok (.iload_n 1, 1) := by decide +kernel
theorem dL_pagesOf_4 : decode cL_pagesOf 4 = .ok (.invokevirtual 39, 3) := by decide +kernel
theorem dL_pagesOf_7 : decode cL_pagesOf 7 = .ok (.i2l, 1) := by decide +kernel
theorem dL_pagesOf_8 : decode cL_pagesOf 8 = .ok (.lastore, 1) := by decide +kernel
theorem dL_pagesOf_9 : decode cL_pagesOf 9 = .ok (.goto 6, 3) := by decide +kernel
theorem dL_pagesOf_12 : decode cL_pagesOf 12 = .ok (.astore_n 3, 1) := by decide +kernel
theorem dL_pagesOf_13 : decode cL_pagesOf 13 = .ok (.iconst 1, 1) := by decide +kernel
theorem dL_pagesOf_14 : decode cL_pagesOf 14 = .ok (.ireturn, 1) := by decide +kernel
theorem dL_pagesOf_15 : decode cL_pagesOf 15 = .ok (.iconst 0, 1) := by decide +kernel
theorem dL_pagesOf_16 : decode cL_pagesOf 16 = .ok (.ireturn, 1) := by decide +kernel
set_option maxRecDepth 20000 in
theorem ggL_wordsOn_X10_wordsOn : GoodIn wsL_wordsOn wsX10_wordsOn := goodIn_ca (goodIn_r _ [6, 7, 8, 9, 10, 11, 12, 13, 14, 15, 16, 5, 17, 18, 19, 20, 21, 22, 23, 24, 25, 26, 27, 28, 29, 30, 31, 32, 33, 34, 35, 36, 37, 38, 39, 40, 41, 42, 43, 44, 45, 46, 47, 48, 49, 50, 51, 52, 53, 54] (by decide +kernel) (by decide +kernel)) (goodIn_sub (fun _ h => List.mem_cons_of_mem _ (List.mem_append_right _ h)) (by decide +kernel))
set_option maxRecDepth 20000 in
theorem gL_wordsOn_X10_wordsOn : GoodIn wsL_wordsOn (wsV RL 42 RX10 yX10_wordsOn wsX10_wordsOn) := goodIn_app (goodIn_of _ (by decide +kernel)) ggL_wordsOn_X10_wordsOn
theorem dL_wordsOn_0 : decode cL_wordsOn 0 = .ok (.aload_n 3, 1) := by decide +kernel
theorem dL_wordsOn_1 : decode cL_wordsOn 1 = .ok (.iconst 0, 1) := by decide +kernel
theorem dL_wordsOn_2 : decode cL_wordsOn 2 = .ok (.aload_n 0, 1) := by decide +kernel
theorem dL_wordsOn_3 : decode cL_wordsOn 3 = .ok (.iload_n 1, 1) := by decide +kernel
theorem dL_wordsOn_4 : decode cL_wordsOn 4 = .ok (.iload_n 2, 1) := by decide +kernel
theorem dL_wordsOn_5 : decode cL_wordsOn 5 = .ok (.invokevirtual 42, 3) := by decide +kernel
theorem dL_wordsOn_8 : decode cL_wordsOn 8 = .ok (.i2l, 1) := by decide +kernel
theorem dL_wordsOn_9 : decode cL_wordsOn 9 = .ok (.lastore, 1) := by decide +kernel
theorem dL_wordsOn_10 : decode cL_wordsOn 10 = .ok (.goto 7, 3) := by decide +kernel
theorem dL_wordsOn_13 : decode cL_wordsOn 13 = .ok (.astore 4, 2) := by decide +kernel
theorem dL_wordsOn_15 : decode cL_wordsOn 15 = .ok (.iconst 1, 1) := by decide +kernel
theorem dL_wordsOn_16 : decode cL_wordsOn 16 = .ok (.ireturn, 1) := by decide +kernel
theorem dL_wordsOn_17 : decode cL_wordsOn 17 = .ok (.iconst 0, 1) := by decide +kernel
theorem dL_wordsOn_18 : decode cL_wordsOn 18 = .ok (.ireturn, 1) := by decide +kernel
set_option maxRecDepth 20000 in
theorem ggL_letterOf_X10_letterOf : GoodIn wsL_letterOf wsX10_letterOf := goodIn_ca (goodIn_r _ [6, 7, 8, 9, 10, 5, 11, 12, 13, 14, 15, 16, 17, 18, 19, 20, 21, 22, 23, 24, 25, 26, 27, 28, 29, 30, 31, 32, 33, 34, 35, 36, 37, 38, 39, 40, 41, 42, 43, 44, 45, 46, 47, 48, 49, 50, 51, 52, 53, 54, 55, 56, 57, 58, 59, 60, 61] (by decide +kernel) (by decide +kernel)) (goodIn_sub (fun _ h => List.mem_cons_of_mem _ (List.mem_append_right _ h)) (by decide +kernel))
set_option maxRecDepth 20000 in
theorem gL_letterOf_X10_letterOf : GoodIn wsL_letterOf (wsV RL 45 RX10 yX10_letterOf wsX10_letterOf) := goodIn_app (goodIn_of _ (by decide +kernel)) ggL_letterOf_X10_letterOf
theorem dL_letterOf_0 : decode cL_letterOf 0 = .ok (.aload 4, 2) := by decide +kernel
theorem dL_letterOf_2 : decode cL_letterOf 2 = .ok (.iconst 0, 1) := by decide +kernel
theorem dL_letterOf_3 : decode cL_letterOf 3 = .ok (.aload_n 0, 1) := by decide +kernel
theorem dL_letterOf_4 : decode cL_letterOf 4 = .ok (.iload_n 1, 1) := by decide +kernel
theorem dL_letterOf_5 : decode cL_letterOf 5 = .ok (.iload_n 2, 1) := by decide +kernel
theorem dL_letterOf_6 : decode cL_letterOf 6 = .ok (.iload_n 3, 1) := by decide +kernel
theorem dL_letterOf_7 : decode cL_letterOf 7 = .ok (.invokevirtual 45, 3) := by decide +kernel
theorem dL_letterOf_10 : decode cL_letterOf 10 = .ok (.i2l, 1) := by decide +kernel
theorem dL_letterOf_11 : decode cL_letterOf 11 = .ok (.lastore, 1) := by decide +kernel
theorem dL_letterOf_12 : decode cL_letterOf 12 = .ok (.goto 7, 3) := by decide +kernel
theorem dL_letterOf_15 : decode cL_letterOf 15 = .ok (.astore 5, 2) := by decide +kernel
theorem dL_letterOf_17 : decode cL_letterOf 17 = .ok (.iconst 1, 1) := by decide +kernel
theorem dL_letterOf_18 : decode cL_letterOf 18 = .ok (.ireturn, 1) := by decide +kernel
theorem dL_letterOf_19 : decode cL_letterOf 19 = .ok (.iconst 0, 1) := by decide +kernel
theorem dL_letterOf_20 : decode cL_letterOf 20 = .ok (.ireturn, 1) := by decide +kernel
set_option maxRecDepth 20000 in
theorem ggL_isSameWord_X10_isSameWord : GoodIn wsL_isSameWord wsX10_isSameWord := goodIn_ca (goodIn_r _ [6, 7, 8, 9, 10, 5, 11, 12, 13, 14, 15, 16, 17, 18, 19, 20, 21, 22, 23, 24, 25, 26, 27, 28, 29, 30, 31, 32, 33, 34, 35, 36, 37, 38, 39, 40, 41, 42, 43, 44, 45, 46, 47, 48, 49, 50, 51, 52, 53, 54, 55] (by decide +kernel) (by decide +kernel)) (goodIn_sub (fun _ h => List.mem_cons_of_mem _ (List.mem_append_right _ h)) (by decide +kernel))
set_option maxRecDepth 20000 in
theorem gL_isSameWord_X10_isSameWord : GoodIn wsL_isSameWord (wsV RL 49 RX10 yX10_isSameWord wsX10_isSameWord) := goodIn_app (goodIn_of _ (by decide +kernel)) ggL_isSameWord_X10_isSameWord
theorem dL_isSameWord_0 : decode cL_isSameWord 0 = .ok (.aload 5, 2) := by decide +kernel
theorem dL_isSameWord_2 : decode cL_isSameWord 2 = .ok (.iconst 0, 1) := by decide +kernel
theorem dL_isSameWord_3 : decode cL_isSameWord 3 = .ok (.aload_n 0, 1) := by decide +kernel
theorem dL_isSameWord_4 : decode cL_isSameWord 4 = .ok (.iload_n 1, 1) := by decide +kernel
theorem dL_isSameWord_5 : decode cL_isSameWord 5 = .ok (.iload_n 2, 1) := by decide +kernel
theorem dL_isSameWord_6 : decode cL_isSameWord 6 = .ok (.iload_n 3, 1) := by decide +kernel
theorem dL_isSameWord_7 : decode cL_isSameWord 7 = .ok (.iload 4, 2) := by decide +kernel
theorem dL_isSameWord_9 : decode cL_isSameWord 9 = .ok (.invokevirtual 49, 3) := by decide +kernel
theorem dL_isSameWord_12 : decode cL_isSameWord 12 = .ok (.ifCond .eq 7, 3) := by decide +kernel
theorem dL_isSameWord_15 : decode cL_isSameWord 15 = .ok (.lconst 1, 1) := by decide +kernel
theorem dL_isSameWord_16 : decode cL_isSameWord 16 = .ok (.goto 4, 3) := by decide +kernel
theorem dL_isSameWord_19 : decode cL_isSameWord 19 = .ok (.lconst 0, 1) := by decide +kernel
theorem dL_isSameWord_20 : decode cL_isSameWord 20 = .ok (.lastore, 1) := by decide +kernel
theorem dL_isSameWord_21 : decode cL_isSameWord 21 = .ok (.goto 7, 3) := by decide +kernel
theorem dL_isSameWord_24 : decode cL_isSameWord 24 = .ok (.astore 6, 2) := by decide +kernel
theorem dL_isSameWord_26 : decode cL_isSameWord 26 = .ok (.iconst 1, 1) := by decide +kernel
theorem dL_isSameWord_27 : decode cL_isSameWord 27 = .ok (.ireturn, 1) := by decide +kernel
theorem dL_isSameWord_28 : decode cL_isSameWord 28 = .ok (.iconst 0, 1) := by decide +kernel
theorem dL_isSameWord_29 : decode cL_isSameWord 29 = .ok (.ireturn, 1) := by decide +kernel
set_option maxRecDepth 20000 in
theorem ggL_quotationsOf_X10_quotationsOf : GoodIn wsL_quotationsOf wsX10_quotationsOf := goodIn_ca (goodIn_r _ [6, 7, 8, 9, 10, 5, 11, 12, 13, 14, 15, 16, 17, 18, 19, 20, 21, 22, 23, 24, 25, 26, 27, 28, 29, 30, 31, 32, 33, 34, 35, 36, 37, 38, 39, 40, 41, 42, 43, 44] (by decide +kernel) (by decide +kernel)) (goodIn_sub (fun _ h => List.mem_cons_of_mem _ (List.mem_append_right _ h)) (by decide +kernel))
set_option maxRecDepth 20000 in
theorem gL_quotationsOf_X10_quotationsOf : GoodIn wsL_quotationsOf (wsV RL 53 RX10 yX10_quotationsOf wsX10_quotationsOf) := goodIn_app (goodIn_of _ (by decide +kernel)) ggL_quotationsOf_X10_quotationsOf
theorem dL_quotationsOf_0 : decode cL_quotationsOf 0 = .ok (.aload_n 2, 1) := by decide +kernel
theorem dL_quotationsOf_1 : decode cL_quotationsOf 1 = .ok (.iconst 0, 1) := by decide +kernel
theorem dL_quotationsOf_2 : decode cL_quotationsOf 2 = .ok (.aload_n 0, 1) := by decide +kernel
theorem dL_quotationsOf_3 : decode cL_quotationsOf 3 = .ok (.iload_n 1, 1) := by decide +kernel
theorem dL_quotationsOf_4 : decode cL_quotationsOf 4 = .ok (.invokevirtual 53, 3) := by decide +kernel
theorem dL_quotationsOf_7 : decode cL_quotationsOf 7 = .ok (.i2l, 1) := by decide +kernel
theorem dL_quotationsOf_8 : decode cL_quotationsOf 8 = .ok (.lastore, 1) := by decide +kernel
theorem dL_quotationsOf_9 : decode cL_quotationsOf 9 = .ok (.goto 6, 3) := by decide +kernel
theorem dL_quotationsOf_12 : decode cL_quotationsOf 12 = .ok (.astore_n 3, 1) := by decide +kernel
theorem dL_quotationsOf_13 : decode cL_quotationsOf 13 = .ok (.iconst 1, 1) := by decide +kernel
theorem dL_quotationsOf_14 : decode cL_quotationsOf 14 = .ok (.ireturn, 1) := by decide +kernel
theorem dL_quotationsOf_15 : decode cL_quotationsOf 15 = .ok (.iconst 0, 1) := by decide +kernel
theorem dL_quotationsOf_16 : decode cL_quotationsOf 16 = .ok (.ireturn, 1) := by decide +kernel
set_option maxRecDepth 20000 in
theorem ggL_sourceOf_X10_sourceOf : GoodIn wsL_sourceOf wsX10_sourceOf := goodIn_ca (goodIn_r _ [6, 7, 8, 9, 10, 5, 11, 12, 13, 14, 15, 16, 17, 18, 19, 20, 21, 22, 23, 24, 25, 26, 27, 28, 29, 30, 31, 32, 33, 34, 35, 36, 37, 38, 39, 40, 41, 42, 43, 44, 45, 46, 47, 48, 49, 50, 51, 52, 53, 54, 55] (by decide +kernel) (by decide +kernel)) (goodIn_sub (fun _ h => List.mem_cons_of_mem _ (List.mem_append_right _ h)) (by decide +kernel))
set_option maxRecDepth 20000 in
theorem gL_sourceOf_X10_sourceOf : GoodIn wsL_sourceOf (wsV RL 56 RX10 yX10_sourceOf wsX10_sourceOf) := goodIn_app (goodIn_of _ (by decide +kernel)) ggL_sourceOf_X10_sourceOf
theorem dL_sourceOf_0 : decode cL_sourceOf 0 = .ok (.aload_n 3, 1) := by decide +kernel
theorem dL_sourceOf_1 : decode cL_sourceOf 1 = .ok (.iconst 0, 1) := by decide +kernel
theorem dL_sourceOf_2 : decode cL_sourceOf 2 = .ok (.aload_n 0, 1) := by decide +kernel
theorem dL_sourceOf_3 : decode cL_sourceOf 3 = .ok (.iload_n 1, 1) := by decide +kernel
theorem dL_sourceOf_4 : decode cL_sourceOf 4 = .ok (.iload_n 2, 1) := by decide +kernel
theorem dL_sourceOf_5 : decode cL_sourceOf 5 = .ok (.invokevirtual 56, 3) := by decide +kernel
theorem dL_sourceOf_8 : decode cL_sourceOf 8 = .ok (.i2l, 1) := by decide +kernel
theorem dL_sourceOf_9 : decode cL_sourceOf 9 = .ok (.lastore, 1) := by decide +kernel
theorem dL_sourceOf_10 : decode cL_sourceOf 10 = .ok (.goto 7, 3) := by decide +kernel
theorem dL_sourceOf_13 : decode cL_sourceOf 13 = .ok (.astore 4, 2) := by decide +kernel
theorem dL_sourceOf_15 : decode cL_sourceOf 15 = .ok (.iconst 1, 1) := by decide +kernel
theorem dL_sourceOf_16 : decode cL_sourceOf 16 = .ok (.ireturn, 1) := by decide +kernel
theorem dL_sourceOf_17 : decode cL_sourceOf 17 = .ok (.iconst 0, 1) := by decide +kernel
theorem dL_sourceOf_18 : decode cL_sourceOf 18 = .ok (.ireturn, 1) := by decide +kernel
set_option maxRecDepth 20000 in
theorem ggL_beginOf_X10_beginOf : GoodIn wsL_beginOf wsX10_beginOf := goodIn_ca (goodIn_r _ [6, 7, 8, 9, 10, 5, 11, 12, 13, 14, 15, 16, 17, 18, 19, 20, 21, 22, 23, 24, 25, 26, 27, 28, 29, 30, 31, 32, 33, 34, 35, 36, 37, 38, 39, 40, 41, 42, 43, 44, 45, 46, 47, 48, 49, 50, 51, 52, 53, 54, 55] (by decide +kernel) (by decide +kernel)) (goodIn_sub (fun _ h => List.mem_cons_of_mem _ (List.mem_append_right _ h)) (by decide +kernel))
set_option maxRecDepth 20000 in
theorem gL_beginOf_X10_beginOf : GoodIn wsL_beginOf (wsV RL 59 RX10 yX10_beginOf wsX10_beginOf) := goodIn_app (goodIn_of _ (by decide +kernel)) ggL_beginOf_X10_beginOf
theorem dL_beginOf_0 : decode cL_beginOf 0 = .ok (.aload_n 3, 1) := by decide +kernel
theorem dL_beginOf_1 : decode cL_beginOf 1 = .ok (.iconst 0, 1) := by decide +kernel
theorem dL_beginOf_2 : decode cL_beginOf 2 = .ok (.aload_n 0, 1) := by decide +kernel
theorem dL_beginOf_3 : decode cL_beginOf 3 = .ok (.iload_n 1, 1) := by decide +kernel
theorem dL_beginOf_4 : decode cL_beginOf 4 = .ok (.iload_n 2, 1) := by decide +kernel
theorem dL_beginOf_5 : decode cL_beginOf 5 = .ok (.invokevirtual 59, 3) := by decide +kernel
theorem dL_beginOf_8 : decode cL_beginOf 8 = .ok (.i2l, 1) := by decide +kernel
theorem dL_beginOf_9 : decode cL_beginOf 9 = .ok (.lastore, 1) := by decide +kernel
theorem dL_beginOf_10 : decode cL_beginOf 10 = .ok (.goto 7, 3) := by decide +kernel
theorem dL_beginOf_13 : decode cL_beginOf 13 = .ok (.astore 4, 2) := by decide +kernel
theorem dL_beginOf_15 : decode cL_beginOf 15 = .ok (.iconst 1, 1) := by decide +kernel
theorem dL_beginOf_16 : decode cL_beginOf 16 = .ok (.ireturn, 1) := by decide +kernel
theorem dL_beginOf_17 : decode cL_beginOf 17 = .ok (.iconst 0, 1) := by decide +kernel
theorem dL_beginOf_18 : decode cL_beginOf 18 = .ok (.ireturn, 1) := by decide +kernel
set_option maxRecDepth 20000 in
theorem ggL_lengthOf_X10_lengthOf : GoodIn wsL_lengthOf wsX10_lengthOf := goodIn_ca (goodIn_r _ [6, 7, 8, 9, 10, 5, 11, 12, 13, 14, 15, 16, 17, 18, 19, 20, 21, 22, 23, 24, 25, 26, 27, 28, 29, 30, 31, 32, 33, 34, 35, 36, 37, 38, 39, 40, 41, 42, 43, 44, 45, 46, 47, 48, 49, 50, 51, 52, 53, 54, 55] (by decide +kernel) (by decide +kernel)) (goodIn_sub (fun _ h => List.mem_cons_of_mem _ (List.mem_append_right _ h)) (by decide +kernel))
set_option maxRecDepth 20000 in
theorem gL_lengthOf_X10_lengthOf : GoodIn wsL_lengthOf (wsV RL 62 RX10 yX10_lengthOf wsX10_lengthOf) := goodIn_app (goodIn_of _ (by decide +kernel)) ggL_lengthOf_X10_lengthOf
theorem dL_lengthOf_0 : decode cL_lengthOf 0 = .ok (.aload_n 3, 1) := by decide +kernel
theorem dL_lengthOf_1 : decode cL_lengthOf 1 = .ok (.iconst 0, 1) := by decide +kernel
theorem dL_lengthOf_2 : decode cL_lengthOf 2 = .ok (.aload_n 0, 1) := by decide +kernel
theorem dL_lengthOf_3 : decode cL_lengthOf 3 = .ok (.iload_n 1, 1) := by decide +kernel
theorem dL_lengthOf_4 : decode cL_lengthOf 4 = .ok (.iload_n 2, 1) := by decide +kernel
theorem dL_lengthOf_5 : decode cL_lengthOf 5 = .ok (.invokevirtual 62, 3) := by decide +kernel
theorem dL_lengthOf_8 : decode cL_lengthOf 8 = .ok (.i2l, 1) := by decide +kernel
theorem dL_lengthOf_9 : decode cL_lengthOf 9 = .ok (.lastore, 1) := by decide +kernel
theorem dL_lengthOf_10 : decode cL_lengthOf 10 = .ok (.goto 7, 3) := by decide +kernel
theorem dL_lengthOf_13 : decode cL_lengthOf 13 = .ok (.astore 4, 2) := by decide +kernel
theorem dL_lengthOf_15 : decode cL_lengthOf 15 = .ok (.iconst 1, 1) := by decide +kernel
theorem dL_lengthOf_16 : decode cL_lengthOf 16 = .ok (.ireturn, 1) := by decide +kernel
theorem dL_lengthOf_17 : decode cL_lengthOf 17 = .ok (.iconst 0, 1) := by decide +kernel
theorem dL_lengthOf_18 : decode cL_lengthOf 18 = .ok (.ireturn, 1) := by decide +kernel
set_option maxRecDepth 20000 in
theorem ggL_changesByTable_X10_changesByTable : GoodIn wsL_changesByTable wsX10_changesByTable := goodIn_ca (goodIn_r _ [6, 7, 8, 9, 10, 11, 5, 12, 13, 14, 15, 16, 17, 18, 19, 20, 21, 22, 23, 24, 25, 26, 27, 28, 29, 30, 31, 32, 33, 34, 35, 36, 37, 38, 39, 40, 41, 42, 43, 44, 45, 46, 47, 48, 49, 50, 51, 52, 53, 54, 55, 56, 57, 58, 59, 60, 61, 62, 63, 64, 65, 66, 67, 68, 69, 70, 71, 72, 73, 74, 75, 76, 77, 78, 79, 80, 81, 82, 83, 84, 85, 86, 87, 88, 89, 90, 91, 92, 93, 94, 95, 96, 97, 98, 99, 100] (by decide +kernel) (by decide +kernel)) (goodIn_sub (fun _ h => List.mem_cons_of_mem _ (List.mem_append_right _ h)) (by decide +kernel))
set_option maxRecDepth 20000 in
theorem gL_changesByTable_X10_changesByTable : GoodIn wsL_changesByTable (wsV RL 65 RX10 yX10_changesByTable wsX10_changesByTable) := goodIn_app (goodIn_of _ (by decide +kernel)) ggL_changesByTable_X10_changesByTable
theorem dL_changesByTable_0 : decode cL_changesByTable 0 = .ok (.aload_n 3, 1) := by decide +kernel
theorem dL_changesByTable_1 : decode cL_changesByTable 1 = .ok (.iconst 0, 1) := by decide +kernel
theorem dL_changesByTable_2 : decode cL_changesByTable 2 = .ok (.aload_n 0, 1) := by decide +kernel
theorem dL_changesByTable_3 : decode cL_changesByTable 3 = .ok (.iload_n 1, 1) := by decide +kernel
theorem dL_changesByTable_4 : decode cL_changesByTable 4 = .ok (.iload_n 2, 1) := by decide +kernel
theorem dL_changesByTable_5 : decode cL_changesByTable 5 = .ok (.invokevirtual 65, 3) := by decide +kernel
theorem dL_changesByTable_8 : decode cL_changesByTable 8 = .ok (.i2l, 1) := by decide +kernel
theorem dL_changesByTable_9 : decode cL_changesByTable 9 = .ok (.lastore, 1) := by decide +kernel
theorem dL_changesByTable_10 : decode cL_changesByTable 10 = .ok (.goto 7, 3) := by decide +kernel
theorem dL_changesByTable_13 : decode cL_changesByTable 13 = .ok (.astore 4, 2) := by decide +kernel
theorem dL_changesByTable_15 : decode cL_changesByTable 15 = .ok (.iconst 1, 1) := by decide +kernel
theorem dL_changesByTable_16 : decode cL_changesByTable 16 = .ok (.ireturn, 1) := by decide +kernel
theorem dL_changesByTable_17 : decode cL_changesByTable 17 = .ok (.iconst 0, 1) := by decide +kernel
theorem dL_changesByTable_18 : decode cL_changesByTable 18 = .ok (.ireturn, 1) := by decide +kernel
set_option maxRecDepth 20000 in
theorem ggL_changesByPassages_X10_changesByPassages : GoodIn wsL_changesByPassages wsX10_changesByPassages := goodIn_ca (goodIn_r _ [6, 7, 8, 9, 10, 11, 5, 12, 13, 14, 15, 16, 17, 18, 19, 20, 21, 22, 23, 24, 25, 26, 27, 28, 29, 30, 31, 32, 33, 34, 35, 36, 37, 38, 39, 40, 41, 42, 43, 44, 45, 46, 47, 48, 49, 50, 51, 52, 53, 54, 55, 56, 57, 58, 59, 60, 61, 62, 63, 64, 65, 66, 67, 68, 69, 70, 71, 72, 73, 74, 75, 76, 77, 78, 79, 80, 81, 82, 83, 84, 85, 86, 87, 88, 89, 90, 91, 92, 93, 94, 95, 96, 97] (by decide +kernel) (by decide +kernel)) (goodIn_sub (fun _ h => List.mem_cons_of_mem _ (List.mem_append_right _ h)) (by decide +kernel))
set_option maxRecDepth 20000 in
theorem gL_changesByPassages_X10_changesByPassages : GoodIn wsL_changesByPassages (wsV RL 68 RX10 yX10_changesByPassages wsX10_changesByPassages) := goodIn_app (goodIn_of _ (by decide +kernel)) ggL_changesByPassages_X10_changesByPassages
theorem dL_changesByPassages_0 : decode cL_changesByPassages 0 = .ok (.aload_n 3, 1) := by decide +kernel
theorem dL_changesByPassages_1 : decode cL_changesByPassages 1 = .ok (.iconst 0, 1) := by decide +kernel
theorem dL_changesByPassages_2 : decode cL_changesByPassages 2 = .ok (.aload_n 0, 1) := by decide +kernel
theorem dL_changesByPassages_3 : decode cL_changesByPassages 3 = .ok (.iload_n 1, 1) := by decide +kernel
theorem dL_changesByPassages_4 : decode cL_changesByPassages 4 = .ok (.iload_n 2, 1) := by decide +kernel
theorem dL_changesByPassages_5 : decode cL_changesByPassages 5 = .ok (.invokevirtual 68, 3) := by decide +kernel
theorem dL_changesByPassages_8 : decode cL_changesByPassages 8 = .ok (.i2l, 1) := by decide +kernel
theorem dL_changesByPassages_9 : decode cL_changesByPassages 9 = .ok (.lastore, 1) := by decide +kernel
theorem dL_changesByPassages_10 : decode cL_changesByPassages 10 = .ok (.goto 7, 3) := by decide +kernel
theorem dL_changesByPassages_13 : decode cL_changesByPassages 13 = .ok (.astore 4, 2) := by decide +kernel
theorem dL_changesByPassages_15 : decode cL_changesByPassages 15 = .ok (.iconst 1, 1) := by decide +kernel
theorem dL_changesByPassages_16 : decode cL_changesByPassages 16 = .ok (.ireturn, 1) := by decide +kernel
theorem dL_changesByPassages_17 : decode cL_changesByPassages 17 = .ok (.iconst 0, 1) := by decide +kernel
theorem dL_changesByPassages_18 : decode cL_changesByPassages 18 = .ok (.ireturn, 1) := by decide +kernel
set_option maxRecDepth 20000 in
theorem ggL_passageOf_X10_passageOf : GoodIn wsL_passageOf wsX10_passageOf := goodIn_ca (goodIn_r _ [6, 7, 8, 9, 10, 11, 5, 12, 13, 14, 15, 16, 17, 18, 19, 20, 21, 22, 23, 24, 25, 26, 27, 28, 29, 30, 31, 32, 33, 34, 35, 36, 37, 38, 39, 40, 41, 42, 43, 44, 45, 46, 47, 48, 49, 50, 51, 52, 53, 54, 55, 56, 57, 58, 59, 60, 61, 62, 63, 64, 65, 66, 67, 68, 69, 70, 71, 72, 73, 74, 75, 76, 77, 78, 79, 80, 81, 82, 83, 84, 85, 86, 87, 88, 89, 90, 91, 92, 93, 94, 95, 96, 97, 98, 99, 100] (by decide +kernel) (by decide +kernel)) (goodIn_sub (fun _ h => List.mem_cons_of_mem _ (List.mem_append_right _ h)) (by decide +kernel))
set_option maxRecDepth 20000 in
theorem gL_passageOf_X10_passageOf : GoodIn wsL_passageOf (wsV RL 71 RX10 yX10_passageOf wsX10_passageOf) := goodIn_app (goodIn_of _ (by decide +kernel)) ggL_passageOf_X10_passageOf
theorem dL_passageOf_0 : decode cL_passageOf 0 = .ok (.aload_n 3, 1) := by decide +kernel
theorem dL_passageOf_1 : decode cL_passageOf 1 = .ok (.iconst 0, 1) := by decide +kernel
theorem dL_passageOf_2 : decode cL_passageOf 2 = .ok (.aload_n 0, 1) := by decide +kernel
theorem dL_passageOf_3 : decode cL_passageOf 3 = .ok (.iload_n 1, 1) := by decide +kernel
theorem dL_passageOf_4 : decode cL_passageOf 4 = .ok (.iload_n 2, 1) := by decide +kernel
theorem dL_passageOf_5 : decode cL_passageOf 5 = .ok (.invokevirtual 71, 3) := by decide +kernel
theorem dL_passageOf_8 : decode cL_passageOf 8 = .ok (.i2l, 1) := by decide +kernel
theorem dL_passageOf_9 : decode cL_passageOf 9 = .ok (.lastore, 1) := by decide +kernel
theorem dL_passageOf_10 : decode cL_passageOf 10 = .ok (.goto 7, 3) := by decide +kernel
theorem dL_passageOf_13 : decode cL_passageOf 13 = .ok (.astore 4, 2) := by decide +kernel
theorem dL_passageOf_15 : decode cL_passageOf 15 = .ok (.iconst 1, 1) := by decide +kernel
theorem dL_passageOf_16 : decode cL_passageOf 16 = .ok (.ireturn, 1) := by decide +kernel
theorem dL_passageOf_17 : decode cL_passageOf 17 = .ok (.iconst 0, 1) := by decide +kernel
theorem dL_passageOf_18 : decode cL_passageOf 18 = .ok (.ireturn, 1) := by decide +kernel
set_option maxRecDepth 20000 in
theorem ggL_passageLength_X10_passageLength : GoodIn wsL_passageLength wsX10_passageLength := goodIn_ca (goodIn_r _ [6, 7, 8, 9, 10, 11, 5, 12, 13, 14, 15, 16, 17, 18, 19, 20, 21, 22, 23, 24, 25, 26, 27, 28, 29, 30, 31, 32, 33, 34, 35, 36, 37, 38, 39, 40, 41, 42, 43, 44, 45, 46, 47, 48, 49, 50, 51, 52, 53, 54, 55, 56, 57, 58, 59, 60, 61, 62, 63, 64, 65, 66, 67, 68, 69, 70, 71, 72, 73, 74, 75, 76, 77, 78, 79, 80, 81, 82, 83, 84, 85, 86, 87, 88, 89, 90, 91, 92, 93, 94, 95, 96, 97, 98, 99, 100] (by decide +kernel) (by decide +kernel)) (goodIn_sub (fun _ h => List.mem_cons_of_mem _ (List.mem_append_right _ h)) (by decide +kernel))
set_option maxRecDepth 20000 in
theorem gL_passageLength_X10_passageLength : GoodIn wsL_passageLength (wsV RL 74 RX10 yX10_passageLength wsX10_passageLength) := goodIn_app (goodIn_of _ (by decide +kernel)) ggL_passageLength_X10_passageLength
theorem dL_passageLength_0 : decode cL_passageLength 0 = .ok (.aload_n 3, 1) := by decide +kernel
theorem dL_passageLength_1 : decode cL_passageLength 1 = .ok (.iconst 0, 1) := by decide +kernel
theorem dL_passageLength_2 : decode cL_passageLength 2 = .ok (.aload_n 0, 1) := by decide +kernel
theorem dL_passageLength_3 : decode cL_passageLength 3 = .ok (.iload_n 1, 1) := by decide +kernel
theorem dL_passageLength_4 : decode cL_passageLength 4 = .ok (.iload_n 2, 1) := by decide +kernel
theorem dL_passageLength_5 : decode cL_passageLength 5 = .ok (.invokevirtual 74, 3) := by decide +kernel
theorem dL_passageLength_8 : decode cL_passageLength 8 = .ok (.i2l, 1) := by decide +kernel
theorem dL_passageLength_9 : decode cL_passageLength 9 = .ok (.lastore, 1) := by decide +kernel
theorem dL_passageLength_10 : decode cL_passageLength 10 = .ok (.goto 7, 3) := by decide +kernel
theorem dL_passageLength_13 : decode cL_passageLength 13 = .ok (.astore 4, 2) := by decide +kernel
theorem dL_passageLength_15 : decode cL_passageLength 15 = .ok (.iconst 1, 1) := by decide +kernel
theorem dL_passageLength_16 : decode cL_passageLength 16 = .ok (.ireturn, 1) := by decide +kernel
theorem dL_passageLength_17 : decode cL_passageLength 17 = .ok (.iconst 0, 1) := by decide +kernel
theorem dL_passageLength_18 : decode cL_passageLength 18 = .ok (.ireturn, 1) := by decide +kernel
set_option maxRecDepth 20000 in
theorem ggL_pageOf_X10_pageOf : GoodIn wsL_pageOf wsX10_pageOf := goodIn_ca (goodIn_r _ [6, 7, 8, 9, 10, 11, 5, 12, 13, 14, 15, 16, 17, 18, 19, 20, 21, 22, 23, 24, 25, 26, 27, 28, 29, 30, 31, 32, 33, 34, 35, 36, 37, 38, 39, 40, 41, 42, 43, 44, 45, 46, 47, 48, 49, 50, 51, 52, 53, 54, 55, 56, 57, 58, 59, 60, 61, 62, 63, 64, 65, 66, 67, 68, 69, 70, 71, 72, 73, 74, 75, 76, 77, 78, 79, 80, 81, 82, 83, 84, 85, 86, 87, 88, 89, 90, 91, 92, 93, 94, 95, 96, 97, 98, 99, 100] (by decide +kernel) (by decide +kernel)) (goodIn_sub (fun _ h => List.mem_cons_of_mem _ (List.mem_append_right _ h)) (by decide +kernel))
set_option maxRecDepth 20000 in
theorem gL_pageOf_X10_pageOf : GoodIn wsL_pageOf (wsV RL 77 RX10 yX10_pageOf wsX10_pageOf) := goodIn_app (goodIn_of _ (by decide +kernel)) ggL_pageOf_X10_pageOf
theorem dL_pageOf_0 : decode cL_pageOf 0 = .ok (.aload_n 3, 1) := by decide +kernel
theorem dL_pageOf_1 : decode cL_pageOf 1 = .ok (.iconst 0, 1) := by decide +kernel
theorem dL_pageOf_2 : decode cL_pageOf 2 = .ok (.aload_n 0, 1) := by decide +kernel
theorem dL_pageOf_3 : decode cL_pageOf 3 = .ok (.iload_n 1, 1) := by decide +kernel
theorem dL_pageOf_4 : decode cL_pageOf 4 = .ok (.iload_n 2, 1) := by decide +kernel
theorem dL_pageOf_5 : decode cL_pageOf 5 = .ok (.invokevirtual 77, 3) := by decide +kernel
theorem dL_pageOf_8 : decode cL_pageOf 8 = .ok (.i2l, 1) := by decide +kernel
theorem dL_pageOf_9 : decode cL_pageOf 9 = .ok (.lastore, 1) := by decide +kernel
theorem dL_pageOf_10 : decode cL_pageOf 10 = .ok (.goto 7, 3) := by decide +kernel
theorem dL_pageOf_13 : decode cL_pageOf 13 = .ok (.astore 4, 2) := by decide +kernel
theorem dL_pageOf_15 : decode cL_pageOf 15 = .ok (.iconst 1, 1) := by decide +kernel
theorem dL_pageOf_16 : decode cL_pageOf 16 = .ok (.ireturn, 1) := by decide +kernel
theorem dL_pageOf_17 : decode cL_pageOf 17 = .ok (.iconst 0, 1) := by decide +kernel
theorem dL_pageOf_18 : decode cL_pageOf 18 = .ok (.ireturn, 1) := by decide +kernel
set_option maxRecDepth 20000 in
theorem ggL_comesFrom_X10_comesFrom : GoodIn wsL_comesFrom wsX10_comesFrom := goodIn_ca (goodIn_r _ [6, 7, 8, 9, 10, 11, 5, 12, 13, 14, 15, 16, 17, 18, 19, 20, 21, 22, 23, 24, 25, 26, 27, 28, 29, 30, 31, 32, 33, 34, 35, 36, 37, 38, 39, 40, 41, 42, 43, 44, 45, 46, 47, 48, 49, 50, 51, 52, 53, 54, 55, 56, 57, 58, 59, 60, 61, 62, 63, 64, 65, 66, 67, 68, 69, 70, 71, 72, 73, 74, 75, 76, 77, 78, 79, 80, 81, 82, 83, 84, 85, 86, 87, 88, 89, 90, 91, 92, 93, 94, 95, 96, 97, 98, 99, 100, 101, 102, 103, 104, 105, 106, 107, 108, 109, 110, 111, 112, 113, 114, 115, 116, 117] (by decide +kernel) (by decide +kernel)) (goodIn_sub (fun _ h => List.mem_cons_of_mem _ (List.mem_append_right _ h)) (by decide +kernel))
set_option maxRecDepth 20000 in
theorem gL_comesFrom_X10_comesFrom : GoodIn wsL_comesFrom (wsV RL 80 RX10 yX10_comesFrom wsX10_comesFrom) := goodIn_app (goodIn_of _ (by decide +kernel)) ggL_comesFrom_X10_comesFrom
theorem dL_comesFrom_0 : decode cL_comesFrom 0 = .ok (.aload_n 3, 1) := by decide +kernel
theorem dL_comesFrom_1 : decode cL_comesFrom 1 = .ok (.iconst 0, 1) := by decide +kernel
theorem dL_comesFrom_2 : decode cL_comesFrom 2 = .ok (.aload_n 0, 1) := by decide +kernel
theorem dL_comesFrom_3 : decode cL_comesFrom 3 = .ok (.iload_n 1, 1) := by decide +kernel
theorem dL_comesFrom_4 : decode cL_comesFrom 4 = .ok (.iload_n 2, 1) := by decide +kernel
theorem dL_comesFrom_5 : decode cL_comesFrom 5 = .ok (.invokevirtual 80, 3) := by decide +kernel
theorem dL_comesFrom_8 : decode cL_comesFrom 8 = .ok (.i2l, 1) := by decide +kernel
theorem dL_comesFrom_9 : decode cL_comesFrom 9 = .ok (.lastore, 1) := by decide +kernel
theorem dL_comesFrom_10 : decode cL_comesFrom 10 = .ok (.goto 7, 3) := by decide +kernel
theorem dL_comesFrom_13 : decode cL_comesFrom 13 = .ok (.astore 4, 2) := by decide +kernel
theorem dL_comesFrom_15 : decode cL_comesFrom 15 = .ok (.iconst 1, 1) := by decide +kernel
theorem dL_comesFrom_16 : decode cL_comesFrom 16 = .ok (.ireturn, 1) := by decide +kernel
theorem dL_comesFrom_17 : decode cL_comesFrom 17 = .ok (.iconst 0, 1) := by decide +kernel
theorem dL_comesFrom_18 : decode cL_comesFrom 18 = .ok (.ireturn, 1) := by decide +kernel
set_option maxRecDepth 20000 in
theorem ggL_originOf_X10_originOf : GoodIn wsL_originOf wsX10_originOf := goodIn_ca (goodIn_r _ [6, 7, 8, 9, 10, 11, 5, 12, 13, 14, 15, 16, 17, 18, 19, 20, 21, 22, 23, 24, 25, 26, 27, 28, 29, 30, 31, 32, 33, 34, 35, 36, 37, 38, 39, 40, 41, 42, 43, 44, 45, 46, 47, 48, 49, 50, 51, 52, 53, 54, 55, 56, 57, 58, 59, 60, 61, 62, 63, 64, 65, 66, 67, 68, 69, 70, 71, 72, 73, 74, 75, 76, 77, 78, 79, 80, 81, 82, 83, 84, 85, 86, 87, 88, 89, 90, 91, 92, 93, 94, 95, 96, 97, 98, 99, 100, 101, 102, 103, 104, 105, 106, 107, 108, 109, 110, 111, 112, 113, 114, 115, 116, 117, 118, 119, 120, 121, 122, 123] (by decide +kernel) (by decide +kernel)) (goodIn_sub (fun _ h => List.mem_cons_of_mem _ (List.mem_append_right _ h)) (by decide +kernel))
set_option maxRecDepth 20000 in
theorem gL_originOf_X10_originOf : GoodIn wsL_originOf (wsV RL 83 RX10 yX10_originOf wsX10_originOf) := goodIn_app (goodIn_of _ (by decide +kernel)) ggL_originOf_X10_originOf
theorem dL_originOf_0 : decode cL_originOf 0 = .ok (.aload_n 3, 1) := by decide +kernel
theorem dL_originOf_1 : decode cL_originOf 1 = .ok (.iconst 0, 1) := by decide +kernel
theorem dL_originOf_2 : decode cL_originOf 2 = .ok (.aload_n 0, 1) := by decide +kernel
theorem dL_originOf_3 : decode cL_originOf 3 = .ok (.iload_n 1, 1) := by decide +kernel
theorem dL_originOf_4 : decode cL_originOf 4 = .ok (.iload_n 2, 1) := by decide +kernel
theorem dL_originOf_5 : decode cL_originOf 5 = .ok (.invokevirtual 83, 3) := by decide +kernel
theorem dL_originOf_8 : decode cL_originOf 8 = .ok (.i2l, 1) := by decide +kernel
theorem dL_originOf_9 : decode cL_originOf 9 = .ok (.lastore, 1) := by decide +kernel
theorem dL_originOf_10 : decode cL_originOf 10 = .ok (.goto 7, 3) := by decide +kernel
theorem dL_originOf_13 : decode cL_originOf 13 = .ok (.astore 4, 2) := by decide +kernel
theorem dL_originOf_15 : decode cL_originOf 15 = .ok (.iconst 1, 1) := by decide +kernel
theorem dL_originOf_16 : decode cL_originOf 16 = .ok (.ireturn, 1) := by decide +kernel
theorem dL_originOf_17 : decode cL_originOf 17 = .ok (.iconst 0, 1) := by decide +kernel
theorem dL_originOf_18 : decode cL_originOf 18 = .ok (.ireturn, 1) := by decide +kernel
set_option maxRecDepth 20000 in
theorem ggL_traceOf_X10_traceOf : GoodIn wsL_traceOf wsX10_traceOf := goodIn_ca (goodIn_r _ [6, 7, 8, 9, 10, 11, 5, 12, 13, 14, 15, 16, 17, 18, 19, 20, 21, 22, 23, 24, 25, 26, 27, 28, 29, 30, 31, 32, 33, 34, 35, 36, 37, 38, 39, 40, 41, 42, 43, 44, 45, 46, 47, 48, 49, 50, 51, 52, 53, 54, 55, 56, 57, 58, 59, 60, 61, 62, 63, 64, 65, 66, 67, 68, 69, 70, 71, 72, 73, 74, 75, 76, 77, 78, 79, 80, 81, 82, 83, 84, 85, 86, 87, 88, 89, 90, 91, 92, 93, 94, 95, 96, 97, 98, 99, 100, 101, 102, 103, 104, 105, 106, 107, 108, 109, 110, 111, 112, 113, 114, 115, 116, 117, 118, 119, 120, 121, 122, 123] (by decide +kernel) (by decide +kernel)) (goodIn_sub (fun _ h => List.mem_cons_of_mem _ (List.mem_append_right _ h)) (by decide +kernel))
set_option maxRecDepth 20000 in
theorem gL_traceOf_X10_traceOf : GoodIn wsL_traceOf (wsV RL 86 RX10 yX10_traceOf wsX10_traceOf) := goodIn_app (goodIn_of _ (by decide +kernel)) ggL_traceOf_X10_traceOf
theorem dL_traceOf_0 : decode cL_traceOf 0 = .ok (.aload_n 3, 1) := by decide +kernel
theorem dL_traceOf_1 : decode cL_traceOf 1 = .ok (.iconst 0, 1) := by decide +kernel
theorem dL_traceOf_2 : decode cL_traceOf 2 = .ok (.aload_n 0, 1) := by decide +kernel
theorem dL_traceOf_3 : decode cL_traceOf 3 = .ok (.iload_n 1, 1) := by decide +kernel
theorem dL_traceOf_4 : decode cL_traceOf 4 = .ok (.iload_n 2, 1) := by decide +kernel
theorem dL_traceOf_5 : decode cL_traceOf 5 = .ok (.invokevirtual 86, 3) := by decide +kernel
theorem dL_traceOf_8 : decode cL_traceOf 8 = .ok (.i2l, 1) := by decide +kernel
theorem dL_traceOf_9 : decode cL_traceOf 9 = .ok (.lastore, 1) := by decide +kernel
theorem dL_traceOf_10 : decode cL_traceOf 10 = .ok (.goto 7, 3) := by decide +kernel
theorem dL_traceOf_13 : decode cL_traceOf 13 = .ok (.astore 4, 2) := by decide +kernel
theorem dL_traceOf_15 : decode cL_traceOf 15 = .ok (.iconst 1, 1) := by decide +kernel
theorem dL_traceOf_16 : decode cL_traceOf 16 = .ok (.ireturn, 1) := by decide +kernel
theorem dL_traceOf_17 : decode cL_traceOf 17 = .ok (.iconst 0, 1) := by decide +kernel
theorem dL_traceOf_18 : decode cL_traceOf 18 = .ok (.ireturn, 1) := by decide +kernel
set_option maxRecDepth 20000 in
theorem ggL_changesAtOrigin_X10_changesAtOrigin : GoodIn wsL_changesAtOrigin wsX10_changesAtOrigin := goodIn_ca (goodIn_r _ [6, 7, 8, 9, 10, 11, 5, 12, 13, 14, 15, 16, 17, 18, 19, 20, 21, 22, 23, 24, 25, 26, 27, 28, 29, 30, 31, 32, 33, 34, 35, 36, 37, 38, 39, 40, 41, 42, 43, 44, 45, 46, 47, 48, 49, 50, 51, 52, 53, 54, 55, 56, 57, 58, 59, 60, 61, 62, 63, 64, 65, 66, 67, 68, 69, 70, 71, 72, 73, 74, 75, 76, 77, 78, 79, 80, 81, 82, 83, 84, 85, 86, 87, 88, 89, 90, 91, 92, 93, 94, 95, 96, 97, 98, 99, 100, 101, 102, 103, 104, 105, 106, 107, 108, 109, 110, 111, 112, 113, 114, 115, 116, 117, 118, 119, 120, 121, 122, 123, 124, 125, 126, 127] (by decide +kernel) (by decide +kernel)) (goodIn_sub (fun _ h => List.mem_cons_of_mem _ (List.mem_append_right _ h)) (by decide +kernel))
set_option maxRecDepth 20000 in
theorem gL_changesAtOrigin_X10_changesAtOrigin : GoodIn wsL_changesAtOrigin (wsV RL 89 RX10 yX10_changesAtOrigin wsX10_changesAtOrigin) := goodIn_app (goodIn_of _ (by decide +kernel)) ggL_changesAtOrigin_X10_changesAtOrigin
theorem dL_changesAtOrigin_0 : decode cL_changesAtOrigin 0 = .ok (.aload_n 3, 1) := by decide +kernel
theorem dL_changesAtOrigin_1 : decode cL_changesAtOrigin 1 = .ok (.iconst 0, 1) := by decide +kernel
theorem dL_changesAtOrigin_2 : decode cL_changesAtOrigin 2 = .ok (.aload_n 0, 1) := by decide +kernel
theorem dL_changesAtOrigin_3 : decode cL_changesAtOrigin 3 = .ok (.iload_n 1, 1) := by decide +kernel
theorem dL_changesAtOrigin_4 : decode cL_changesAtOrigin 4 = .ok (.iload_n 2, 1) := by decide +kernel
theorem dL_changesAtOrigin_5 : decode cL_changesAtOrigin 5 = .ok (.invokevirtual 89, 3) := by decide +kernel
theorem dL_changesAtOrigin_8 : decode cL_changesAtOrigin 8 = .ok (.i2l, 1) := by decide +kernel
theorem dL_changesAtOrigin_9 : decode cL_changesAtOrigin 9 = .ok (.lastore, 1) := by decide +kernel
theorem dL_changesAtOrigin_10 : decode cL_changesAtOrigin 10 = .ok (.goto 7, 3) := by decide +kernel
theorem dL_changesAtOrigin_13 : decode cL_changesAtOrigin 13 = .ok (.astore 4, 2) := by decide +kernel
theorem dL_changesAtOrigin_15 : decode cL_changesAtOrigin 15 = .ok (.iconst 1, 1) := by decide +kernel
theorem dL_changesAtOrigin_16 : decode cL_changesAtOrigin 16 = .ok (.ireturn, 1) := by decide +kernel
theorem dL_changesAtOrigin_17 : decode cL_changesAtOrigin 17 = .ok (.iconst 0, 1) := by decide +kernel
theorem dL_changesAtOrigin_18 : decode cL_changesAtOrigin 18 = .ok (.ireturn, 1) := by decide +kernel
set_option maxRecDepth 20000 in
theorem ggL_quotedAgain_X10_quotedAgain : GoodIn wsL_quotedAgain wsX10_quotedAgain := goodIn_ca (goodIn_r _ [6, 7, 8, 9, 10, 11, 5, 12, 13, 14, 15, 16, 17, 18, 19, 20, 21, 22, 23, 24, 25, 26, 27, 28, 29, 30, 31, 32, 33, 34, 35, 36, 37, 38, 39, 40, 41, 42, 43, 44, 45, 46, 47, 48, 49, 50, 51, 52, 53, 54, 55, 56, 57, 58, 59, 60, 61, 62, 63, 64, 65, 66, 67, 68, 69, 70, 71, 72, 73, 74, 75, 76, 77, 78, 79, 80, 81, 82, 83, 84, 85, 86, 87, 88, 89, 90, 91, 92, 93, 94, 95, 96, 97, 98, 99, 100, 101, 102, 103, 104, 105, 106, 107, 108, 109, 110, 111, 112] (by decide +kernel) (by decide +kernel)) (goodIn_sub (fun _ h => List.mem_cons_of_mem _ (List.mem_append_right _ h)) (by decide +kernel))
set_option maxRecDepth 20000 in
theorem gL_quotedAgain_X10_quotedAgain : GoodIn wsL_quotedAgain (wsV RL 92 RX10 yX10_quotedAgain wsX10_quotedAgain) := goodIn_app (goodIn_of _ (by decide +kernel)) ggL_quotedAgain_X10_quotedAgain
theorem dL_quotedAgain_0 : decode cL_quotedAgain 0 = .ok (.aload_n 3, 1) := by decide +kernel
theorem dL_quotedAgain_1 : decode cL_quotedAgain 1 = .ok (.iconst 0, 1) := by decide +kernel
theorem dL_quotedAgain_2 : decode cL_quotedAgain 2 = .ok (.aload_n 0, 1) := by decide +kernel
theorem dL_quotedAgain_3 : decode cL_quotedAgain 3 = .ok (.iload_n 1, 1) := by decide +kernel
theorem dL_quotedAgain_4 : decode cL_quotedAgain 4 = .ok (.iload_n 2, 1) := by decide +kernel
theorem dL_quotedAgain_5 : decode cL_quotedAgain 5 = .ok (.invokevirtual 92, 3) := by decide +kernel
theorem dL_quotedAgain_8 : decode cL_quotedAgain 8 = .ok (.i2l, 1) := by decide +kernel
theorem dL_quotedAgain_9 : decode cL_quotedAgain 9 = .ok (.lastore, 1) := by decide +kernel
theorem dL_quotedAgain_10 : decode cL_quotedAgain 10 = .ok (.goto 7, 3) := by decide +kernel
theorem dL_quotedAgain_13 : decode cL_quotedAgain 13 = .ok (.astore 4, 2) := by decide +kernel
theorem dL_quotedAgain_15 : decode cL_quotedAgain 15 = .ok (.iconst 1, 1) := by decide +kernel
theorem dL_quotedAgain_16 : decode cL_quotedAgain 16 = .ok (.ireturn, 1) := by decide +kernel
theorem dL_quotedAgain_17 : decode cL_quotedAgain 17 = .ok (.iconst 0, 1) := by decide +kernel
theorem dL_quotedAgain_18 : decode cL_quotedAgain 18 = .ok (.ireturn, 1) := by decide +kernel
set_option maxRecDepth 20000 in
theorem ggL_blameOf_X10_blameOf : GoodIn wsL_blameOf wsX10_blameOf := goodIn_ca (goodIn_r _ [6, 7, 8, 9, 10, 5, 11, 12, 13, 14, 15, 16, 17, 18, 19, 20, 21, 22, 23, 24, 25, 26, 27, 28, 29, 30, 31, 32, 33, 34, 35, 36, 37, 38, 39, 40, 41, 42, 43, 44, 45, 46, 47, 48, 49, 50, 51, 52, 53, 54, 55, 56, 57, 58, 59, 60, 61, 62, 63, 64, 65, 66, 67, 68, 69, 70, 71, 72, 73, 74, 75, 76, 77, 78, 79, 80, 81, 82, 83, 84, 85, 86, 87, 88, 89, 90, 91, 92, 93, 94, 95, 96, 97, 98, 99, 100] (by decide +kernel) (by decide +kernel)) (goodIn_sub (fun _ h => List.mem_cons_of_mem _ (List.mem_append_right _ h)) (by decide +kernel))
set_option maxRecDepth 20000 in
theorem gL_blameOf_X10_blameOf : GoodIn wsL_blameOf (wsV RL 95 RX10 yX10_blameOf wsX10_blameOf) := goodIn_app (goodIn_of _ (by decide +kernel)) ggL_blameOf_X10_blameOf
theorem dL_blameOf_0 : decode cL_blameOf 0 = .ok (.aload_n 2, 1) := by decide +kernel
theorem dL_blameOf_1 : decode cL_blameOf 1 = .ok (.iconst 0, 1) := by decide +kernel
theorem dL_blameOf_2 : decode cL_blameOf 2 = .ok (.aload_n 0, 1) := by decide +kernel
theorem dL_blameOf_3 : decode cL_blameOf 3 = .ok (.iload_n 1, 1) := by decide +kernel
theorem dL_blameOf_4 : decode cL_blameOf 4 = .ok (.invokevirtual 95, 3) := by decide +kernel
theorem dL_blameOf_7 : decode cL_blameOf 7 = .ok (.i2l, 1) := by decide +kernel
theorem dL_blameOf_8 : decode cL_blameOf 8 = .ok (.lastore, 1) := by decide +kernel
theorem dL_blameOf_9 : decode cL_blameOf 9 = .ok (.goto 6, 3) := by decide +kernel
theorem dL_blameOf_12 : decode cL_blameOf 12 = .ok (.astore_n 3, 1) := by decide +kernel
theorem dL_blameOf_13 : decode cL_blameOf 13 = .ok (.iconst 1, 1) := by decide +kernel
theorem dL_blameOf_14 : decode cL_blameOf 14 = .ok (.ireturn, 1) := by decide +kernel
theorem dL_blameOf_15 : decode cL_blameOf 15 = .ok (.iconst 0, 1) := by decide +kernel
theorem dL_blameOf_16 : decode cL_blameOf 16 = .ok (.ireturn, 1) := by decide +kernel
set_option maxRecDepth 20000 in
theorem ggL_wrongs_X10_wrongs : GoodIn wsL_wrongs wsX10_wrongs := goodIn_ca (goodIn_r _ [6, 7, 8, 9, 10, 5, 11, 12, 13, 14, 15, 16, 17, 18, 19, 20, 21, 22, 23, 24, 25, 26, 27, 28, 29, 30, 31, 32, 33, 34, 35, 36, 37, 38, 39, 40, 41, 42, 43, 44, 45, 46, 47, 48, 49, 50, 51, 52, 53, 54, 55, 56, 57, 58, 59, 60, 61, 62, 63, 64, 65, 66, 67, 68, 69, 70, 71, 72, 73, 74, 75, 76, 77, 78, 79, 80, 81, 82, 83, 84, 85, 86, 87, 88, 89, 90, 91, 92, 93, 94, 95, 96, 97, 98, 99, 100] (by decide +kernel) (by decide +kernel)) (goodIn_sub (fun _ h => List.mem_cons_of_mem _ (List.mem_append_right _ h)) (by decide +kernel))
set_option maxRecDepth 20000 in
theorem gL_wrongs_X10_wrongs : GoodIn wsL_wrongs (wsV RL 98 RX10 yX10_wrongs wsX10_wrongs) := goodIn_app (goodIn_of _ (by decide +kernel)) ggL_wrongs_X10_wrongs
theorem dL_wrongs_0 : decode cL_wrongs 0 = .ok (.aload_n 3, 1) := by decide +kernel
theorem dL_wrongs_1 : decode cL_wrongs 1 = .ok (.iconst 0, 1) := by decide +kernel
theorem dL_wrongs_2 : decode cL_wrongs 2 = .ok (.aload_n 0, 1) := by decide +kernel
theorem dL_wrongs_3 : decode cL_wrongs 3 = .ok (.iload_n 1, 1) := by decide +kernel
theorem dL_wrongs_4 : decode cL_wrongs 4 = .ok (.iload_n 2, 1) := by decide +kernel
theorem dL_wrongs_5 : decode cL_wrongs 5 = .ok (.invokevirtual 98, 3) := by decide +kernel
theorem dL_wrongs_8 : decode cL_wrongs 8 = .ok (.i2l, 1) := by decide +kernel
theorem dL_wrongs_9 : decode cL_wrongs 9 = .ok (.lastore, 1) := by decide +kernel
theorem dL_wrongs_10 : decode cL_wrongs 10 = .ok (.goto 7, 3) := by decide +kernel
theorem dL_wrongs_13 : decode cL_wrongs 13 = .ok (.astore 4, 2) := by decide +kernel
theorem dL_wrongs_15 : decode cL_wrongs 15 = .ok (.iconst 1, 1) := by decide +kernel
theorem dL_wrongs_16 : decode cL_wrongs 16 = .ok (.ireturn, 1) := by decide +kernel
theorem dL_wrongs_17 : decode cL_wrongs 17 = .ok (.iconst 0, 1) := by decide +kernel
theorem dL_wrongs_18 : decode cL_wrongs 18 = .ok (.ireturn, 1) := by decide +kernel
set_option maxRecDepth 20000 in
theorem ggL_answers_X10_answers : GoodIn wsL_answers wsX10_answers := goodIn_ca (goodIn_r _ [6, 7, 8, 9, 10, 5, 11, 12, 13, 14, 15, 16, 17, 18, 19, 20, 21, 22, 23, 24, 25, 26, 27, 28, 29, 30, 31, 32, 33, 34, 35, 36, 37, 38, 39, 40, 41, 42, 43, 44, 45, 46, 47, 48, 49, 50, 51, 52, 53, 54, 55, 56, 57, 58] (by decide +kernel) (by decide +kernel)) (goodIn_sub (fun _ h => List.mem_cons_of_mem _ (List.mem_append_right _ h)) (by decide +kernel))
set_option maxRecDepth 20000 in
theorem gL_answers_X10_answers : GoodIn wsL_answers (wsV RL 101 RX10 yX10_answers wsX10_answers) := goodIn_app (goodIn_of _ (by decide +kernel)) ggL_answers_X10_answers
theorem dL_answers_0 : decode cL_answers 0 = .ok (.aload_n 3, 1) := by decide +kernel
theorem dL_answers_1 : decode cL_answers 1 = .ok (.iconst 0, 1) := by decide +kernel
theorem dL_answers_2 : decode cL_answers 2 = .ok (.aload_n 0, 1) := by decide +kernel
theorem dL_answers_3 : decode cL_answers 3 = .ok (.iload_n 1, 1) := by decide +kernel
theorem dL_answers_4 : decode cL_answers 4 = .ok (.iload_n 2, 1) := by decide +kernel
theorem dL_answers_5 : decode cL_answers 5 = .ok (.invokevirtual 101, 3) := by decide +kernel
theorem dL_answers_8 : decode cL_answers 8 = .ok (.ifCond .eq 7, 3) := by decide +kernel
theorem dL_answers_11 : decode cL_answers 11 = .ok (.lconst 1, 1) := by decide +kernel
theorem dL_answers_12 : decode cL_answers 12 = .ok (.goto 4, 3) := by decide +kernel
theorem dL_answers_15 : decode cL_answers 15 = .ok (.lconst 0, 1) := by decide +kernel
theorem dL_answers_16 : decode cL_answers 16 = .ok (.lastore, 1) := by decide +kernel
theorem dL_answers_17 : decode cL_answers 17 = .ok (.goto 7, 3) := by decide +kernel
theorem dL_answers_20 : decode cL_answers 20 = .ok (.astore 4, 2) := by decide +kernel
theorem dL_answers_22 : decode cL_answers 22 = .ok (.iconst 1, 1) := by decide +kernel
theorem dL_answers_23 : decode cL_answers 23 = .ok (.ireturn, 1) := by decide +kernel
theorem dL_answers_24 : decode cL_answers 24 = .ok (.iconst 0, 1) := by decide +kernel
theorem dL_answers_25 : decode cL_answers 25 = .ok (.ireturn, 1) := by decide +kernel
set_option maxRecDepth 20000 in
theorem ggL_ladderOf_X10_ladderOf : GoodIn wsL_ladderOf wsX10_ladderOf := goodIn_ca (goodIn_r _ [6, 7, 8, 9, 10, 11, 5, 12, 13, 14, 15, 16, 17, 18, 19, 20, 21, 22, 23, 24, 25, 26, 27, 28, 29, 30, 31, 32, 33, 34, 35, 36, 37, 38, 39, 40, 41, 42, 43, 44, 45, 46, 47, 48, 49, 50, 51, 52, 53, 54, 55, 56, 57, 58, 59, 60, 61, 62, 63, 64, 65, 66, 67, 68, 69, 70, 71, 72, 73, 74, 75] (by decide +kernel) (by decide +kernel)) (goodIn_sub (fun _ h => List.mem_cons_of_mem _ (List.mem_append_right _ h)) (by decide +kernel))
set_option maxRecDepth 20000 in
theorem gL_ladderOf_X10_ladderOf : GoodIn wsL_ladderOf (wsV RL 105 RX10 yX10_ladderOf wsX10_ladderOf) := goodIn_app (goodIn_of _ (by decide +kernel)) ggL_ladderOf_X10_ladderOf
theorem dL_ladderOf_0 : decode cL_ladderOf 0 = .ok (.aload_n 2, 1) := by decide +kernel
theorem dL_ladderOf_1 : decode cL_ladderOf 1 = .ok (.iconst 0, 1) := by decide +kernel
theorem dL_ladderOf_2 : decode cL_ladderOf 2 = .ok (.aload_n 0, 1) := by decide +kernel
theorem dL_ladderOf_3 : decode cL_ladderOf 3 = .ok (.iload_n 1, 1) := by decide +kernel
theorem dL_ladderOf_4 : decode cL_ladderOf 4 = .ok (.invokevirtual 105, 3) := by decide +kernel
theorem dL_ladderOf_7 : decode cL_ladderOf 7 = .ok (.i2l, 1) := by decide +kernel
theorem dL_ladderOf_8 : decode cL_ladderOf 8 = .ok (.lastore, 1) := by decide +kernel
theorem dL_ladderOf_9 : decode cL_ladderOf 9 = .ok (.goto 6, 3) := by decide +kernel
theorem dL_ladderOf_12 : decode cL_ladderOf 12 = .ok (.astore_n 3, 1) := by decide +kernel
theorem dL_ladderOf_13 : decode cL_ladderOf 13 = .ok (.iconst 1, 1) := by decide +kernel
theorem dL_ladderOf_14 : decode cL_ladderOf 14 = .ok (.ireturn, 1) := by decide +kernel
theorem dL_ladderOf_15 : decode cL_ladderOf 15 = .ok (.iconst 0, 1) := by decide +kernel
theorem dL_ladderOf_16 : decode cL_ladderOf 16 = .ok (.ireturn, 1) := by decide +kernel
set_option maxRecDepth 20000 in
theorem ggL_laddersOf_X10_laddersOf : GoodIn wsL_laddersOf wsX10_laddersOf := goodIn_ca (goodIn_r _ [6, 7, 8, 9, 10, 11, 5, 12, 13, 14, 15, 16, 17, 18, 19, 20, 21, 22, 23, 24, 25, 26, 27, 28, 29, 30, 31, 32, 33, 34, 35, 36, 37, 38, 39, 40, 41, 42, 43, 44, 45, 46, 47, 48, 49, 50, 51, 52, 53, 54, 55, 56, 57, 58, 59, 60, 61, 62, 63, 64, 65, 66, 67, 68, 69, 70, 71] (by decide +kernel) (by decide +kernel)) (goodIn_sub (fun _ h => List.mem_cons_of_mem _ (List.mem_append_right _ h)) (by decide +kernel))
set_option maxRecDepth 20000 in
theorem gL_laddersOf_X10_laddersOf : GoodIn wsL_laddersOf (wsV RL 108 RX10 yX10_laddersOf wsX10_laddersOf) := goodIn_app (goodIn_of _ (by decide +kernel)) ggL_laddersOf_X10_laddersOf
theorem dL_laddersOf_0 : decode cL_laddersOf 0 = .ok (.aload_n 2, 1) := by decide +kernel
theorem dL_laddersOf_1 : decode cL_laddersOf 1 = .ok (.iconst 0, 1) := by decide +kernel
theorem dL_laddersOf_2 : decode cL_laddersOf 2 = .ok (.aload_n 0, 1) := by decide +kernel
theorem dL_laddersOf_3 : decode cL_laddersOf 3 = .ok (.iload_n 1, 1) := by decide +kernel
theorem dL_laddersOf_4 : decode cL_laddersOf 4 = .ok (.invokevirtual 108, 3) := by decide +kernel
theorem dL_laddersOf_7 : decode cL_laddersOf 7 = .ok (.i2l, 1) := by decide +kernel
theorem dL_laddersOf_8 : decode cL_laddersOf 8 = .ok (.lastore, 1) := by decide +kernel
theorem dL_laddersOf_9 : decode cL_laddersOf 9 = .ok (.goto 6, 3) := by decide +kernel
theorem dL_laddersOf_12 : decode cL_laddersOf 12 = .ok (.astore_n 3, 1) := by decide +kernel
theorem dL_laddersOf_13 : decode cL_laddersOf 13 = .ok (.iconst 1, 1) := by decide +kernel
theorem dL_laddersOf_14 : decode cL_laddersOf 14 = .ok (.ireturn, 1) := by decide +kernel
theorem dL_laddersOf_15 : decode cL_laddersOf 15 = .ok (.iconst 0, 1) := by decide +kernel
theorem dL_laddersOf_16 : decode cL_laddersOf 16 = .ok (.ireturn, 1) := by decide +kernel
set_option maxRecDepth 20000 in
theorem ggL_readingOf_X10_readingOf : GoodIn wsL_readingOf wsX10_readingOf := goodIn_ca (goodIn_r _ [6, 7, 8, 9, 10, 11, 5, 12, 13, 14, 15, 16, 17, 18, 19, 20, 21, 22, 23, 24, 25, 26, 27, 28, 29, 30, 31, 32, 33, 34, 35, 36, 37, 38, 39, 40, 41, 42, 43, 44, 45, 46, 47, 48, 49, 50, 51, 52, 53, 54, 55, 56, 57, 58, 59, 60, 61, 62, 63, 64, 65, 66, 67] (by decide +kernel) (by decide +kernel)) (goodIn_sub (fun _ h => List.mem_cons_of_mem _ (List.mem_append_right _ h)) (by decide +kernel))
set_option maxRecDepth 20000 in
theorem gL_readingOf_X10_readingOf : GoodIn wsL_readingOf (wsV RL 111 RX10 yX10_readingOf wsX10_readingOf) := goodIn_app (goodIn_of _ (by decide +kernel)) ggL_readingOf_X10_readingOf
theorem dL_readingOf_0 : decode cL_readingOf 0 = .ok (.aload_n 2, 1) := by decide +kernel
theorem dL_readingOf_1 : decode cL_readingOf 1 = .ok (.iconst 0, 1) := by decide +kernel
theorem dL_readingOf_2 : decode cL_readingOf 2 = .ok (.aload_n 0, 1) := by decide +kernel
theorem dL_readingOf_3 : decode cL_readingOf 3 = .ok (.iload_n 1, 1) := by decide +kernel
theorem dL_readingOf_4 : decode cL_readingOf 4 = .ok (.invokevirtual 111, 3) := by decide +kernel
theorem dL_readingOf_7 : decode cL_readingOf 7 = .ok (.i2l, 1) := by decide +kernel
theorem dL_readingOf_8 : decode cL_readingOf 8 = .ok (.lastore, 1) := by decide +kernel
theorem dL_readingOf_9 : decode cL_readingOf 9 = .ok (.goto 6, 3) := by decide +kernel
theorem dL_readingOf_12 : decode cL_readingOf 12 = .ok (.astore_n 3, 1) := by decide +kernel
theorem dL_readingOf_13 : decode cL_readingOf 13 = .ok (.iconst 1, 1) := by decide +kernel
theorem dL_readingOf_14 : decode cL_readingOf 14 = .ok (.ireturn, 1) := by decide +kernel
theorem dL_readingOf_15 : decode cL_readingOf 15 = .ok (.iconst 0, 1) := by decide +kernel
theorem dL_readingOf_16 : decode cL_readingOf 16 = .ok (.ireturn, 1) := by decide +kernel
set_option maxRecDepth 20000 in
theorem ggL_readAt_X10_readAt : GoodIn wsL_readAt wsX10_readAt := goodIn_ca (goodIn_r _ [6, 7, 8, 9, 10, 11, 5, 12, 13, 14, 15, 16, 17, 18, 19, 20, 21, 22, 23, 24, 25, 26, 27, 28, 29, 30, 31, 32, 33, 34, 35, 36, 37, 38, 39, 40, 41, 42, 43, 44, 45, 46, 47, 48, 49, 50, 51, 52, 53, 54, 55, 56, 57, 58, 59, 60, 61, 62, 63, 64, 65, 66, 67, 68, 69, 70, 71, 72, 73, 74] (by decide +kernel) (by decide +kernel)) (goodIn_sub (fun _ h => List.mem_cons_of_mem _ (List.mem_append_right _ h)) (by decide +kernel))
set_option maxRecDepth 20000 in
theorem gL_readAt_X10_readAt : GoodIn wsL_readAt (wsV RL 114 RX10 yX10_readAt wsX10_readAt) := goodIn_app (goodIn_of _ (by decide +kernel)) ggL_readAt_X10_readAt
theorem dL_readAt_0 : decode cL_readAt 0 = .ok (.aload_n 3, 1) := by decide +kernel
theorem dL_readAt_1 : decode cL_readAt 1 = .ok (.iconst 0, 1) := by decide +kernel
theorem dL_readAt_2 : decode cL_readAt 2 = .ok (.aload_n 0, 1) := by decide +kernel
theorem dL_readAt_3 : decode cL_readAt 3 = .ok (.iload_n 1, 1) := by decide +kernel
theorem dL_readAt_4 : decode cL_readAt 4 = .ok (.iload_n 2, 1) := by decide +kernel
theorem dL_readAt_5 : decode cL_readAt 5 = .ok (.invokevirtual 114, 3) := by decide +kernel
theorem dL_readAt_8 : decode cL_readAt 8 = .ok (.i2l, 1) := by decide +kernel
theorem dL_readAt_9 : decode cL_readAt 9 = .ok (.lastore, 1) := by decide +kernel
theorem dL_readAt_10 : decode cL_readAt 10 = .ok (.goto 7, 3) := by decide +kernel
theorem dL_readAt_13 : decode cL_readAt 13 = .ok (.astore 4, 2) := by decide +kernel
theorem dL_readAt_15 : decode cL_readAt 15 = .ok (.iconst 1, 1) := by decide +kernel
theorem dL_readAt_16 : decode cL_readAt 16 = .ok (.ireturn, 1) := by decide +kernel
theorem dL_readAt_17 : decode cL_readAt 17 = .ok (.iconst 0, 1) := by decide +kernel
theorem dL_readAt_18 : decode cL_readAt 18 = .ok (.ireturn, 1) := by decide +kernel
set_option maxRecDepth 20000 in
theorem ggL_timesOf_X10_timesOf : GoodIn wsL_timesOf wsX10_timesOf := goodIn_ca (goodIn_r _ [6, 7, 8, 9, 10, 11, 12, 13, 14, 15, 16, 17, 18, 19, 20, 21, 22, 23, 24, 25, 26, 27, 28, 29, 30, 31, 32, 33, 34, 35, 36, 37, 38, 39, 40, 41, 42, 43, 44, 45, 46, 47, 48, 49, 50, 51, 5, 52, 53, 54, 55, 56, 57, 58, 59, 60, 61, 62, 63, 64, 65, 66, 67, 68, 69, 70, 71, 72, 73, 74, 75, 76, 77, 78] (by decide +kernel) (by decide +kernel)) (goodIn_sub (fun _ h => List.mem_cons_of_mem _ (List.mem_append_right _ h)) (by decide +kernel))
set_option maxRecDepth 20000 in
theorem gL_timesOf_X10_timesOf : GoodIn wsL_timesOf (wsV RL 117 RX10 yX10_timesOf wsX10_timesOf) := goodIn_app (goodIn_of _ (by decide +kernel)) ggL_timesOf_X10_timesOf
theorem dL_timesOf_0 : decode cL_timesOf 0 = .ok (.aload_n 2, 1) := by decide +kernel
theorem dL_timesOf_1 : decode cL_timesOf 1 = .ok (.iconst 0, 1) := by decide +kernel
theorem dL_timesOf_2 : decode cL_timesOf 2 = .ok (.aload_n 0, 1) := by decide +kernel
theorem dL_timesOf_3 : decode cL_timesOf 3 = .ok (.iload_n 1, 1) := by decide +kernel
theorem dL_timesOf_4 : decode cL_timesOf 4 = .ok (.invokevirtual 117, 3) := by decide +kernel
theorem dL_timesOf_7 : decode cL_timesOf 7 = .ok (.i2l, 1) := by decide +kernel
theorem dL_timesOf_8 : decode cL_timesOf 8 = .ok (.lastore, 1) := by decide +kernel
theorem dL_timesOf_9 : decode cL_timesOf 9 = .ok (.goto 6, 3) := by decide +kernel
theorem dL_timesOf_12 : decode cL_timesOf 12 = .ok (.astore_n 3, 1) := by decide +kernel
theorem dL_timesOf_13 : decode cL_timesOf 13 = .ok (.iconst 1, 1) := by decide +kernel
theorem dL_timesOf_14 : decode cL_timesOf 14 = .ok (.ireturn, 1) := by decide +kernel
theorem dL_timesOf_15 : decode cL_timesOf 15 = .ok (.iconst 0, 1) := by decide +kernel
theorem dL_timesOf_16 : decode cL_timesOf 16 = .ok (.ireturn, 1) := by decide +kernel
set_option maxRecDepth 20000 in
theorem ggL_glossaryLetter_X10_glossaryLetter : GoodIn wsL_glossaryLetter wsX10_glossaryLetter := goodIn_ca (goodIn_r _ [6, 7, 8, 9, 10, 11, 12, 13, 14, 15, 16, 17, 18, 19, 20, 21, 22, 23, 24, 25, 26, 27, 28, 29, 30, 31, 32, 33, 34, 35, 36, 37, 38, 39, 40, 41, 42, 43, 44, 45, 46, 47, 48, 49, 50, 51, 5, 52, 53, 54, 55, 56, 57, 58, 59, 60, 61, 62, 63, 64, 65, 66, 67, 68, 69, 70, 71, 72, 73, 74, 75, 76, 77, 78, 79, 80, 81, 82, 83, 84] (by decide +kernel) (by decide +kernel)) (goodIn_sub (fun _ h => List.mem_cons_of_mem _ (List.mem_append_right _ h)) (by decide +kernel))
set_option maxRecDepth 20000 in
theorem gL_glossaryLetter_X10_glossaryLetter : GoodIn wsL_glossaryLetter (wsV RL 120 RX10 yX10_glossaryLetter wsX10_glossaryLetter) := goodIn_app (goodIn_of _ (by decide +kernel)) ggL_glossaryLetter_X10_glossaryLetter
theorem dL_glossaryLetter_0 : decode cL_glossaryLetter 0 = .ok (.aload_n 3, 1) := by decide +kernel
theorem dL_glossaryLetter_1 : decode cL_glossaryLetter 1 = .ok (.iconst 0, 1) := by decide +kernel
theorem dL_glossaryLetter_2 : decode cL_glossaryLetter 2 = .ok (.aload_n 0, 1) := by decide +kernel
theorem dL_glossaryLetter_3 : decode cL_glossaryLetter 3 = .ok (.iload_n 1, 1) := by decide +kernel
theorem dL_glossaryLetter_4 : decode cL_glossaryLetter 4 = .ok (.iload_n 2, 1) := by decide +kernel
theorem dL_glossaryLetter_5 : decode cL_glossaryLetter 5 = .ok (.invokevirtual 120, 3) := by decide +kernel
theorem dL_glossaryLetter_8 : decode cL_glossaryLetter 8 = .ok (.i2l, 1) := by decide +kernel
theorem dL_glossaryLetter_9 : decode cL_glossaryLetter 9 = .ok (.lastore, 1) := by decide +kernel
theorem dL_glossaryLetter_10 : decode cL_glossaryLetter 10 = .ok (.goto 7, 3) := by decide +kernel
theorem dL_glossaryLetter_13 : decode cL_glossaryLetter 13 = .ok (.astore 4, 2) := by decide +kernel
theorem dL_glossaryLetter_15 : decode cL_glossaryLetter 15 = .ok (.iconst 1, 1) := by decide +kernel
theorem dL_glossaryLetter_16 : decode cL_glossaryLetter 16 = .ok (.ireturn, 1) := by decide +kernel
theorem dL_glossaryLetter_17 : decode cL_glossaryLetter 17 = .ok (.iconst 0, 1) := by decide +kernel
theorem dL_glossaryLetter_18 : decode cL_glossaryLetter 18 = .ok (.ireturn, 1) := by decide +kernel
set_option maxRecDepth 20000 in
theorem ggL_append_X10_append : GoodIn wsL_append wsX10_append := goodIn_ca (goodIn_ca (goodIn_r _ [7, 8, 9, 10, 11, 12, 13, 14, 15, 16, 17, 18, 19, 20, 21, 22, 23, 24, 25, 26, 27, 28, 29, 30, 31, 32, 33, 34, 35] (by decide +kernel) (by decide +kernel)) (goodIn_sub (fun _ h => List.mem_cons_of_mem _ (List.mem_append_left _ (List.mem_append_right _ h))) (by decide +kernel))) (goodIn_sub (fun _ h => List.mem_cons_of_mem _ (List.mem_append_right _ h)) (by decide +kernel))
set_option maxRecDepth 20000 in
theorem gL_append_X10_append : GoodIn wsL_append (wsV RL 123 RX10 yX10_append wsX10_append) := goodIn_app (goodIn_of _ (by decide +kernel)) ggL_append_X10_append
theorem dL_append_0 : decode cL_append 0 = .ok (.aload_n 2, 1) := by decide +kernel
theorem dL_append_1 : decode cL_append 1 = .ok (.iconst 0, 1) := by decide +kernel
theorem dL_append_2 : decode cL_append 2 = .ok (.aload_n 0, 1) := by decide +kernel
theorem dL_append_3 : decode cL_append 3 = .ok (.iload_n 1, 1) := by decide +kernel
theorem dL_append_4 : decode cL_append 4 = .ok (.invokevirtual 123, 3) := by decide +kernel
theorem dL_append_7 : decode cL_append 7 = .ok (.i2l, 1) := by decide +kernel
theorem dL_append_8 : decode cL_append 8 = .ok (.lastore, 1) := by decide +kernel
theorem dL_append_9 : decode cL_append 9 = .ok (.goto 9, 3) := by decide +kernel
theorem dL_append_12 : decode cL_append 12 = .ok (.astore_n 3, 1) := by decide +kernel
theorem dL_append_13 : decode cL_append 13 = .ok (.iconst 1, 1) := by decide +kernel
theorem dL_append_14 : decode cL_append 14 = .ok (.ireturn, 1) := by decide +kernel
theorem dL_append_15 : decode cL_append 15 = .ok (.astore_n 3, 1) := by decide +kernel
theorem dL_append_16 : decode cL_append 16 = .ok (.iconst 2, 1) := by decide +kernel
theorem dL_append_17 : decode cL_append 17 = .ok (.ireturn, 1) := by decide +kernel
theorem dL_append_18 : decode cL_append 18 = .ok (.iconst 0, 1) := by decide +kernel
theorem dL_append_19 : decode cL_append 19 = .ok (.ireturn, 1) := by decide +kernel
set_option maxRecDepth 20000 in
theorem ggL_undo_X10_undo : GoodIn wsL_undo wsX10_undo := goodIn_ca (goodIn_r _ [6, 7, 8, 9, 10, 11, 12, 13, 14, 15, 16, 17, 18, 19, 20, 21, 22, 23, 24, 25, 26, 27, 28, 29, 30, 31, 32, 33, 34, 35, 36, 37, 38, 39, 40, 41, 42, 43, 44, 45, 46, 47, 48, 49, 50, 51, 52, 53, 54, 55, 56, 57, 58, 59, 60, 61, 62, 63, 64, 65, 66, 67, 68, 69, 70, 71, 72, 73, 74, 75, 76, 77, 78, 79, 80, 81, 82, 83] (by decide +kernel) (by decide +kernel)) (goodIn_sub (fun _ h => List.mem_cons_of_mem _ (List.mem_append_right _ h)) (by decide +kernel))
set_option maxRecDepth 20000 in
theorem gL_undo_X10_undo : GoodIn wsL_undo (wsV RL 126 RX10 yX10_undo wsX10_undo) := goodIn_app (goodIn_of _ (by decide +kernel)) ggL_undo_X10_undo
theorem dL_undo_0 : decode cL_undo 0 = .ok (.aload_n 1, 1) := by decide +kernel
theorem dL_undo_1 : decode cL_undo 1 = .ok (.iconst 0, 1) := by decide +kernel
theorem dL_undo_2 : decode cL_undo 2 = .ok (.aload_n 0, 1) := by decide +kernel
theorem dL_undo_3 : decode cL_undo 3 = .ok (.invokevirtual 126, 3) := by decide +kernel
theorem dL_undo_6 : decode cL_undo 6 = .ok (.i2l, 1) := by decide +kernel
theorem dL_undo_7 : decode cL_undo 7 = .ok (.lastore, 1) := by decide +kernel
theorem dL_undo_8 : decode cL_undo 8 = .ok (.goto 6, 3) := by decide +kernel
theorem dL_undo_11 : decode cL_undo 11 = .ok (.astore_n 2, 1) := by decide +kernel
theorem dL_undo_12 : decode cL_undo 12 = .ok (.iconst 1, 1) := by decide +kernel
theorem dL_undo_13 : decode cL_undo 13 = .ok (.ireturn, 1) := by decide +kernel
theorem dL_undo_14 : decode cL_undo 14 = .ok (.iconst 0, 1) := by decide +kernel
theorem dL_undo_15 : decode cL_undo 15 = .ok (.ireturn, 1) := by decide +kernel
set_option maxRecDepth 20000 in
theorem ggL_restoreSnapshot_X10_restoreSnapshot : GoodIn wsL_restoreSnapshot wsX10_restoreSnapshot := goodIn_ca (goodIn_r _ [6, 7, 8, 9, 10, 11, 12, 13, 14, 15, 16, 17, 18, 19, 20, 21, 22, 23, 24, 25, 26, 27, 28, 29, 30, 31, 32, 33, 34, 35, 36, 37, 38, 39, 40, 41, 42, 43, 44, 45, 46, 47, 48, 49, 50, 51, 52, 53, 54, 55, 56, 57, 58, 59, 60, 61, 62, 63, 64, 65, 66, 67, 68, 69, 70, 71, 72, 73, 74, 75, 76, 77, 78, 79, 80, 81, 82, 83, 84] (by decide +kernel) (by decide +kernel)) (goodIn_sub (fun _ h => List.mem_cons_of_mem _ (List.mem_append_right _ h)) (by decide +kernel))
set_option maxRecDepth 20000 in
theorem gL_restoreSnapshot_X10_restoreSnapshot : GoodIn wsL_restoreSnapshot (wsV RL 129 RX10 yX10_restoreSnapshot wsX10_restoreSnapshot) := goodIn_app (goodIn_of _ (by decide +kernel)) ggL_restoreSnapshot_X10_restoreSnapshot
theorem dL_restoreSnapshot_0 : decode cL_restoreSnapshot 0 = .ok (.aload_n 1, 1) := by decide +kernel
theorem dL_restoreSnapshot_1 : decode cL_restoreSnapshot 1 = .ok (.iconst 0, 1) := by decide +kernel
theorem dL_restoreSnapshot_2 : decode cL_restoreSnapshot 2 = .ok (.aload_n 0, 1) := by decide +kernel
theorem dL_restoreSnapshot_3 : decode cL_restoreSnapshot 3 = .ok (.invokevirtual 129, 3) := by decide +kernel
theorem dL_restoreSnapshot_6 : decode cL_restoreSnapshot 6 = .ok (.i2l, 1) := by decide +kernel
theorem dL_restoreSnapshot_7 : decode cL_restoreSnapshot 7 = .ok (.lastore, 1) := by decide +kernel
theorem dL_restoreSnapshot_8 : decode cL_restoreSnapshot 8 = .ok (.goto 6, 3) := by decide +kernel
theorem dL_restoreSnapshot_11 : decode cL_restoreSnapshot 11 = .ok (.astore_n 2, 1) := by decide +kernel
theorem dL_restoreSnapshot_12 : decode cL_restoreSnapshot 12 = .ok (.iconst 1, 1) := by decide +kernel
theorem dL_restoreSnapshot_13 : decode cL_restoreSnapshot 13 = .ok (.ireturn, 1) := by decide +kernel
theorem dL_restoreSnapshot_14 : decode cL_restoreSnapshot 14 = .ok (.iconst 0, 1) := by decide +kernel
theorem dL_restoreSnapshot_15 : decode cL_restoreSnapshot 15 = .ok (.ireturn, 1) := by decide +kernel
