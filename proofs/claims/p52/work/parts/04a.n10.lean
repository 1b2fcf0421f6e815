set_option maxRecDepth 20000 in
theorem ggX10_init_X9_init : GoodIn wsX10_init wsX9_init := goodIn_r _ [34, 35, 2, 3, 36, 37, 38, 39, 40, 41, 42, 43, 44, 45, 46, 47, 48, 49, 50, 51, 52, 53, 54, 55, 56, 57, 58, 59, 60, 106, 107, 108, 109, 136, 137, 138, 139, 140, 141, 142, 143, 144] (by decide +kernel) (by decide +kernel)
set_option maxRecDepth 20000 in
theorem gX10_init_X9_init : GoodIn wsX10_init (wsX9_init) := ggX10_init_X9_init
set_option maxRecDepth 20000 in
theorem ggX10_init_X2_init : GoodIn wsX10_init wsX2_init := goodIn_r _ [63, 64, 2, 3, 65, 66, 5, 6, 67, 68, 33, 34, 35, 36, 37, 38, 39, 40, 41, 42, 43, 44, 45, 46, 47, 48, 49, 50, 51, 52, 53, 54, 55, 56, 57, 58, 59, 60, 117, 118, 119, 120, 121, 106, 107, 108, 109, 136, 137, 138, 139, 140, 141, 142, 143, 144] (by decide +kernel) (by decide +kernel)
set_option maxRecDepth 20000 in
theorem gX10_init_X2_init : GoodIn wsX10_init (wsX2_init) := ggX10_init_X2_init
set_option maxRecDepth 20000 in
theorem ggX10_init_X0_init : GoodIn wsX10_init wsX0_init := goodIn_r _ [70, 71, 2, 3, 72, 45, 46, 73, 74, 52, 53, 54, 55, 56, 57, 58, 59, 60, 144, 122, 123] (by decide +kernel) (by decide +kernel)
set_option maxRecDepth 20000 in
theorem gX10_init_X0_init_n25 : GoodIn wsX10_init (wsX0_init) := ggX10_init_X0_init
set_option maxRecDepth 20000 in
theorem ggX10_init_X6_init : GoodIn wsX10_init wsX6_init := goodIn_r _ [76, 77, 2, 3, 78, 38, 39, 79, 41, 42, 43, 44, 45, 46, 47, 48, 49, 50, 51, 52, 53, 54, 55, 56, 57, 58, 59, 60, 136, 137, 138, 139, 140, 141, 142, 143, 124, 125, 126, 127, 128, 144] (by decide +kernel) (by decide +kernel)
set_option maxRecDepth 20000 in
theorem gX10_init_X6_init_n32 : GoodIn wsX10_init (wsX6_init) := ggX10_init_X6_init
set_option maxRecDepth 20000 in
theorem ggX10_init_X5_init : GoodIn wsX10_init wsX5_init := goodIn_r _ [81, 82, 2, 3, 83, 84, 85, 86, 87, 88, 89, 90, 45, 46, 91, 92, 52, 53, 54, 55, 56, 57, 58, 59, 60, 145, 146, 147, 148, 129, 130, 131, 144] (by decide +kernel) (by decide +kernel)
set_option maxRecDepth 20000 in
theorem gX10_init_X5_init_n39 : GoodIn wsX10_init (wsX5_init) := ggX10_init_X5_init
set_option maxRecDepth 20000 in
theorem ggX10_init_X3_init : GoodIn wsX10_init wsX3_init := goodIn_r _ [94, 95, 2, 3, 96, 45, 46, 97, 98, 52, 53, 54, 55, 56, 57, 58, 59, 60, 144, 132] (by decide +kernel) (by decide +kernel)
set_option maxRecDepth 20000 in
theorem gX10_init_X3_init_n46 : GoodIn wsX10_init (wsX3_init) := ggX10_init_X3_init
set_option maxRecDepth 20000 in
theorem ggX10_init_X1_init : GoodIn wsX10_init wsX1_init := goodIn_r _ [100, 101, 2, 3, 102, 45, 46, 103, 104, 105, 52, 53, 54, 55, 56, 57, 58, 59, 60, 144, 133, 134, 135] (by decide +kernel) (by decide +kernel)
set_option maxRecDepth 20000 in
theorem gX10_init_X1_init_n53 : GoodIn wsX10_init (wsX1_init) := ggX10_init_X1_init
theorem dX10_init_0 : decode cX10_init 0 = .ok (.aload_n 0, 1) := by decide +kernel
theorem dX10_init_1 : decode cX10_init 1 = .ok (.invokespecial 1, 3) := by decide +kernel
theorem dX10_init_4 : decode cX10_init 4 = .ok (.aload_n 0, 1) := by decide +kernel
theorem dX10_init_5 : decode cX10_init 5 = .ok (.new 7, 3) := by decide +kernel
theorem dX10_init_8 : decode cX10_init 8 = .ok (.dup, 1) := by decide +kernel
theorem dX10_init_9 : decode cX10_init 9 = .ok (.invokespecial 9, 3) := by decide +kernel
theorem dX10_init_12 : decode cX10_init 12 = .ok (.putfield 10, 3) := by decide +kernel
theorem dX10_init_15 : decode cX10_init 15 = .ok (.aload_n 0, 1) := by decide +kernel
theorem dX10_init_16 : decode cX10_init 16 = .ok (.new 16, 3) := by decide +kernel
theorem dX10_init_19 : decode cX10_init 19 = .ok (.dup, 1) := by decide +kernel
theorem dX10_init_20 : decode cX10_init 20 = .ok (.invokespecial 18, 3) := by decide +kernel
theorem dX10_init_23 : decode cX10_init 23 = .ok (.putfield 19, 3) := by decide +kernel
theorem dX10_init_26 : decode cX10_init 26 = .ok (.aload_n 0, 1) := by decide +kernel
theorem dX10_init_27 : decode cX10_init 27 = .ok (.new 23, 3) := by decide +kernel
theorem dX10_init_30 : decode cX10_init 30 = .ok (.dup, 1) := by decide +kernel
theorem dX10_init_31 : decode cX10_init 31 = .ok (.invokespecial 25, 3) := by decide +kernel
theorem dX10_init_34 : decode cX10_init 34 = .ok (.putfield 26, 3) := by decide +kernel
theorem dX10_init_37 : decode cX10_init 37 = .ok (.aload_n 0, 1) := by decide +kernel
theorem dX10_init_38 : decode cX10_init 38 = .ok (.new 30, 3) := by decide +kernel
theorem dX10_init_41 : decode cX10_init 41 = .ok (.dup, 1) := by decide +kernel
theorem dX10_init_42 : decode cX10_init 42 = .ok (.invokespecial 32, 3) := by decide +kernel
theorem dX10_init_45 : decode cX10_init 45 = .ok (.putfield 33, 3) := by decide +kernel
theorem dX10_init_48 : decode cX10_init 48 = .ok (.aload_n 0, 1) := by decide +kernel
theorem dX10_init_49 : decode cX10_init 49 = .ok (.new 37, 3) := by decide +kernel
theorem dX10_init_52 : decode cX10_init 52 = .ok (.dup, 1) := by decide +kernel
theorem dX10_init_53 : decode cX10_init 53 = .ok (.invokespecial 39, 3) := by decide +kernel
theorem dX10_init_56 : decode cX10_init 56 = .ok (.putfield 40, 3) := by decide +kernel
theorem dX10_init_59 : decode cX10_init 59 = .ok (.aload_n 0, 1) := by decide +kernel
theorem dX10_init_60 : decode cX10_init 60 = .ok (.new 44, 3) := by decide +kernel
theorem dX10_init_63 : decode cX10_init 63 = .ok (.dup, 1) := by decide +kernel
theorem dX10_init_64 : decode cX10_init 64 = .ok (.invokespecial 46, 3) := by decide +kernel
theorem dX10_init_67 : decode cX10_init 67 = .ok (.putfield 47, 3) := by decide +kernel
theorem dX10_init_70 : decode cX10_init 70 = .ok (.aload_n 0, 1) := by decide +kernel
theorem dX10_init_71 : decode cX10_init 71 = .ok (.new 51, 3) := by decide +kernel
theorem dX10_init_74 : decode cX10_init 74 = .ok (.dup, 1) := by decide +kernel
theorem dX10_init_75 : decode cX10_init 75 = .ok (.invokespecial 53, 3) := by decide +kernel
theorem dX10_init_78 : decode cX10_init 78 = .ok (.putfield 54, 3) := by decide +kernel
theorem dX10_init_81 : decode cX10_init 81 = .ok (.return_, 1) := by decide +kernel
set_option maxRecDepth 20000 in
theorem ggX10_print_X10_isAuthor : GoodIn wsX10_print wsX10_isAuthor := goodIn_r _ [12] (by decide +kernel) (by decide +kernel)
set_option maxRecDepth 20000 in
theorem gX10_print_X10_isAuthor : GoodIn wsX10_print (va_wsS RX10 58 yX10_isAuthor wsX10_isAuthor) := goodIn_app (goodIn_of _ (by decide +kernel)) ggX10_print_X10_isAuthor
set_option maxRecDepth 20000 in
theorem ggX10_print_X10_whyNotPrinted : GoodIn wsX10_print wsX10_whyNotPrinted := goodIn_r _ [16, 6, 7, 8, 17, 18, 19, 20, 21, 22, 23, 24, 25, 26, 27, 28, 29, 30, 31, 32, 33, 34, 35, 36, 37, 38, 39, 40, 41, 42, 43, 44, 45, 46, 47, 48, 49, 50, 51, 52, 11, 53, 54, 55, 56, 57, 58, 59, 60, 61, 62, 63, 64, 65, 66, 67, 68, 69, 70, 71, 72, 73, 74, 75, 76, 77, 78, 79, 80, 81, 82, 83, 84, 85, 86, 87, 88, 89, 90, 91, 92, 93, 94, 95, 96, 97, 98, 99, 100, 101, 102, 103, 104, 105, 106, 107, 108, 109, 110, 111, 112, 147, 148, 149, 150, 151, 152, 153, 161, 162, 163, 164, 154, 155, 156, 157, 158, 159, 160, 165, 166, 167, 168, 169, 170, 171, 172, 173] (by decide +kernel) (by decide +kernel)
set_option maxRecDepth 20000 in
theorem gX10_print_X10_whyNotPrinted : GoodIn wsX10_print (wsV RX10 69 RX10 yX10_whyNotPrinted wsX10_whyNotPrinted) := goodIn_app (goodIn_of _ (by decide +kernel)) ggX10_print_X10_whyNotPrinted
set_option maxRecDepth 20000 in
theorem ggX10_print_X2_save : GoodIn wsX10_print wsX2_save := goodIn_r _ [117, 118, 119, 120, 121, 122, 116, 123, 124, 125, 126, 127, 94, 128, 101, 106, 107, 108, 109, 110, 111, 112, 129, 130, 131, 28, 132, 133, 134, 30, 31, 58, 80, 81, 82, 135, 136, 137, 35, 138, 37, 139, 140, 141, 142, 174, 175, 176, 177, 178, 161, 162, 163, 164, 165, 166, 167, 168, 169, 170, 171, 172, 173] (by decide +kernel) (by decide +kernel)
set_option maxRecDepth 20000 in
theorem gX10_print_X2_save : GoodIn wsX10_print (wsV RX10 78 RX2 yX2_save wsX2_save) := goodIn_app (goodIn_of _ (by decide +kernel)) ggX10_print_X2_save
set_option maxRecDepth 20000 in
theorem ggX10_print_X9_add : GoodIn wsX10_print wsX9_add := goodIn_r _ [146, 101, 106, 107, 108, 109, 94, 110, 111, 112, 129, 130, 131, 28, 132, 133, 134, 30, 31, 58, 80, 81, 82, 135, 136, 137, 35, 138, 37, 139, 140, 141, 142, 161, 162, 163, 164, 165, 166, 167, 168, 169, 170, 171, 172, 173] (by decide +kernel) (by decide +kernel)
set_option maxRecDepth 20000 in
theorem gX10_print_X9_add : GoodIn wsX10_print (wsV RX10 86 RX9 yX9_add wsX9_add) := goodIn_app (goodIn_of _ (by decide +kernel)) ggX10_print_X9_add
theorem dX10_print_0 : decode cX10_print 0 = .ok (.iload_n 1, 1) := by decide +kernel
theorem dX10_print_1 : decode cX10_print 1 = .ok (.invokestatic 58, 3) := by decide +kernel
theorem dX10_print_4 : decode cX10_print 4 = .ok (.ifCond .ne 13, 3) := by decide +kernel
theorem dX10_print_7 : decode cX10_print 7 = .ok (.new 62, 3) := by decide +kernel
theorem dX10_print_10 : decode cX10_print 10 = .ok (.dup, 1) := by decide +kernel
theorem dX10_print_11 : decode cX10_print 11 = .ok (.ldc 64, 2) := by decide +kernel
theorem dX10_print_13 : decode cX10_print 13 = .ok (.invokespecial 66, 3) := by decide +kernel
theorem dX10_print_16 : decode cX10_print 16 = .ok (.athrow, 1) := by decide +kernel
theorem dX10_print_17 : decode cX10_print 17 = .ok (.aload_n 0, 1) := by decide +kernel
theorem dX10_print_18 : decode cX10_print 18 = .ok (.invokevirtual 69, 3) := by decide +kernel
theorem dX10_print_21 : decode cX10_print 21 = .ok (.ifCond .le 13, 3) := by decide +kernel
theorem dX10_print_24 : decode cX10_print 24 = .ok (.new 73, 3) := by decide +kernel
theorem dX10_print_27 : decode cX10_print 27 = .ok (.dup, 1) := by decide +kernel
theorem dX10_print_28 : decode cX10_print 28 = .ok (.ldc 75, 2) := by decide +kernel
theorem dX10_print_30 : decode cX10_print 30 = .ok (.invokespecial 77, 3) := by decide +kernel
theorem dX10_print_33 : decode cX10_print 33 = .ok (.athrow, 1) := by decide +kernel
theorem dX10_print_34 : decode cX10_print 34 = .ok (.aload_n 0, 1) := by decide +kernel
theorem dX10_print_35 : decode cX10_print 35 = .ok (.getfield 19, 3) := by decide +kernel
theorem dX10_print_38 : decode cX10_print 38 = .ok (.aload_n 0, 1) := by decide +kernel
theorem dX10_print_39 : decode cX10_print 39 = .ok (.getfield 10, 3) := by decide +kernel
theorem dX10_print_42 : decode cX10_print 42 = .ok (.invokevirtual 78, 3) := by decide +kernel
theorem dX10_print_45 : decode cX10_print 45 = .ok (.aload_n 0, 1) := by decide +kernel
theorem dX10_print_46 : decode cX10_print 46 = .ok (.getfield 10, 3) := by decide +kernel
theorem dX10_print_49 : decode cX10_print 49 = .ok (.aload_n 0, 1) := by decide +kernel
theorem dX10_print_50 : decode cX10_print 50 = .ok (.getfield 33, 3) := by decide +kernel
theorem dX10_print_53 : decode cX10_print 53 = .ok (.getfield 82, 3) := by decide +kernel
theorem dX10_print_56 : decode cX10_print 56 = .ok (.iload_n 1, 1) := by decide +kernel
theorem dX10_print_57 : decode cX10_print 57 = .ok (.invokevirtual 86, 3) := by decide +kernel
theorem dX10_print_60 : decode cX10_print 60 = .ok (.aload_n 0, 1) := by decide +kernel
theorem dX10_print_61 : decode cX10_print 61 = .ok (.getfield 26, 3) := by decide +kernel
theorem dX10_print_64 : decode cX10_print 64 = .ok (.iconst 0, 1) := by decide +kernel
theorem dX10_print_65 : decode cX10_print 65 = .ok (.putfield 90, 3) := by decide +kernel
theorem dX10_print_68 : decode cX10_print 68 = .ok (.aload_n 0, 1) := by decide +kernel
theorem dX10_print_69 : decode cX10_print 69 = .ok (.getfield 10, 3) := by decide +kernel
theorem dX10_print_72 : decode cX10_print 72 = .ok (.getfield 94, 3) := by decide +kernel
theorem dX10_print_75 : decode cX10_print 75 = .ok (.iconst 1, 1) := by decide +kernel
theorem dX10_print_76 : decode cX10_print 76 = .ok (.isub, 1) := by decide +kernel
theorem dX10_print_77 : decode cX10_print 77 = .ok (.ireturn, 1) := by decide +kernel
set_option maxRecDepth 20000 in
theorem ggX10_pass_X2_save : GoodIn wsX10_pass wsX2_save := goodIn_r _ [9, 10, 11, 12, 13, 14, 8, 15, 16, 17, 18, 19, 20, 21, 22, 23, 24, 25, 26, 27, 28, 29, 30, 31, 32, 33, 34, 35, 36, 37, 38, 39, 40, 41, 42, 43, 44, 45, 46, 47, 48, 49, 50, 51, 52, 64, 65, 66, 67, 68, 60, 61, 62, 63, 69, 70, 71, 72, 73, 74, 75, 76, 77] (by decide +kernel) (by decide +kernel)
set_option maxRecDepth 20000 in
theorem gX10_pass_X2_save : GoodIn wsX10_pass (wsV RX10 78 RX2 yX2_save wsX2_save) := goodIn_app (goodIn_of _ (by decide +kernel)) ggX10_pass_X2_save
theorem dX10_pass_0 : decode cX10_pass 0 = .ok (.iload_n 1, 1) := by decide +kernel
theorem dX10_pass_1 : decode cX10_pass 1 = .ok (.iconst 1, 1) := by decide +kernel
theorem dX10_pass_2 : decode cX10_pass 2 = .ok (.if_icmp .lt 9, 3) := by decide +kernel
theorem dX10_pass_5 : decode cX10_pass 5 = .ok (.iload_n 1, 1) := by decide +kernel
theorem dX10_pass_6 : decode cX10_pass 6 = .ok (.bipush 100, 2) := by decide +kernel
theorem dX10_pass_8 : decode cX10_pass 8 = .ok (.if_icmp .le 13, 3) := by decide +kernel
theorem dX10_pass_11 : decode cX10_pass 11 = .ok (.new 62, 3) := by decide +kernel
theorem dX10_pass_14 : decode cX10_pass 14 = .ok (.dup, 1) := by decide +kernel
theorem dX10_pass_15 : decode cX10_pass 15 = .ok (.ldc 97, 2) := by decide +kernel
theorem dX10_pass_17 : decode cX10_pass 17 = .ok (.invokespecial 66, 3) := by decide +kernel
theorem dX10_pass_20 : decode cX10_pass 20 = .ok (.athrow, 1) := by decide +kernel
theorem dX10_pass_21 : decode cX10_pass 21 = .ok (.aload_n 0, 1) := by decide +kernel
theorem dX10_pass_22 : decode cX10_pass 22 = .ok (.getfield 19, 3) := by decide +kernel
theorem dX10_pass_25 : decode cX10_pass 25 = .ok (.aload_n 0, 1) := by decide +kernel
theorem dX10_pass_26 : decode cX10_pass 26 = .ok (.getfield 10, 3) := by decide +kernel
theorem dX10_pass_29 : decode cX10_pass 29 = .ok (.invokevirtual 78, 3) := by decide +kernel
theorem dX10_pass_32 : decode cX10_pass 32 = .ok (.aload_n 0, 1) := by decide +kernel
theorem dX10_pass_33 : decode cX10_pass 33 = .ok (.getfield 10, 3) := by decide +kernel
theorem dX10_pass_36 : decode cX10_pass 36 = .ok (.dup, 1) := by decide +kernel
theorem dX10_pass_37 : decode cX10_pass 37 = .ok (.getfield 99, 3) := by decide +kernel
theorem dX10_pass_40 : decode cX10_pass 40 = .ok (.iload_n 1, 1) := by decide +kernel
theorem dX10_pass_41 : decode cX10_pass 41 = .ok (.iadd, 1) := by decide +kernel
theorem dX10_pass_42 : decode cX10_pass 42 = .ok (.putfield 99, 3) := by decide +kernel
theorem dX10_pass_45 : decode cX10_pass 45 = .ok (.aload_n 0, 1) := by decide +kernel
theorem dX10_pass_46 : decode cX10_pass 46 = .ok (.getfield 10, 3) := by decide +kernel
theorem dX10_pass_49 : decode cX10_pass 49 = .ok (.getfield 99, 3) := by decide +kernel
theorem dX10_pass_52 : decode cX10_pass 52 = .ok (.ireturn, 1) := by decide +kernel
set_option maxRecDepth 20000 in
theorem ggX10_mend_X10_needQuotation : GoodIn wsX10_mend wsX10_needQuotation := goodIn_ca (goodIn_r _ [10, 11, 12, 4, 13, 14, 15, 9, 16, 17, 18, 19, 20, 21, 22, 23, 24, 25, 26, 27, 28, 135, 136, 137, 138, 139, 140, 141, 142, 143, 144, 145, 146, 147, 148, 149, 150, 151, 152, 153] (by decide +kernel) (by decide +kernel)) (goodIn_sub (fun _ h => List.mem_cons_of_mem _ (List.mem_append_right _ h)) (by decide +kernel))
set_option maxRecDepth 20000 in
theorem gX10_mend_X10_needQuotation : GoodIn wsX10_mend (wsV RX10 102 RX10 yX10_needQuotation wsX10_needQuotation) := goodIn_app (goodIn_of _ (by decide +kernel)) ggX10_mend_X10_needQuotation
set_option maxRecDepth 20000 in
theorem ggX10_mend_X5_find : GoodIn wsX10_mend wsX5_find := goodIn_r _ [33, 34, 35, 24, 25, 20, 26, 27, 28, 36, 37, 38, 39, 40, 41, 42, 43, 44, 45, 46, 47, 48, 49, 50, 51, 52, 53, 54, 55, 56, 57, 58, 59, 60, 61, 62, 63, 64, 65, 66, 67, 68, 69, 70, 71, 154, 155, 156, 142, 143, 144, 145, 146, 147, 148, 149, 157, 158, 159, 160, 150, 151, 152, 153, 161] (by decide +kernel) (by decide +kernel)
set_option maxRecDepth 20000 in
theorem gX10_mend_X5_find : GoodIn wsX10_mend (wsV RX10 106 RX5 yX5_find wsX5_find) := goodIn_app (goodIn_of _ (by decide +kernel)) ggX10_mend_X5_find
set_option maxRecDepth 20000 in
theorem ggX10_mend_X5_isRoomFor : GoodIn wsX10_mend wsX5_isRoomFor := goodIn_r _ [75, 34, 35, 24, 25, 20, 26, 27, 28, 76, 77, 78, 79, 80, 81, 82, 37, 38, 39, 40, 41, 142, 143, 144, 145, 146, 147, 148, 149, 154, 155, 156, 157, 158, 159, 160, 150, 151, 152, 153, 161] (by decide +kernel) (by decide +kernel)
set_option maxRecDepth 20000 in
theorem gX10_mend_X5_isRoomFor : GoodIn wsX10_mend (wsV RX10 112 RX5 yX5_isRoomFor wsX5_isRoomFor) := goodIn_app (goodIn_of _ (by decide +kernel)) ggX10_mend_X5_isRoomFor
set_option maxRecDepth 20000 in
theorem ggX10_mend_X2_save : GoodIn wsX10_mend wsX2_save := goodIn_r _ [87, 88, 89, 90, 91, 92, 86, 93, 94, 95, 96, 97, 20, 98, 22, 99, 100, 24, 25, 26, 27, 28, 101, 102, 103, 79, 104, 105, 106, 107, 108, 109, 110, 111, 81, 112, 113, 114, 39, 115, 41, 116, 117, 118, 119, 162, 163, 164, 165, 166, 150, 151, 152, 153, 142, 143, 144, 145, 146, 147, 148, 149, 161] (by decide +kernel) (by decide +kernel)
set_option maxRecDepth 20000 in
theorem gX10_mend_X2_save : GoodIn wsX10_mend (wsV RX10 78 RX2 yX2_save wsX2_save) := goodIn_app (goodIn_of _ (by decide +kernel)) ggX10_mend_X2_save
set_option maxRecDepth 20000 in
theorem ggX10_mend_X5_putRight : GoodIn wsX10_mend wsX5_putRight := goodIn_r _ [123, 34, 35, 24, 25, 20, 26, 27, 28, 36, 37, 38, 39, 40, 41, 124, 125, 126, 79, 127, 111, 81, 109, 107, 108, 82, 128, 77, 78, 80, 129, 130, 131, 132, 116, 117, 118, 119, 133, 54, 55, 56, 134, 50, 51, 52, 142, 143, 144, 145, 146, 147, 148, 149, 154, 155, 156, 157, 158, 159, 160, 150, 151, 152, 153, 161] (by decide +kernel) (by decide +kernel)
set_option maxRecDepth 20000 in
theorem gX10_mend_X5_putRight : GoodIn wsX10_mend (wsV RX10 118 RX5 yX5_putRight wsX5_putRight) := goodIn_app (goodIn_of _ (by decide +kernel)) ggX10_mend_X5_putRight
theorem dX10_mend_0 : decode cX10_mend 0 = .ok (.aload_n 0, 1) := by decide +kernel
theorem dX10_mend_1 : decode cX10_mend 1 = .ok (.iload_n 1, 1) := by decide +kernel
theorem dX10_mend_2 : decode cX10_mend 2 = .ok (.iload_n 2, 1) := by decide +kernel
theorem dX10_mend_3 : decode cX10_mend 3 = .ok (.invokevirtual 102, 3) := by decide +kernel
theorem dX10_mend_6 : decode cX10_mend 6 = .ok (.aload_n 0, 1) := by decide +kernel
theorem dX10_mend_7 : decode cX10_mend 7 = .ok (.getfield 40, 3) := by decide +kernel
theorem dX10_mend_10 : decode cX10_mend 10 = .ok (.aload_n 0, 1) := by decide +kernel
theorem dX10_mend_11 : decode cX10_mend 11 = .ok (.getfield 10, 3) := by decide +kernel
theorem dX10_mend_14 : decode cX10_mend 14 = .ok (.iload_n 1, 1) := by decide +kernel
theorem dX10_mend_15 : decode cX10_mend 15 = .ok (.iload_n 2, 1) := by decide +kernel
theorem dX10_mend_16 : decode cX10_mend 16 = .ok (.invokevirtual 106, 3) := by decide +kernel
theorem dX10_mend_19 : decode cX10_mend 19 = .ok (.istore_n 3, 1) := by decide +kernel
theorem dX10_mend_20 : decode cX10_mend 20 = .ok (.iload_n 3, 1) := by decide +kernel
theorem dX10_mend_21 : decode cX10_mend 21 = .ok (.ifCond .ne 13, 3) := by decide +kernel
theorem dX10_mend_24 : decode cX10_mend 24 = .ok (.new 73, 3) := by decide +kernel
theorem dX10_mend_27 : decode cX10_mend 27 = .ok (.dup, 1) := by decide +kernel
theorem dX10_mend_28 : decode cX10_mend 28 = .ok (.ldc 110, 2) := by decide +kernel
theorem dX10_mend_30 : decode cX10_mend 30 = .ok (.invokespecial 77, 3) := by decide +kernel
theorem dX10_mend_33 : decode cX10_mend 33 = .ok (.athrow, 1) := by decide +kernel
theorem dX10_mend_34 : decode cX10_mend 34 = .ok (.aload_n 0, 1) := by decide +kernel
theorem dX10_mend_35 : decode cX10_mend 35 = .ok (.getfield 40, 3) := by decide +kernel
theorem dX10_mend_38 : decode cX10_mend 38 = .ok (.aload_n 0, 1) := by decide +kernel
theorem dX10_mend_39 : decode cX10_mend 39 = .ok (.getfield 10, 3) := by decide +kernel
theorem dX10_mend_42 : decode cX10_mend 42 = .ok (.iload_n 1, 1) := by decide +kernel
theorem dX10_mend_43 : decode cX10_mend 43 = .ok (.iload_n 2, 1) := by decide +kernel
theorem dX10_mend_44 : decode cX10_mend 44 = .ok (.invokevirtual 112, 3) := by decide +kernel
theorem dX10_mend_47 : decode cX10_mend 47 = .ok (.ifCond .ne 13, 3) := by decide +kernel
theorem dX10_mend_50 : decode cX10_mend 50 = .ok (.new 73, 3) := by decide +kernel
theorem dX10_mend_53 : decode cX10_mend 53 = .ok (.dup, 1) := by decide +kernel
theorem dX10_mend_54 : decode cX10_mend 54 = .ok (.ldc 116, 2) := by decide +kernel
theorem dX10_mend_56 : decode cX10_mend 56 = .ok (.invokespecial 77, 3) := by decide +kernel
theorem dX10_mend_59 : decode cX10_mend 59 = .ok (.athrow, 1) := by decide +kernel
theorem dX10_mend_60 : decode cX10_mend 60 = .ok (.aload_n 0, 1) := by decide +kernel
theorem dX10_mend_61 : decode cX10_mend 61 = .ok (.getfield 19, 3) := by decide +kernel
theorem dX10_mend_64 : decode cX10_mend 64 = .ok (.aload_n 0, 1) := by decide +kernel
theorem dX10_mend_65 : decode cX10_mend 65 = .ok (.getfield 10, 3) := by decide +kernel
theorem dX10_mend_68 : decode cX10_mend 68 = .ok (.invokevirtual 78, 3) := by decide +kernel
theorem dX10_mend_71 : decode cX10_mend 71 = .ok (.aload_n 0, 1) := by decide +kernel
theorem dX10_mend_72 : decode cX10_mend 72 = .ok (.getfield 40, 3) := by decide +kernel
theorem dX10_mend_75 : decode cX10_mend 75 = .ok (.aload_n 0, 1) := by decide +kernel
theorem dX10_mend_76 : decode cX10_mend 76 = .ok (.getfield 10, 3) := by decide +kernel
theorem dX10_mend_79 : decode cX10_mend 79 = .ok (.iload_n 1, 1) := by decide +kernel
theorem dX10_mend_80 : decode cX10_mend 80 = .ok (.iload_n 2, 1) := by decide +kernel
theorem dX10_mend_81 : decode cX10_mend 81 = .ok (.invokevirtual 118, 3) := by decide +kernel
theorem dX10_mend_84 : decode cX10_mend 84 = .ok (.iload_n 3, 1) := by decide +kernel
theorem dX10_mend_85 : decode cX10_mend 85 = .ok (.ireturn, 1) := by decide +kernel
set_option maxRecDepth 20000 in
theorem ggX10_mendAll_X2_save : GoodIn wsX10_mendAll wsX2_save := goodIn_r _ [8, 9, 10, 11, 12, 13, 7, 14, 15, 16, 17, 18, 19, 20, 21, 22, 23, 24, 25, 26, 27, 28, 29, 30, 31, 32, 33, 34, 35, 36, 37, 38, 39, 40, 41, 42, 43, 44, 45, 46, 47, 48, 49, 50, 51, 132, 133, 134, 135, 136, 128, 129, 130, 131, 137, 138, 139, 140, 141, 142, 143, 144, 145] (by decide +kernel) (by decide +kernel)
set_option maxRecDepth 20000 in
theorem gX10_mendAll_X2_save : GoodIn wsX10_mendAll (wsV RX10 78 RX2 yX2_save wsX2_save) := goodIn_app (goodIn_of _ (by decide +kernel)) ggX10_mendAll_X2_save
set_option maxRecDepth 20000 in
theorem ggX10_mendAll_X5_putAllRight : GoodIn wsX10_mendAll wsX5_putAllRight := goodIn_r _ [56, 57, 24, 25, 19, 26, 27, 28, 58, 59, 60, 55, 61, 62, 63, 64, 65, 45, 66, 47, 67, 68, 69, 70, 71, 72, 73, 74, 75, 76, 77, 78, 79, 80, 81, 82, 83, 84, 85, 86, 87, 88, 89, 90, 91, 92, 93, 94, 95, 96, 97, 98, 99, 100, 101, 102, 103, 32, 104, 41, 105, 106, 107, 108, 109, 110, 111, 112, 113, 40, 38, 36, 37, 114, 115, 116, 117, 118, 48, 49, 50, 51, 119, 120, 137, 138, 139, 140, 141, 142, 143, 144, 128, 129, 130, 131, 146, 147, 148, 149, 150, 151, 152, 145] (by decide +kernel) (by decide +kernel)
set_option maxRecDepth 20000 in
theorem gX10_mendAll_X5_putAllRight : GoodIn wsX10_mendAll (wsV RX10 122 RX5 yX5_putAllRight wsX5_putAllRight) := goodIn_app (goodIn_of _ (by decide +kernel)) ggX10_mendAll_X5_putAllRight
theorem dX10_mendAll_0 : decode cX10_mendAll 0 = .ok (.aload_n 0, 1) := by decide +kernel
theorem dX10_mendAll_1 : decode cX10_mendAll 1 = .ok (.getfield 19, 3) := by decide +kernel
theorem dX10_mendAll_4 : decode cX10_mendAll 4 = .ok (.aload_n 0, 1) := by decide +kernel
theorem dX10_mendAll_5 : decode cX10_mendAll 5 = .ok (.getfield 10, 3) := by decide +kernel
theorem dX10_mendAll_8 : decode cX10_mendAll 8 = .ok (.invokevirtual 78, 3) := by decide +kernel
theorem dX10_mendAll_11 : decode cX10_mendAll 11 = .ok (.iconst 0, 1) := by decide +kernel
theorem dX10_mendAll_12 : decode cX10_mendAll 12 = .ok (.istore_n 1, 1) := by decide +kernel
theorem dX10_mendAll_13 : decode cX10_mendAll 13 = .ok (.iconst 0, 1) := by decide +kernel
theorem dX10_mendAll_14 : decode cX10_mendAll 14 = .ok (.istore_n 2, 1) := by decide +kernel
theorem dX10_mendAll_15 : decode cX10_mendAll 15 = .ok (.iload_n 2, 1) := by decide +kernel
theorem dX10_mendAll_16 : decode cX10_mendAll 16 = .ok (.aload_n 0, 1) := by decide +kernel
theorem dX10_mendAll_17 : decode cX10_mendAll 17 = .ok (.getfield 10, 3) := by decide +kernel
theorem dX10_mendAll_20 : decode cX10_mendAll 20 = .ok (.getfield 94, 3) := by decide +kernel
theorem dX10_mendAll_23 : decode cX10_mendAll 23 = .ok (.if_icmp .ge 24, 3) := by decide +kernel
theorem dX10_mendAll_26 : decode cX10_mendAll 26 = .ok (.iload_n 1, 1) := by decide +kernel
theorem dX10_mendAll_27 : decode cX10_mendAll 27 = .ok (.aload_n 0, 1) := by decide +kernel
theorem dX10_mendAll_28 : decode cX10_mendAll 28 = .ok (.getfield 40, 3) := by decide +kernel
theorem dX10_mendAll_31 : decode cX10_mendAll 31 = .ok (.aload_n 0, 1) := by decide +kernel
theorem dX10_mendAll_32 : decode cX10_mendAll 32 = .ok (.getfield 10, 3) := by decide +kernel
theorem dX10_mendAll_35 : decode cX10_mendAll 35 = .ok (.iload_n 2, 1) := by decide +kernel
theorem dX10_mendAll_36 : decode cX10_mendAll 36 = .ok (.invokevirtual 122, 3) := by decide +kernel
theorem dX10_mendAll_39 : decode cX10_mendAll 39 = .ok (.iadd, 1) := by decide +kernel
theorem dX10_mendAll_40 : decode cX10_mendAll 40 = .ok (.istore_n 1, 1) := by decide +kernel
theorem dX10_mendAll_41 : decode cX10_mendAll 41 = .ok (.iinc 2 1, 3) := by decide +kernel
theorem dX10_mendAll_44 : decode cX10_mendAll 44 = .ok (.goto (-29), 3) := by decide +kernel
theorem dX10_mendAll_47 : decode cX10_mendAll 47 = .ok (.iload_n 1, 1) := by decide +kernel
theorem dX10_mendAll_48 : decode cX10_mendAll 48 = .ok (.ireturn, 1) := by decide +kernel
set_option maxRecDepth 20000 in
theorem ggX10_withdraw_X9_at : GoodIn wsX10_withdraw wsX9_at := goodIn_r _ [9, 10, 11, 61, 62, 63, 64] (by decide +kernel) (by decide +kernel)
set_option maxRecDepth 20000 in
theorem gX10_withdraw_X9_at : GoodIn wsX10_withdraw (wsV RX10 128 RX9 yX9_at wsX9_at) := goodIn_app (goodIn_of _ (by decide +kernel)) ggX10_withdraw_X9_at
set_option maxRecDepth 20000 in
theorem ggX10_withdraw_X2_save : GoodIn wsX10_withdraw wsX2_save := goodIn_r _ [16, 17, 18, 19, 20, 21, 15, 22, 23, 24, 25, 26, 8, 27, 28, 29, 30, 6, 7, 9, 10, 11, 31, 32, 33, 34, 35, 36, 37, 38, 39, 40, 41, 42, 43, 44, 45, 46, 47, 48, 49, 50, 51, 52, 53, 73, 74, 75, 76, 77, 61, 62, 63, 64, 65, 66, 67, 68, 69, 70, 71, 72, 78] (by decide +kernel) (by decide +kernel)
set_option maxRecDepth 20000 in
theorem gX10_withdraw_X2_save : GoodIn wsX10_withdraw (wsV RX10 78 RX2 yX2_save wsX2_save) := goodIn_app (goodIn_of _ (by decide +kernel)) ggX10_withdraw_X2_save
theorem dX10_withdraw_0 : decode cX10_withdraw 0 = .ok (.aload_n 0, 1) := by decide +kernel
theorem dX10_withdraw_1 : decode cX10_withdraw 1 = .ok (.getfield 10, 3) := by decide +kernel
theorem dX10_withdraw_4 : decode cX10_withdraw 4 = .ok (.getfield 94, 3) := by decide +kernel
theorem dX10_withdraw_7 : decode cX10_withdraw 7 = .ok (.ifCond .ne 13, 3) := by decide +kernel
theorem dX10_withdraw_10 : decode cX10_withdraw 10 = .ok (.new 73, 3) := by decide +kernel
theorem dX10_withdraw_13 : decode cX10_withdraw 13 = .ok (.dup, 1) := by decide +kernel
theorem dX10_withdraw_14 : decode cX10_withdraw 14 = .ok (.ldc 126, 2) := by decide +kernel
theorem dX10_withdraw_16 : decode cX10_withdraw 16 = .ok (.invokespecial 77, 3) := by decide +kernel
theorem dX10_withdraw_19 : decode cX10_withdraw 19 = .ok (.athrow, 1) := by decide +kernel
theorem dX10_withdraw_20 : decode cX10_withdraw 20 = .ok (.aload_n 0, 1) := by decide +kernel
theorem dX10_withdraw_21 : decode cX10_withdraw 21 = .ok (.getfield 10, 3) := by decide +kernel
theorem dX10_withdraw_24 : decode cX10_withdraw 24 = .ok (.aload_n 0, 1) := by decide +kernel
theorem dX10_withdraw_25 : decode cX10_withdraw 25 = .ok (.getfield 10, 3) := by decide +kernel
theorem dX10_withdraw_28 : decode cX10_withdraw 28 = .ok (.getfield 94, 3) := by decide +kernel
theorem dX10_withdraw_31 : decode cX10_withdraw 31 = .ok (.iconst 1, 1) := by decide +kernel
theorem dX10_withdraw_32 : decode cX10_withdraw 32 = .ok (.isub, 1) := by decide +kernel
theorem dX10_withdraw_33 : decode cX10_withdraw 33 = .ok (.invokevirtual 128, 3) := by decide +kernel
theorem dX10_withdraw_36 : decode cX10_withdraw 36 = .ok (.getfield 132, 3) := by decide +kernel
theorem dX10_withdraw_39 : decode cX10_withdraw 39 = .ok (.aload_n 0, 1) := by decide +kernel
theorem dX10_withdraw_40 : decode cX10_withdraw 40 = .ok (.getfield 10, 3) := by decide +kernel
theorem dX10_withdraw_43 : decode cX10_withdraw 43 = .ok (.getfield 99, 3) := by decide +kernel
theorem dX10_withdraw_46 : decode cX10_withdraw 46 = .ok (.if_icmp .eq 13, 3) := by decide +kernel
theorem dX10_withdraw_49 : decode cX10_withdraw 49 = .ok (.new 73, 3) := by decide +kernel
theorem dX10_withdraw_52 : decode cX10_withdraw 52 = .ok (.dup, 1) := by decide +kernel
theorem dX10_withdraw_53 : decode cX10_withdraw 53 = .ok (.ldc 137, 2) := by decide +kernel
theorem dX10_withdraw_55 : decode cX10_withdraw 55 = .ok (.invokespecial 77, 3) := by decide +kernel
theorem dX10_withdraw_58 : decode cX10_withdraw 58 = .ok (.athrow, 1) := by decide +kernel
theorem dX10_withdraw_59 : decode cX10_withdraw 59 = .ok (.aload_n 0, 1) := by decide +kernel
theorem dX10_withdraw_60 : decode cX10_withdraw 60 = .ok (.getfield 19, 3) := by decide +kernel
theorem dX10_withdraw_63 : decode cX10_withdraw 63 = .ok (.aload_n 0, 1) := by decide +kernel
theorem dX10_withdraw_64 : decode cX10_withdraw 64 = .ok (.getfield 10, 3) := by decide +kernel
theorem dX10_withdraw_67 : decode cX10_withdraw 67 = .ok (.invokevirtual 78, 3) := by decide +kernel
theorem dX10_withdraw_70 : decode cX10_withdraw 70 = .ok (.aload_n 0, 1) := by decide +kernel
theorem dX10_withdraw_71 : decode cX10_withdraw 71 = .ok (.getfield 10, 3) := by decide +kernel
theorem dX10_withdraw_74 : decode cX10_withdraw 74 = .ok (.dup, 1) := by decide +kernel
theorem dX10_withdraw_75 : decode cX10_withdraw 75 = .ok (.getfield 94, 3) := by decide +kernel
theorem dX10_withdraw_78 : decode cX10_withdraw 78 = .ok (.iconst 1, 1) := by decide +kernel
theorem dX10_withdraw_79 : decode cX10_withdraw 79 = .ok (.isub, 1) := by decide +kernel
theorem dX10_withdraw_80 : decode cX10_withdraw 80 = .ok (.putfield 94, 3) := by decide +kernel
theorem dX10_withdraw_83 : decode cX10_withdraw 83 = .ok (.aload_n 0, 1) := by decide +kernel
theorem dX10_withdraw_84 : decode cX10_withdraw 84 = .ok (.getfield 10, 3) := by decide +kernel
theorem dX10_withdraw_87 : decode cX10_withdraw 87 = .ok (.getfield 94, 3) := by decide +kernel
theorem dX10_withdraw_90 : decode cX10_withdraw 90 = .ok (.ireturn, 1) := by decide +kernel
theorem dX10_day_0 : decode cX10_day 0 = .ok (.aload_n 0, 1) := by decide +kernel
theorem dX10_day_1 : decode cX10_day 1 = .ok (.getfield 10, 3) := by decide +kernel
theorem dX10_day_4 : decode cX10_day 4 = .ok (.getfield 99, 3) := by decide +kernel
theorem dX10_day_7 : decode cX10_day 7 = .ok (.ireturn, 1) := by decide +kernel
theorem dX10_pamphlets_0 : decode cX10_pamphlets 0 = .ok (.aload_n 0, 1) := by decide +kernel
theorem dX10_pamphlets_1 : decode cX10_pamphlets 1 = .ok (.getfield 10, 3) := by decide +kernel
theorem dX10_pamphlets_4 : decode cX10_pamphlets 4 = .ok (.getfield 94, 3) := by decide +kernel
theorem dX10_pamphlets_7 : decode cX10_pamphlets 7 = .ok (.ireturn, 1) := by decide +kernel
set_option maxRecDepth 20000 in
theorem ggX10_authorOf_X10_needPamphlet : GoodIn wsX10_authorOf wsX10_needPamphlet := goodIn_ca (goodIn_r _ [6, 7, 8, 1, 9, 10, 11, 12, 13, 14, 21, 22, 23, 24, 25, 26, 27, 36, 37, 38, 39] (by decide +kernel) (by decide +kernel)) (goodIn_sub (fun _ h => List.mem_cons_of_mem _ (List.mem_append_right _ h)) (by decide +kernel))
set_option maxRecDepth 20000 in
theorem gX10_authorOf_X10_needPamphlet : GoodIn wsX10_authorOf (wsV RX10 139 RX10 yX10_needPamphlet wsX10_needPamphlet) := goodIn_app (goodIn_of _ (by decide +kernel)) ggX10_authorOf_X10_needPamphlet
set_option maxRecDepth 20000 in
theorem ggX10_authorOf_X9_at : GoodIn wsX10_authorOf wsX9_at := goodIn_r _ [18, 19, 20, 36, 37, 38, 39] (by decide +kernel) (by decide +kernel)
set_option maxRecDepth 20000 in
theorem gX10_authorOf_X9_at : GoodIn wsX10_authorOf (wsV RX10 128 RX9 yX9_at wsX9_at) := goodIn_app (goodIn_of _ (by decide +kernel)) ggX10_authorOf_X9_at
theorem dX10_authorOf_0 : decode cX10_authorOf 0 = .ok (.aload_n 0, 1) := by decide +kernel
theorem dX10_authorOf_1 : decode cX10_authorOf 1 = .ok (.iload_n 1, 1) := by decide +kernel
theorem dX10_authorOf_2 : decode cX10_authorOf 2 = .ok (.invokevirtual 139, 3) := by decide +kernel
theorem dX10_authorOf_5 : decode cX10_authorOf 5 = .ok (.aload_n 0, 1) := by decide +kernel
theorem dX10_authorOf_6 : decode cX10_authorOf 6 = .ok (.getfield 10, 3) := by decide +kernel
theorem dX10_authorOf_9 : decode cX10_authorOf 9 = .ok (.iload_n 1, 1) := by decide +kernel
theorem dX10_authorOf_10 : decode cX10_authorOf 10 = .ok (.invokevirtual 128, 3) := by decide +kernel
theorem dX10_authorOf_13 : decode cX10_authorOf 13 = .ok (.getfield 143, 3) := by decide +kernel
theorem dX10_authorOf_16 : decode cX10_authorOf 16 = .ok (.ireturn, 1) := by decide +kernel
set_option maxRecDepth 20000 in
theorem ggX10_dayOf_X10_needPamphlet : GoodIn wsX10_dayOf wsX10_needPamphlet := goodIn_ca (goodIn_r _ [6, 7, 8, 1, 9, 10, 11, 12, 13, 14, 21, 22, 23, 24, 25, 26, 27, 36, 37, 38, 39] (by decide +kernel) (by decide +kernel)) (goodIn_sub (fun _ h => List.mem_cons_of_mem _ (List.mem_append_right _ h)) (by decide +kernel))
set_option maxRecDepth 20000 in
theorem gX10_dayOf_X10_needPamphlet : GoodIn wsX10_dayOf (wsV RX10 139 RX10 yX10_needPamphlet wsX10_needPamphlet) := goodIn_app (goodIn_of _ (by decide +kernel)) ggX10_dayOf_X10_needPamphlet
set_option maxRecDepth 20000 in
theorem ggX10_dayOf_X9_at : GoodIn wsX10_dayOf wsX9_at := goodIn_r _ [18, 19, 20, 36, 37, 38, 39] (by decide +kernel) (by decide +kernel)
set_option maxRecDepth 20000 in
theorem gX10_dayOf_X9_at : GoodIn wsX10_dayOf (wsV RX10 128 RX9 yX9_at wsX9_at) := goodIn_app (goodIn_of _ (by decide +kernel)) ggX10_dayOf_X9_at
theorem dX10_dayOf_0 : decode cX10_dayOf 0 = .ok (.aload_n 0, 1) := by decide +kernel
theorem dX10_dayOf_1 : decode cX10_dayOf 1 = .ok (.iload_n 1, 1) := by decide +kernel
theorem dX10_dayOf_2 : decode cX10_dayOf 2 = .ok (.invokevirtual 139, 3) := by decide +kernel
theorem dX10_dayOf_5 : decode cX10_dayOf 5 = .ok (.aload_n 0, 1) := by decide +kernel
theorem dX10_dayOf_6 : decode cX10_dayOf 6 = .ok (.getfield 10, 3) := by decide +kernel
theorem dX10_dayOf_9 : decode cX10_dayOf 9 = .ok (.iload_n 1, 1) := by decide +kernel
theorem dX10_dayOf_10 : decode cX10_dayOf 10 = .ok (.invokevirtual 128, 3) := by decide +kernel
theorem dX10_dayOf_13 : decode cX10_dayOf 13 = .ok (.getfield 132, 3) := by decide +kernel
theorem dX10_dayOf_16 : decode cX10_dayOf 16 = .ok (.ireturn, 1) := by decide +kernel
set_option maxRecDepth 20000 in
theorem ggX10_wordsOf_X10_needPamphlet : GoodIn wsX10_wordsOf wsX10_needPamphlet := goodIn_ca (goodIn_r _ [6, 7, 8, 1, 9, 10, 11, 12, 13, 14, 21, 22, 23, 24, 25, 26, 27, 36, 37, 38, 39] (by decide +kernel) (by decide +kernel)) (goodIn_sub (fun _ h => List.mem_cons_of_mem _ (List.mem_append_right _ h)) (by decide +kernel))
set_option maxRecDepth 20000 in
theorem gX10_wordsOf_X10_needPamphlet : GoodIn wsX10_wordsOf (wsV RX10 139 RX10 yX10_needPamphlet wsX10_needPamphlet) := goodIn_app (goodIn_of _ (by decide +kernel)) ggX10_wordsOf_X10_needPamphlet
set_option maxRecDepth 20000 in
theorem ggX10_wordsOf_X9_at : GoodIn wsX10_wordsOf wsX9_at := goodIn_r _ [18, 19, 20, 36, 37, 38, 39] (by decide +kernel) (by decide +kernel)
set_option maxRecDepth 20000 in
theorem gX10_wordsOf_X9_at : GoodIn wsX10_wordsOf (wsV RX10 128 RX9 yX9_at wsX9_at) := goodIn_app (goodIn_of _ (by decide +kernel)) ggX10_wordsOf_X9_at
theorem dX10_wordsOf_0 : decode cX10_wordsOf 0 = .ok (.aload_n 0, 1) := by decide +kernel
theorem dX10_wordsOf_1 : decode cX10_wordsOf 1 = .ok (.iload_n 1, 1) := by decide +kernel
theorem dX10_wordsOf_2 : decode cX10_wordsOf 2 = .ok (.invokevirtual 139, 3) := by decide +kernel
theorem dX10_wordsOf_5 : decode cX10_wordsOf 5 = .ok (.aload_n 0, 1) := by decide +kernel
theorem dX10_wordsOf_6 : decode cX10_wordsOf 6 = .ok (.getfield 10, 3) := by decide +kernel
theorem dX10_wordsOf_9 : decode cX10_wordsOf 9 = .ok (.iload_n 1, 1) := by decide +kernel
theorem dX10_wordsOf_10 : decode cX10_wordsOf 10 = .ok (.invokevirtual 128, 3) := by decide +kernel
theorem dX10_wordsOf_13 : decode cX10_wordsOf 13 = .ok (.getfield 146, 3) := by decide +kernel
theorem dX10_wordsOf_16 : decode cX10_wordsOf 16 = .ok (.ireturn, 1) := by decide +kernel
set_option maxRecDepth 20000 in
theorem ggX10_pagesOf_X10_needPamphlet : GoodIn wsX10_pagesOf wsX10_needPamphlet := goodIn_ca (goodIn_r _ [6, 7, 8, 1, 9, 10, 11, 12, 13, 14, 27, 28, 29, 30, 31, 32, 33, 34, 35, 36, 37] (by decide +kernel) (by decide +kernel)) (goodIn_sub (fun _ h => List.mem_cons_of_mem _ (List.mem_append_right _ h)) (by decide +kernel))
set_option maxRecDepth 20000 in
theorem gX10_pagesOf_X10_needPamphlet : GoodIn wsX10_pagesOf (wsV RX10 139 RX10 yX10_needPamphlet wsX10_needPamphlet) := goodIn_app (goodIn_of _ (by decide +kernel)) ggX10_pagesOf_X10_needPamphlet
set_option maxRecDepth 20000 in
theorem ggX10_pagesOf_X9_at : GoodIn wsX10_pagesOf wsX9_at := goodIn_r _ [18, 19, 20, 34, 35, 36, 37] (by decide +kernel) (by decide +kernel)
set_option maxRecDepth 20000 in
theorem gX10_pagesOf_X9_at : GoodIn wsX10_pagesOf (wsV RX10 128 RX9 yX9_at wsX9_at) := goodIn_app (goodIn_of _ (by decide +kernel)) ggX10_pagesOf_X9_at
set_option maxRecDepth 20000 in
theorem ggX10_pagesOf_X4_pageCount : GoodIn wsX10_pagesOf wsX4_pageCount := goodIn_r _ [25, 26, 38, 39, 40, 41, 42, 43, 44, 45] (by decide +kernel) (by decide +kernel)
set_option maxRecDepth 20000 in
theorem gX10_pagesOf_X4_pageCount : GoodIn wsX10_pagesOf (wsV RX10 149 RX4 yX4_pageCount wsX4_pageCount) := goodIn_app (goodIn_of _ (by decide +kernel)) ggX10_pagesOf_X4_pageCount
theorem dX10_pagesOf_0 : decode cX10_pagesOf 0 = .ok (.aload_n 0, 1) := by decide +kernel
theorem dX10_pagesOf_1 : decode cX10_pagesOf 1 = .ok (.iload_n 1, 1) := by decide +kernel
theorem dX10_pagesOf_2 : decode cX10_pagesOf 2 = .ok (.invokevirtual 139, 3) := by decide +kernel
theorem dX10_pagesOf_5 : decode cX10_pagesOf 5 = .ok (.aload_n 0, 1) := by decide +kernel
theorem dX10_pagesOf_6 : decode cX10_pagesOf 6 = .ok (.getfield 10, 3) := by decide +kernel
theorem dX10_pagesOf_9 : decode cX10_pagesOf 9 = .ok (.iload_n 1, 1) := by decide +kernel
theorem dX10_pagesOf_10 : decode cX10_pagesOf 10 = .ok (.invokevirtual 128, 3) := by decide +kernel
theorem dX10_pagesOf_13 : decode cX10_pagesOf 13 = .ok (.invokevirtual 149, 3) := by decide +kernel
theorem dX10_pagesOf_16 : decode cX10_pagesOf 16 = .ok (.ireturn, 1) := by decide +kernel
set_option maxRecDepth 20000 in
theorem ggX10_wordsOn_X10_needPamphlet : GoodIn wsX10_wordsOn wsX10_needPamphlet := goodIn_ca (goodIn_r _ [12, 1, 2, 3, 13, 14, 15, 16, 17, 18, 31, 32, 33, 34, 35, 36, 37, 46, 47, 48, 49] (by decide +kernel) (by decide +kernel)) (goodIn_sub (fun _ h => List.mem_cons_of_mem _ (List.mem_append_right _ h)) (by decide +kernel))
set_option maxRecDepth 20000 in
theorem gX10_wordsOn_X10_needPamphlet : GoodIn wsX10_wordsOn (wsV RX10 139 RX10 yX10_needPamphlet wsX10_needPamphlet) := goodIn_app (goodIn_of _ (by decide +kernel)) ggX10_wordsOn_X10_needPamphlet
set_option maxRecDepth 20000 in
theorem ggX10_wordsOn_X9_at : GoodIn wsX10_wordsOn wsX9_at := goodIn_r _ [22, 23, 24, 46, 47, 48, 49] (by decide +kernel) (by decide +kernel)
set_option maxRecDepth 20000 in
theorem gX10_wordsOn_X9_at : GoodIn wsX10_wordsOn (wsV RX10 128 RX9 yX9_at wsX9_at) := goodIn_app (goodIn_of _ (by decide +kernel)) ggX10_wordsOn_X9_at
set_option maxRecDepth 20000 in
theorem ggX10_wordsOn_X4_pageCount : GoodIn wsX10_wordsOn wsX4_pageCount := goodIn_r _ [29, 30, 38, 39, 40, 41, 42, 43, 44, 45] (by decide +kernel) (by decide +kernel)
set_option maxRecDepth 20000 in
theorem gX10_wordsOn_X4_pageCount : GoodIn wsX10_wordsOn (wsV RX10 149 RX4 yX4_pageCount wsX4_pageCount) := goodIn_app (goodIn_of _ (by decide +kernel)) ggX10_wordsOn_X4_pageCount
theorem dX10_wordsOn_0 : decode cX10_wordsOn 0 = .ok (.aload_n 0, 1) := by decide +kernel
theorem dX10_wordsOn_1 : decode cX10_wordsOn 1 = .ok (.iload_n 1, 1) := by decide +kernel
theorem dX10_wordsOn_2 : decode cX10_wordsOn 2 = .ok (.invokevirtual 139, 3) := by decide +kernel
theorem dX10_wordsOn_5 : decode cX10_wordsOn 5 = .ok (.aload_n 0, 1) := by decide +kernel
theorem dX10_wordsOn_6 : decode cX10_wordsOn 6 = .ok (.getfield 10, 3) := by decide +kernel
theorem dX10_wordsOn_9 : decode cX10_wordsOn 9 = .ok (.iload_n 1, 1) := by decide +kernel
theorem dX10_wordsOn_10 : decode cX10_wordsOn 10 = .ok (.invokevirtual 128, 3) := by decide +kernel
theorem dX10_wordsOn_13 : decode cX10_wordsOn 13 = .ok (.astore_n 3, 1) := by decide +kernel
theorem dX10_wordsOn_14 : decode cX10_wordsOn 14 = .ok (.iload_n 2, 1) := by decide +kernel
theorem dX10_wordsOn_15 : decode cX10_wordsOn 15 = .ok (.ifCond .lt 11, 3) := by decide +kernel
theorem dX10_wordsOn_18 : decode cX10_wordsOn 18 = .ok (.iload_n 2, 1) := by decide +kernel
theorem dX10_wordsOn_19 : decode cX10_wordsOn 19 = .ok (.aload_n 3, 1) := by decide +kernel
theorem dX10_wordsOn_20 : decode cX10_wordsOn 20 = .ok (.invokevirtual 149, 3) := by decide +kernel
theorem dX10_wordsOn_23 : decode cX10_wordsOn 23 = .ok (.if_icmp .lt 13, 3) := by decide +kernel
theorem dX10_wordsOn_26 : decode cX10_wordsOn 26 = .ok (.new 152, 3) := by decide +kernel
theorem dX10_wordsOn_29 : decode cX10_wordsOn 29 = .ok (.dup, 1) := by decide +kernel
theorem dX10_wordsOn_30 : decode cX10_wordsOn 30 = .ok (.ldc 154, 2) := by decide +kernel
theorem dX10_wordsOn_32 : decode cX10_wordsOn 32 = .ok (.invokespecial 156, 3) := by decide +kernel
theorem dX10_wordsOn_35 : decode cX10_wordsOn 35 = .ok (.athrow, 1) := by decide +kernel
theorem dX10_wordsOn_36 : decode cX10_wordsOn 36 = .ok (.bipush 8, 2) := by decide +kernel
theorem dX10_wordsOn_38 : decode cX10_wordsOn 38 = .ok (.aload_n 3, 1) := by decide +kernel
theorem dX10_wordsOn_39 : decode cX10_wordsOn 39 = .ok (.getfield 146, 3) := by decide +kernel
theorem dX10_wordsOn_42 : decode cX10_wordsOn 42 = .ok (.iload_n 2, 1) := by decide +kernel
theorem dX10_wordsOn_43 : decode cX10_wordsOn 43 = .ok (.bipush 8, 2) := by decide +kernel
theorem dX10_wordsOn_45 : decode cX10_wordsOn 45 = .ok (.imul, 1) := by decide +kernel
theorem dX10_wordsOn_46 : decode cX10_wordsOn 46 = .ok (.isub, 1) := by decide +kernel
theorem dX10_wordsOn_47 : decode cX10_wordsOn 47 = .ok (.invokestatic 157, 3) := by decide +kernel
theorem dX10_wordsOn_50 : decode cX10_wordsOn 50 = .ok (.ireturn, 1) := by decide +kernel
set_option maxRecDepth 20000 in
theorem ggX10_letterOf_X10_needWord : GoodIn wsX10_letterOf wsX10_needWord := goodIn_ca (goodIn_r _ [6, 7, 8, 1, 9, 10, 11, 5, 12, 13, 14, 15, 16, 17, 18, 19, 20, 21, 22, 23, 24, 37, 38, 39, 40, 41, 42, 43, 44, 45, 46, 47, 48, 49, 50, 51, 52, 53, 54, 55] (by decide +kernel) (by decide +kernel)) (goodIn_sub (fun _ h => List.mem_cons_of_mem _ (List.mem_append_right _ h)) (by decide +kernel))
set_option maxRecDepth 20000 in
theorem gX10_letterOf_X10_needWord : GoodIn wsX10_letterOf (wsV RX10 163 RX10 yX10_needWord wsX10_needWord) := goodIn_app (goodIn_of _ (by decide +kernel)) ggX10_letterOf_X10_needWord
set_option maxRecDepth 20000 in
theorem ggX10_letterOf_X10_needIndex : GoodIn wsX10_letterOf wsX10_needIndex := goodIn_ca (goodIn_r _ [27, 7, 8] (by decide +kernel) (by decide +kernel)) (goodIn_sub (fun _ h => List.mem_cons_of_mem _ (List.mem_append_right _ h)) (by decide +kernel))
set_option maxRecDepth 20000 in
theorem gX10_letterOf_X10_needIndex : GoodIn wsX10_letterOf (va_wsS RX10 166 yX10_needIndex wsX10_needIndex) := goodIn_app (goodIn_of _ (by decide +kernel)) ggX10_letterOf_X10_needIndex
set_option maxRecDepth 20000 in
theorem ggX10_letterOf_X9_at : GoodIn wsX10_letterOf wsX9_at := goodIn_r _ [22, 23, 24, 52, 53, 54, 55] (by decide +kernel) (by decide +kernel)
set_option maxRecDepth 20000 in
theorem gX10_letterOf_X9_at : GoodIn wsX10_letterOf (wsV RX10 128 RX9 yX9_at wsX9_at) := goodIn_app (goodIn_of _ (by decide +kernel)) ggX10_letterOf_X9_at
set_option maxRecDepth 20000 in
theorem ggX10_letterOf_X7_at : GoodIn wsX10_letterOf wsX7_at := goodIn_r _ [32, 33, 56] (by decide +kernel) (by decide +kernel)
set_option maxRecDepth 20000 in
theorem gX10_letterOf_X7_at : GoodIn wsX10_letterOf (wsV RX10 173 RX7 yX7_at wsX7_at) := goodIn_app (goodIn_of _ (by decide +kernel)) ggX10_letterOf_X7_at
set_option maxRecDepth 20000 in
theorem ggX10_letterOf_X10_letterIn : GoodIn wsX10_letterOf wsX10_letterIn := goodIn_r _ [36] (by decide +kernel) (by decide +kernel)
set_option maxRecDepth 20000 in
theorem gX10_letterOf_X10_letterIn : GoodIn wsX10_letterOf (va_wsS RX10 178 yX10_letterIn wsX10_letterIn) := goodIn_app (goodIn_of _ (by decide +kernel)) ggX10_letterOf_X10_letterIn
theorem dX10_letterOf_0 : decode cX10_letterOf 0 = .ok (.aload_n 0, 1) := by decide +kernel
theorem dX10_letterOf_1 : decode cX10_letterOf 1 = .ok (.iload_n 1, 1) := by decide +kernel
theorem dX10_letterOf_2 : decode cX10_letterOf 2 = .ok (.iload_n 2, 1) := by decide +kernel
theorem dX10_letterOf_3 : decode cX10_letterOf 3 = .ok (.invokevirtual 163, 3) := by decide +kernel
theorem dX10_letterOf_6 : decode cX10_letterOf 6 = .ok (.iload_n 3, 1) := by decide +kernel
theorem dX10_letterOf_7 : decode cX10_letterOf 7 = .ok (.invokestatic 166, 3) := by decide +kernel
theorem dX10_letterOf_10 : decode cX10_letterOf 10 = .ok (.aload_n 0, 1) := by decide +kernel
theorem dX10_letterOf_11 : decode cX10_letterOf 11 = .ok (.getfield 10, 3) := by decide +kernel
theorem dX10_letterOf_14 : decode cX10_letterOf 14 = .ok (.iload_n 1, 1) := by decide +kernel
theorem dX10_letterOf_15 : decode cX10_letterOf 15 = .ok (.invokevirtual 128, 3) := by decide +kernel
theorem dX10_letterOf_18 : decode cX10_letterOf 18 = .ok (.getfield 169, 3) := by decide +kernel
theorem dX10_letterOf_21 : decode cX10_letterOf 21 = .ok (.iload_n 2, 1) := by decide +kernel
theorem dX10_letterOf_22 : decode cX10_letterOf 22 = .ok (.invokevirtual 173, 3) := by decide +kernel
theorem dX10_letterOf_25 : decode cX10_letterOf 25 = .ok (.iload_n 3, 1) := by decide +kernel
theorem dX10_letterOf_26 : decode cX10_letterOf 26 = .ok (.invokestatic 178, 3) := by decide +kernel
theorem dX10_letterOf_29 : decode cX10_letterOf 29 = .ok (.ireturn, 1) := by decide +kernel
set_option maxRecDepth 20000 in
theorem ggX10_isSameWord_X10_needWord : GoodIn wsX10_isSameWord wsX10_needWord := goodIn_ca (goodIn_r _ [6, 7, 8, 1, 9, 10, 11, 5, 12, 13, 14, 15, 16, 17, 18, 19, 20, 21, 22, 23, 24, 31, 32, 33, 34, 35, 36, 37, 38, 39, 40, 41, 42, 43, 44, 45, 46, 47, 48, 49] (by decide +kernel) (by decide +kernel)) (goodIn_sub (fun _ h => List.mem_cons_of_mem _ (List.mem_append_right _ h)) (by decide +kernel))
set_option maxRecDepth 20000 in
theorem gX10_isSameWord_X10_needWord : GoodIn wsX10_isSameWord (wsV RX10 163 RX10 yX10_needWord wsX10_needWord) := goodIn_app (goodIn_of _ (by decide +kernel)) ggX10_isSameWord_X10_needWord
set_option maxRecDepth 20000 in
theorem ggX10_isSameWord_X9_at : GoodIn wsX10_isSameWord wsX9_at := goodIn_r _ [22, 23, 24, 46, 47, 48, 49] (by decide +kernel) (by decide +kernel)
set_option maxRecDepth 20000 in
theorem gX10_isSameWord_X9_at : GoodIn wsX10_isSameWord (wsV RX10 128 RX9 yX9_at wsX9_at) := goodIn_app (goodIn_of _ (by decide +kernel)) ggX10_isSameWord_X9_at
set_option maxRecDepth 20000 in
theorem ggX10_isSameWord_X7_at : GoodIn wsX10_isSameWord wsX7_at := goodIn_r _ [29, 30, 50] (by decide +kernel) (by decide +kernel)
set_option maxRecDepth 20000 in
theorem gX10_isSameWord_X7_at : GoodIn wsX10_isSameWord (wsV RX10 173 RX7 yX7_at wsX7_at) := goodIn_app (goodIn_of _ (by decide +kernel)) ggX10_isSameWord_X7_at
theorem dX10_isSameWord_0 : decode cX10_isSameWord 0 = .ok (.aload_n 0, 1) := by decide +kernel
theorem dX10_isSameWord_1 : decode cX10_isSameWord 1 = .ok (.iload_n 1, 1) := by decide +kernel
theorem dX10_isSameWord_2 : decode cX10_isSameWord 2 = .ok (.iload_n 2, 1) := by decide +kernel
theorem dX10_isSameWord_3 : decode cX10_isSameWord 3 = .ok (.invokevirtual 163, 3) := by decide +kernel
theorem dX10_isSameWord_6 : decode cX10_isSameWord 6 = .ok (.aload_n 0, 1) := by decide +kernel
theorem dX10_isSameWord_7 : decode cX10_isSameWord 7 = .ok (.iload_n 3, 1) := by decide +kernel
theorem dX10_isSameWord_8 : decode cX10_isSameWord 8 = .ok (.iload 4, 2) := by decide +kernel
theorem dX10_isSameWord_10 : decode cX10_isSameWord 10 = .ok (.invokevirtual 163, 3) := by decide +kernel
theorem dX10_isSameWord_13 : decode cX10_isSameWord 13 = .ok (.aload_n 0, 1) := by decide +kernel
theorem dX10_isSameWord_14 : decode cX10_isSameWord 14 = .ok (.getfield 10, 3) := by decide +kernel
theorem dX10_isSameWord_17 : decode cX10_isSameWord 17 = .ok (.iload_n 1, 1) := by decide +kernel
theorem dX10_isSameWord_18 : decode cX10_isSameWord 18 = .ok (.invokevirtual 128, 3) := by decide +kernel
theorem dX10_isSameWord_21 : decode cX10_isSameWord 21 = .ok (.getfield 169, 3) := by decide +kernel
theorem dX10_isSameWord_24 : decode cX10_isSameWord 24 = .ok (.iload_n 2, 1) := by decide +kernel
theorem dX10_isSameWord_25 : decode cX10_isSameWord 25 = .ok (.invokevirtual 173, 3) := by decide +kernel
theorem dX10_isSameWord_28 : decode cX10_isSameWord 28 = .ok (.aload_n 0, 1) := by decide +kernel
theorem dX10_isSameWord_29 : decode cX10_isSameWord 29 = .ok (.getfield 10, 3) := by decide +kernel
theorem dX10_isSameWord_32 : decode cX10_isSameWord 32 = .ok (.iload_n 3, 1) := by decide +kernel
theorem dX10_isSameWord_33 : decode cX10_isSameWord 33 = .ok (.invokevirtual 128, 3) := by decide +kernel
theorem dX10_isSameWord_36 : decode cX10_isSameWord 36 = .ok (.getfield 169, 3) := by decide +kernel
theorem dX10_isSameWord_39 : decode cX10_isSameWord 39 = .ok (.iload 4, 2) := by decide +kernel
theorem dX10_isSameWord_41 : decode cX10_isSameWord 41 = .ok (.invokevirtual 173, 3) := by decide +kernel
theorem dX10_isSameWord_44 : decode cX10_isSameWord 44 = .ok (.lcmp, 1) := by decide +kernel
theorem dX10_isSameWord_45 : decode cX10_isSameWord 45 = .ok (.ifCond .ne 7, 3) := by decide +kernel
theorem dX10_isSameWord_48 : decode cX10_isSameWord 48 = .ok (.iconst 1, 1) := by decide +kernel
theorem dX10_isSameWord_49 : decode cX10_isSameWord 49 = .ok (.goto 4, 3) := by decide +kernel
theorem dX10_isSameWord_52 : decode cX10_isSameWord 52 = .ok (.iconst 0, 1) := by decide +kernel
theorem dX10_isSameWord_53 : decode cX10_isSameWord 53 = .ok (.ireturn, 1) := by decide +kernel
set_option maxRecDepth 20000 in
theorem ggX10_whyNotPrinted_X6_read : GoodIn wsX10_whyNotPrinted wsX6_read := goodIn_r _ [8, 9, 10, 11, 12, 13, 14, 15, 16, 17, 18, 19, 20, 21, 22, 23, 24, 25, 26, 27, 7, 28, 29, 30, 31, 32, 33, 34, 35, 36, 37, 38, 39, 40, 41, 42, 43, 44, 45, 46, 47, 48, 49, 50, 51, 52, 53, 54, 55, 56, 57, 58, 59, 60, 61, 62, 63, 64, 65, 66, 67, 68, 69, 70, 71, 72, 73, 74, 112, 113, 114, 115, 116, 117, 118, 119, 120, 121, 122, 123, 124, 125, 126, 127] (by decide +kernel) (by decide +kernel)
set_option maxRecDepth 20000 in
theorem gX10_whyNotPrinted_X6_read : GoodIn wsX10_whyNotPrinted (wsV RX10 182 RX6 yX6_read wsX6_read) := goodIn_app (goodIn_of _ (by decide +kernel)) ggX10_whyNotPrinted_X6_read
set_option maxRecDepth 20000 in
theorem ggX10_whyNotPrinted_X6_isAtEndOfText : GoodIn wsX10_whyNotPrinted wsX6_isAtEndOfText := goodIn_r _ [78, 10, 11, 112, 113, 114, 115, 116, 117, 118] (by decide +kernel) (by decide +kernel)
set_option maxRecDepth 20000 in
theorem gX10_whyNotPrinted_X6_isAtEndOfText : GoodIn wsX10_whyNotPrinted (wsV RX10 186 RX6 yX6_isAtEndOfText wsX6_isAtEndOfText) := goodIn_app (goodIn_of _ (by decide +kernel)) ggX10_whyNotPrinted_X6_isAtEndOfText
set_option maxRecDepth 20000 in
theorem ggX10_whyNotPrinted_X9_hasSourcesOf : GoodIn wsX10_whyNotPrinted wsX9_hasSourcesOf := goodIn_r _ [83, 84, 20, 21, 22, 23, 24, 85, 86, 87, 82, 88, 89, 119, 120, 121, 122, 123, 124, 125, 126, 127, 108, 109, 110, 111] (by decide +kernel) (by decide +kernel)
set_option maxRecDepth 20000 in
theorem gX10_whyNotPrinted_X9_hasSourcesOf : GoodIn wsX10_whyNotPrinted (wsV RX10 190 RX9 yX9_hasSourcesOf wsX9_hasSourcesOf) := goodIn_app (goodIn_of _ (by decide +kernel)) ggX10_whyNotPrinted_X9_hasSourcesOf
set_option maxRecDepth 20000 in
theorem ggX10_whyNotPrinted_X9_isSourceOfToday : GoodIn wsX10_whyNotPrinted wsX9_isSourceOfToday := goodIn_r _ [93, 94, 84, 20, 21, 22, 23, 24, 95, 96, 97, 82, 98, 99, 100, 119, 120, 121, 122, 123, 124, 125, 126, 108, 109, 110, 111, 127] (by decide +kernel) (by decide +kernel)
set_option maxRecDepth 20000 in
theorem gX10_whyNotPrinted_X9_isSourceOfToday : GoodIn wsX10_whyNotPrinted (wsV RX10 194 RX9 yX9_isSourceOfToday wsX9_isSourceOfToday) := goodIn_app (goodIn_of _ (by decide +kernel)) ggX10_whyNotPrinted_X9_isSourceOfToday
theorem dX10_whyNotPrinted_0 : decode cX10_whyNotPrinted 0 = .ok (.aload_n 0, 1) := by decide +kernel
theorem dX10_whyNotPrinted_1 : decode cX10_whyNotPrinted 1 = .ok (.getfield 10, 3) := by decide +kernel
theorem dX10_whyNotPrinted_4 : decode cX10_whyNotPrinted 4 = .ok (.getfield 94, 3) := by decide +kernel
theorem dX10_whyNotPrinted_7 : decode cX10_whyNotPrinted 7 = .ok (.bipush 20, 2) := by decide +kernel
theorem dX10_whyNotPrinted_9 : decode cX10_whyNotPrinted 9 = .ok (.if_icmp .lt 5, 3) := by decide +kernel
theorem dX10_whyNotPrinted_12 : decode cX10_whyNotPrinted 12 = .ok (.iconst 1, 1) := by decide +kernel
theorem dX10_whyNotPrinted_13 : decode cX10_whyNotPrinted 13 = .ok (.ireturn, 1) := by decide +kernel
theorem dX10_whyNotPrinted_14 : decode cX10_whyNotPrinted 14 = .ok (.aload_n 0, 1) := by decide +kernel
theorem dX10_whyNotPrinted_15 : decode cX10_whyNotPrinted 15 = .ok (.getfield 33, 3) := by decide +kernel
theorem dX10_whyNotPrinted_18 : decode cX10_whyNotPrinted 18 = .ok (.aload_n 0, 1) := by decide +kernel
theorem dX10_whyNotPrinted_19 : decode cX10_whyNotPrinted 19 = .ok (.getfield 26, 3) := by decide +kernel
theorem dX10_whyNotPrinted_22 : decode cX10_whyNotPrinted 22 = .ok (.invokevirtual 182, 3) := by decide +kernel
theorem dX10_whyNotPrinted_25 : decode cX10_whyNotPrinted 25 = .ok (.aload_n 0, 1) := by decide +kernel
theorem dX10_whyNotPrinted_26 : decode cX10_whyNotPrinted 26 = .ok (.getfield 33, 3) := by decide +kernel
theorem dX10_whyNotPrinted_29 : decode cX10_whyNotPrinted 29 = .ok (.aload_n 0, 1) := by decide +kernel
theorem dX10_whyNotPrinted_30 : decode cX10_whyNotPrinted 30 = .ok (.getfield 26, 3) := by decide +kernel
theorem dX10_whyNotPrinted_33 : decode cX10_whyNotPrinted 33 = .ok (.invokevirtual 186, 3) := by decide +kernel
theorem dX10_whyNotPrinted_36 : decode cX10_whyNotPrinted 36 = .ok (.ifCond .ne 5, 3) := by decide +kernel
theorem dX10_whyNotPrinted_39 : decode cX10_whyNotPrinted 39 = .ok (.iconst 2, 1) := by decide +kernel
theorem dX10_whyNotPrinted_40 : decode cX10_whyNotPrinted 40 = .ok (.ireturn, 1) := by decide +kernel
theorem dX10_whyNotPrinted_41 : decode cX10_whyNotPrinted 41 = .ok (.aload_n 0, 1) := by decide +kernel
theorem dX10_whyNotPrinted_42 : decode cX10_whyNotPrinted 42 = .ok (.getfield 10, 3) := by decide +kernel
theorem dX10_whyNotPrinted_45 : decode cX10_whyNotPrinted 45 = .ok (.aload_n 0, 1) := by decide +kernel
theorem dX10_whyNotPrinted_46 : decode cX10_whyNotPrinted 46 = .ok (.getfield 33, 3) := by decide +kernel
theorem dX10_whyNotPrinted_49 : decode cX10_whyNotPrinted 49 = .ok (.getfield 82, 3) := by decide +kernel
theorem dX10_whyNotPrinted_52 : decode cX10_whyNotPrinted 52 = .ok (.invokevirtual 190, 3) := by decide +kernel
theorem dX10_whyNotPrinted_55 : decode cX10_whyNotPrinted 55 = .ok (.ifCond .ne 5, 3) := by decide +kernel
theorem dX10_whyNotPrinted_58 : decode cX10_whyNotPrinted 58 = .ok (.iconst 3, 1) := by decide +kernel
theorem dX10_whyNotPrinted_59 : decode cX10_whyNotPrinted 59 = .ok (.ireturn, 1) := by decide +kernel
theorem dX10_whyNotPrinted_60 : decode cX10_whyNotPrinted 60 = .ok (.aload_n 0, 1) := by decide +kernel
theorem dX10_whyNotPrinted_61 : decode cX10_whyNotPrinted 61 = .ok (.getfield 10, 3) := by decide +kernel
theorem dX10_whyNotPrinted_64 : decode cX10_whyNotPrinted 64 = .ok (.aload_n 0, 1) := by decide +kernel
theorem dX10_whyNotPrinted_65 : decode cX10_whyNotPrinted 65 = .ok (.getfield 33, 3) := by decide +kernel
theorem dX10_whyNotPrinted_68 : decode cX10_whyNotPrinted 68 = .ok (.getfield 82, 3) := by decide +kernel
theorem dX10_whyNotPrinted_71 : decode cX10_whyNotPrinted 71 = .ok (.invokevirtual 194, 3) := by decide +kernel
theorem dX10_whyNotPrinted_74 : decode cX10_whyNotPrinted 74 = .ok (.ifCond .eq 7, 3) := by decide +kernel
theorem dX10_whyNotPrinted_77 : decode cX10_whyNotPrinted 77 = .ok (.iconst 4, 1) := by decide +kernel
theorem dX10_whyNotPrinted_78 : decode cX10_whyNotPrinted 78 = .ok (.goto 4, 3) := by decide +kernel
theorem dX10_whyNotPrinted_81 : decode cX10_whyNotPrinted 81 = .ok (.iconst 0, 1) := by decide +kernel
theorem dX10_whyNotPrinted_82 : decode cX10_whyNotPrinted 82 = .ok (.ireturn, 1) := by decide +kernel
set_option maxRecDepth 20000 in
theorem ggX10_quotationsOf_X10_needPamphlet : GoodIn wsX10_quotationsOf wsX10_needPamphlet := goodIn_ca (goodIn_r _ [6, 7, 8, 1, 9, 10, 11, 12, 13, 14, 21, 22, 23, 24, 25, 26, 27, 36, 37, 38, 39] (by decide +kernel) (by decide +kernel)) (goodIn_sub (fun _ h => List.mem_cons_of_mem _ (List.mem_append_right _ h)) (by decide +kernel))
set_option maxRecDepth 20000 in
theorem gX10_quotationsOf_X10_needPamphlet : GoodIn wsX10_quotationsOf (wsV RX10 139 RX10 yX10_needPamphlet wsX10_needPamphlet) := goodIn_app (goodIn_of _ (by decide +kernel)) ggX10_quotationsOf_X10_needPamphlet
set_option maxRecDepth 20000 in
theorem ggX10_quotationsOf_X9_at : GoodIn wsX10_quotationsOf wsX9_at := goodIn_r _ [18, 19, 20, 36, 37, 38, 39] (by decide +kernel) (by decide +kernel)
set_option maxRecDepth 20000 in
theorem gX10_quotationsOf_X9_at : GoodIn wsX10_quotationsOf (wsV RX10 128 RX9 yX9_at wsX9_at) := goodIn_app (goodIn_of _ (by decide +kernel)) ggX10_quotationsOf_X9_at
theorem dX10_quotationsOf_0 : decode cX10_quotationsOf 0 = .ok (.aload_n 0, 1) := by decide +kernel
theorem dX10_quotationsOf_1 : decode cX10_quotationsOf 1 = .ok (.iload_n 1, 1) := by decide +kernel
theorem dX10_quotationsOf_2 : decode cX10_quotationsOf 2 = .ok (.invokevirtual 139, 3) := by decide +kernel
theorem dX10_quotationsOf_5 : decode cX10_quotationsOf 5 = .ok (.aload_n 0, 1) := by decide +kernel
theorem dX10_quotationsOf_6 : decode cX10_quotationsOf 6 = .ok (.getfield 10, 3) := by decide +kernel
theorem dX10_quotationsOf_9 : decode cX10_quotationsOf 9 = .ok (.iload_n 1, 1) := by decide +kernel
theorem dX10_quotationsOf_10 : decode cX10_quotationsOf 10 = .ok (.invokevirtual 128, 3) := by decide +kernel
theorem dX10_quotationsOf_13 : decode cX10_quotationsOf 13 = .ok (.getfield 197, 3) := by decide +kernel
theorem dX10_quotationsOf_16 : decode cX10_quotationsOf 16 = .ok (.ireturn, 1) := by decide +kernel
set_option maxRecDepth 20000 in
theorem ggX10_sourceOf_X10_needQuotation : GoodIn wsX10_sourceOf wsX10_needQuotation := goodIn_ca (goodIn_r _ [6, 7, 8, 1, 9, 10, 11, 5, 12, 13, 14, 15, 16, 17, 18, 19, 20, 21, 22, 23, 24, 31, 32, 33, 34, 35, 36, 37, 38, 39, 40, 41, 42, 43, 44, 45, 46, 47, 48, 49] (by decide +kernel) (by decide +kernel)) (goodIn_sub (fun _ h => List.mem_cons_of_mem _ (List.mem_append_right _ h)) (by decide +kernel))
set_option maxRecDepth 20000 in
theorem gX10_sourceOf_X10_needQuotation : GoodIn wsX10_sourceOf (wsV RX10 102 RX10 yX10_needQuotation wsX10_needQuotation) := goodIn_app (goodIn_of _ (by decide +kernel)) ggX10_sourceOf_X10_needQuotation
set_option maxRecDepth 20000 in
theorem ggX10_sourceOf_X9_at : GoodIn wsX10_sourceOf wsX9_at := goodIn_r _ [22, 23, 24, 46, 47, 48, 49] (by decide +kernel) (by decide +kernel)
set_option maxRecDepth 20000 in
theorem gX10_sourceOf_X9_at : GoodIn wsX10_sourceOf (wsV RX10 128 RX9 yX9_at wsX9_at) := goodIn_app (goodIn_of _ (by decide +kernel)) ggX10_sourceOf_X9_at
set_option maxRecDepth 20000 in
theorem ggX10_sourceOf_X7_number : GoodIn wsX10_sourceOf wsX7_number := goodIn_r _ [29, 30, 50] (by decide +kernel) (by decide +kernel)
set_option maxRecDepth 20000 in
theorem gX10_sourceOf_X7_number : GoodIn wsX10_sourceOf (wsV RX10 203 RX7 yX7_number wsX7_number) := goodIn_app (goodIn_of _ (by decide +kernel)) ggX10_sourceOf_X7_number
theorem dX10_sourceOf_0 : decode cX10_sourceOf 0 = .ok (.aload_n 0, 1) := by decide +kernel
theorem dX10_sourceOf_1 : decode cX10_sourceOf 1 = .ok (.iload_n 1, 1) := by decide +kernel
theorem dX10_sourceOf_2 : decode cX10_sourceOf 2 = .ok (.iload_n 2, 1) := by decide +kernel
theorem dX10_sourceOf_3 : decode cX10_sourceOf 3 = .ok (.invokevirtual 102, 3) := by decide +kernel
theorem dX10_sourceOf_6 : decode cX10_sourceOf 6 = .ok (.aload_n 0, 1) := by decide +kernel
theorem dX10_sourceOf_7 : decode cX10_sourceOf 7 = .ok (.getfield 10, 3) := by decide +kernel
theorem dX10_sourceOf_10 : decode cX10_sourceOf 10 = .ok (.iload_n 1, 1) := by decide +kernel
theorem dX10_sourceOf_11 : decode cX10_sourceOf 11 = .ok (.invokevirtual 128, 3) := by decide +kernel
theorem dX10_sourceOf_14 : decode cX10_sourceOf 14 = .ok (.getfield 200, 3) := by decide +kernel
theorem dX10_sourceOf_17 : decode cX10_sourceOf 17 = .ok (.iload_n 2, 1) := by decide +kernel
theorem dX10_sourceOf_18 : decode cX10_sourceOf 18 = .ok (.invokevirtual 203, 3) := by decide +kernel
theorem dX10_sourceOf_21 : decode cX10_sourceOf 21 = .ok (.ireturn, 1) := by decide +kernel
set_option maxRecDepth 20000 in
theorem ggX10_beginOf_X10_needQuotation : GoodIn wsX10_beginOf wsX10_needQuotation := goodIn_ca (goodIn_r _ [6, 7, 8, 1, 9, 10, 11, 5, 12, 13, 14, 15, 16, 17, 18, 19, 20, 21, 22, 23, 24, 31, 32, 33, 34, 35, 36, 37, 38, 39, 40, 41, 42, 43, 44, 45, 46, 47, 48, 49] (by decide +kernel) (by decide +kernel)) (goodIn_sub (fun _ h => List.mem_cons_of_mem _ (List.mem_append_right _ h)) (by decide +kernel))
set_option maxRecDepth 20000 in
theorem gX10_beginOf_X10_needQuotation : GoodIn wsX10_beginOf (wsV RX10 102 RX10 yX10_needQuotation wsX10_needQuotation) := goodIn_app (goodIn_of _ (by decide +kernel)) ggX10_beginOf_X10_needQuotation
set_option maxRecDepth 20000 in
theorem ggX10_beginOf_X9_at : GoodIn wsX10_beginOf wsX9_at := goodIn_r _ [22, 23, 24, 46, 47, 48, 49] (by decide +kernel) (by decide +kernel)
set_option maxRecDepth 20000 in
theorem gX10_beginOf_X9_at : GoodIn wsX10_beginOf (wsV RX10 128 RX9 yX9_at wsX9_at) := goodIn_app (goodIn_of _ (by decide +kernel)) ggX10_beginOf_X9_at
set_option maxRecDepth 20000 in
theorem ggX10_beginOf_X7_number : GoodIn wsX10_beginOf wsX7_number := goodIn_r _ [29, 30, 50] (by decide +kernel) (by decide +kernel)
set_option maxRecDepth 20000 in
theorem gX10_beginOf_X7_number : GoodIn wsX10_beginOf (wsV RX10 203 RX7 yX7_number wsX7_number) := goodIn_app (goodIn_of _ (by decide +kernel)) ggX10_beginOf_X7_number
theorem dX10_beginOf_0 : decode cX10_beginOf 0 = .ok (.aload_n 0, 1) := by decide +kernel
theorem dX10_beginOf_1 : decode cX10_beginOf 1 = .ok (.iload_n 1, 1) := by decide +kernel
theorem dX10_beginOf_2 : decode cX10_beginOf 2 = .ok (.iload_n 2, 1) := by decide +kernel
theorem dX10_beginOf_3 : decode cX10_beginOf 3 = .ok (.invokevirtual 102, 3) := by decide +kernel
theorem dX10_beginOf_6 : decode cX10_beginOf 6 = .ok (.aload_n 0, 1) := by decide +kernel
theorem dX10_beginOf_7 : decode cX10_beginOf 7 = .ok (.getfield 10, 3) := by decide +kernel
theorem dX10_beginOf_10 : decode cX10_beginOf 10 = .ok (.iload_n 1, 1) := by decide +kernel
theorem dX10_beginOf_11 : decode cX10_beginOf 11 = .ok (.invokevirtual 128, 3) := by decide +kernel
theorem dX10_beginOf_14 : decode cX10_beginOf 14 = .ok (.getfield 207, 3) := by decide +kernel
theorem dX10_beginOf_17 : decode cX10_beginOf 17 = .ok (.iload_n 2, 1) := by decide +kernel
theorem dX10_beginOf_18 : decode cX10_beginOf 18 = .ok (.invokevirtual 203, 3) := by decide +kernel
theorem dX10_beginOf_21 : decode cX10_beginOf 21 = .ok (.ireturn, 1) := by decide +kernel
set_option maxRecDepth 20000 in
theorem ggX10_lengthOf_X10_needQuotation : GoodIn wsX10_lengthOf wsX10_needQuotation := goodIn_ca (goodIn_r _ [6, 7, 8, 1, 9, 10, 11, 5, 12, 13, 14, 15, 16, 17, 18, 19, 20, 21, 22, 23, 24, 31, 32, 33, 34, 35, 36, 37, 38, 39, 40, 41, 42, 43, 44, 45, 46, 47, 48, 49] (by decide +kernel) (by decide +kernel)) (goodIn_sub (fun _ h => List.mem_cons_of_mem _ (List.mem_append_right _ h)) (by decide +kernel))
set_option maxRecDepth 20000 in
theorem gX10_lengthOf_X10_needQuotation : GoodIn wsX10_lengthOf (wsV RX10 102 RX10 yX10_needQuotation wsX10_needQuotation) := goodIn_app (goodIn_of _ (by decide +kernel)) ggX10_lengthOf_X10_needQuotation
set_option maxRecDepth 20000 in
theorem ggX10_lengthOf_X9_at : GoodIn wsX10_lengthOf wsX9_at := goodIn_r _ [22, 23, 24, 46, 47, 48, 49] (by decide +kernel) (by decide +kernel)
set_option maxRecDepth 20000 in
theorem gX10_lengthOf_X9_at : GoodIn wsX10_lengthOf (wsV RX10 128 RX9 yX9_at wsX9_at) := goodIn_app (goodIn_of _ (by decide +kernel)) ggX10_lengthOf_X9_at
set_option maxRecDepth 20000 in
theorem ggX10_lengthOf_X7_number : GoodIn wsX10_lengthOf wsX7_number := goodIn_r _ [29, 30, 50] (by decide +kernel) (by decide +kernel)
set_option maxRecDepth 20000 in
theorem gX10_lengthOf_X7_number : GoodIn wsX10_lengthOf (wsV RX10 203 RX7 yX7_number wsX7_number) := goodIn_app (goodIn_of _ (by decide +kernel)) ggX10_lengthOf_X7_number
theorem dX10_lengthOf_0 : decode cX10_lengthOf 0 = .ok (.aload_n 0, 1) := by decide +kernel
theorem dX10_lengthOf_1 : decode cX10_lengthOf 1 = .ok (.iload_n 1, 1) := by decide +kernel
theorem dX10_lengthOf_2 : decode cX10_lengthOf 2 = .ok (.iload_n 2, 1) := by decide +kernel
theorem dX10_lengthOf_3 : decode cX10_lengthOf 3 = .ok (.invokevirtual 102, 3) := by decide +kernel
theorem dX10_lengthOf_6 : decode cX10_lengthOf 6 = .ok (.aload_n 0, 1) := by decide +kernel
theorem dX10_lengthOf_7 : decode cX10_lengthOf 7 = .ok (.getfield 10, 3) := by decide +kernel
theorem dX10_lengthOf_10 : decode cX10_lengthOf 10 = .ok (.iload_n 1, 1) := by decide +kernel
theorem dX10_lengthOf_11 : decode cX10_lengthOf 11 = .ok (.invokevirtual 128, 3) := by decide +kernel
theorem dX10_lengthOf_14 : decode cX10_lengthOf 14 = .ok (.getfield 210, 3) := by decide +kernel
theorem dX10_lengthOf_17 : decode cX10_lengthOf 17 = .ok (.iload_n 2, 1) := by decide +kernel
theorem dX10_lengthOf_18 : decode cX10_lengthOf 18 = .ok (.invokevirtual 203, 3) := by decide +kernel
theorem dX10_lengthOf_21 : decode cX10_lengthOf 21 = .ok (.ireturn, 1) := by decide +kernel
set_option maxRecDepth 20000 in
theorem ggX10_changesByTable_X10_needQuotation : GoodIn wsX10_changesByTable wsX10_needQuotation := goodIn_ca (goodIn_r _ [7, 8, 9, 2, 10, 11, 12, 6, 13, 14, 15, 16, 17, 18, 19, 20, 21, 22, 23, 24, 25, 69, 70, 71, 72, 73, 74, 75, 76, 77, 78, 79, 80, 81, 82, 83, 84, 85, 86, 87] (by decide +kernel) (by decide +kernel)) (goodIn_sub (fun _ h => List.mem_cons_of_mem _ (List.mem_append_right _ h)) (by decide +kernel))
set_option maxRecDepth 20000 in
theorem gX10_changesByTable_X10_needQuotation : GoodIn wsX10_changesByTable (wsV RX10 102 RX10 yX10_needQuotation wsX10_needQuotation) := goodIn_app (goodIn_of _ (by decide +kernel)) ggX10_changesByTable_X10_needQuotation
set_option maxRecDepth 20000 in
theorem ggX10_changesByTable_X5_find : GoodIn wsX10_changesByTable wsX5_find := goodIn_r _ [30, 31, 32, 21, 22, 17, 23, 24, 25, 33, 34, 35, 36, 37, 38, 39, 40, 41, 42, 43, 44, 45, 46, 47, 48, 49, 50, 51, 52, 53, 54, 55, 56, 57, 58, 59, 60, 61, 62, 63, 64, 65, 66, 67, 68, 88, 89, 90, 76, 77, 78, 79, 80, 81, 82, 83, 91, 92, 93, 94, 84, 85, 86, 87, 95] (by decide +kernel) (by decide +kernel)
set_option maxRecDepth 20000 in
theorem gX10_changesByTable_X5_find : GoodIn wsX10_changesByTable (wsV RX10 106 RX5 yX5_find wsX5_find) := goodIn_app (goodIn_of _ (by decide +kernel)) ggX10_changesByTable_X5_find
theorem dX10_changesByTable_0 : decode cX10_changesByTable 0 = .ok (.aload_n 0, 1) := by decide +kernel
theorem dX10_changesByTable_1 : decode cX10_changesByTable 1 = .ok (.iload_n 1, 1) := by decide +kernel
theorem dX10_changesByTable_2 : decode cX10_changesByTable 2 = .ok (.iload_n 2, 1) := by decide +kernel
theorem dX10_changesByTable_3 : decode cX10_changesByTable 3 = .ok (.invokevirtual 102, 3) := by decide +kernel
theorem dX10_changesByTable_6 : decode cX10_changesByTable 6 = .ok (.aload_n 0, 1) := by decide +kernel
theorem dX10_changesByTable_7 : decode cX10_changesByTable 7 = .ok (.getfield 40, 3) := by decide +kernel
theorem dX10_changesByTable_10 : decode cX10_changesByTable 10 = .ok (.aload_n 0, 1) := by decide +kernel
theorem dX10_changesByTable_11 : decode cX10_changesByTable 11 = .ok (.getfield 10, 3) := by decide +kernel
theorem dX10_changesByTable_14 : decode cX10_changesByTable 14 = .ok (.iload_n 1, 1) := by decide +kernel
theorem dX10_changesByTable_15 : decode cX10_changesByTable 15 = .ok (.iload_n 2, 1) := by decide +kernel
theorem dX10_changesByTable_16 : decode cX10_changesByTable 16 = .ok (.invokevirtual 106, 3) := by decide +kernel
theorem dX10_changesByTable_19 : decode cX10_changesByTable 19 = .ok (.ireturn, 1) := by decide +kernel
set_option maxRecDepth 20000 in
theorem ggX10_changesByPassages_X10_needQuotation : GoodIn wsX10_changesByPassages wsX10_needQuotation := goodIn_ca (goodIn_r _ [7, 8, 9, 2, 10, 11, 12, 6, 13, 14, 15, 16, 17, 18, 19, 20, 21, 22, 23, 24, 25, 66, 67, 68, 69, 70, 71, 72, 73, 74, 75, 76, 77, 78, 79, 80, 81, 82, 83, 84] (by decide +kernel) (by decide +kernel)) (goodIn_sub (fun _ h => List.mem_cons_of_mem _ (List.mem_append_right _ h)) (by decide +kernel))
set_option maxRecDepth 20000 in
theorem gX10_changesByPassages_X10_needQuotation : GoodIn wsX10_changesByPassages (wsV RX10 102 RX10 yX10_needQuotation wsX10_needQuotation) := goodIn_app (goodIn_of _ (by decide +kernel)) ggX10_changesByPassages_X10_needQuotation
set_option maxRecDepth 20000 in
theorem ggX10_changesByPassages_X5_findByPassages : GoodIn wsX10_changesByPassages wsX5_findByPassages := goodIn_r _ [30, 31, 32, 21, 22, 17, 23, 24, 25, 33, 34, 35, 36, 37, 38, 39, 40, 41, 42, 43, 44, 45, 46, 47, 48, 49, 50, 51, 52, 53, 54, 55, 56, 57, 58, 59, 60, 61, 62, 63, 64, 65, 73, 74, 75, 76, 77, 78, 79, 80, 85, 86, 87, 81, 82, 83, 84, 88, 89, 90, 91, 92] (by decide +kernel) (by decide +kernel)
set_option maxRecDepth 20000 in
theorem gX10_changesByPassages_X5_findByPassages : GoodIn wsX10_changesByPassages (wsV RX10 213 RX5 yX5_findByPassages wsX5_findByPassages) := goodIn_app (goodIn_of _ (by decide +kernel)) ggX10_changesByPassages_X5_findByPassages
theorem dX10_changesByPassages_0 : decode cX10_changesByPassages 0 = .ok (.aload_n 0, 1) := by decide +kernel
theorem dX10_changesByPassages_1 : decode cX10_changesByPassages 1 = .ok (.iload_n 1, 1) := by decide +kernel
theorem dX10_changesByPassages_2 : decode cX10_changesByPassages 2 = .ok (.iload_n 2, 1) := by decide +kernel
theorem dX10_changesByPassages_3 : decode cX10_changesByPassages 3 = .ok (.invokevirtual 102, 3) := by decide +kernel
theorem dX10_changesByPassages_6 : decode cX10_changesByPassages 6 = .ok (.aload_n 0, 1) := by decide +kernel
theorem dX10_changesByPassages_7 : decode cX10_changesByPassages 7 = .ok (.getfield 40, 3) := by decide +kernel
theorem dX10_changesByPassages_10 : decode cX10_changesByPassages 10 = .ok (.aload_n 0, 1) := by decide +kernel
theorem dX10_changesByPassages_11 : decode cX10_changesByPassages 11 = .ok (.getfield 10, 3) := by decide +kernel
theorem dX10_changesByPassages_14 : decode cX10_changesByPassages 14 = .ok (.iload_n 1, 1) := by decide +kernel
theorem dX10_changesByPassages_15 : decode cX10_changesByPassages 15 = .ok (.iload_n 2, 1) := by decide +kernel
theorem dX10_changesByPassages_16 : decode cX10_changesByPassages 16 = .ok (.invokevirtual 213, 3) := by decide +kernel
theorem dX10_changesByPassages_19 : decode cX10_changesByPassages 19 = .ok (.ireturn, 1) := by decide +kernel
set_option maxRecDepth 20000 in
theorem ggX10_passageOf_X10_needQuotation : GoodIn wsX10_passageOf wsX10_needQuotation := goodIn_ca (goodIn_r _ [7, 8, 9, 2, 10, 11, 12, 6, 13, 14, 15, 16, 17, 18, 19, 20, 21, 22, 23, 24, 25, 69, 70, 71, 72, 73, 74, 75, 83, 84, 85, 86, 87, 88, 89, 90, 91, 92, 93, 94] (by decide +kernel) (by decide +kernel)) (goodIn_sub (fun _ h => List.mem_cons_of_mem _ (List.mem_append_right _ h)) (by decide +kernel))
set_option maxRecDepth 20000 in
theorem gX10_passageOf_X10_needQuotation : GoodIn wsX10_passageOf (wsV RX10 102 RX10 yX10_needQuotation wsX10_needQuotation) := goodIn_app (goodIn_of _ (by decide +kernel)) ggX10_passageOf_X10_needQuotation
set_option maxRecDepth 20000 in
theorem ggX10_passageOf_X5_find : GoodIn wsX10_passageOf wsX5_find := goodIn_r _ [30, 31, 32, 21, 22, 17, 23, 24, 25, 33, 34, 35, 36, 37, 38, 39, 40, 41, 42, 43, 44, 45, 46, 47, 48, 49, 50, 51, 52, 53, 54, 55, 56, 57, 58, 59, 60, 61, 62, 63, 64, 65, 66, 67, 68, 76, 77, 78, 83, 84, 85, 86, 87, 88, 89, 90, 79, 80, 81, 82, 91, 92, 93, 94, 95] (by decide +kernel) (by decide +kernel)
set_option maxRecDepth 20000 in
theorem gX10_passageOf_X5_find : GoodIn wsX10_passageOf (wsV RX10 106 RX5 yX5_find wsX5_find) := goodIn_app (goodIn_of _ (by decide +kernel)) ggX10_passageOf_X5_find
theorem dX10_passageOf_0 : decode cX10_passageOf 0 = .ok (.aload_n 0, 1) := by decide +kernel
theorem dX10_passageOf_1 : decode cX10_passageOf 1 = .ok (.iload_n 1, 1) := by decide +kernel
theorem dX10_passageOf_2 : decode cX10_passageOf 2 = .ok (.iload_n 2, 1) := by decide +kernel
theorem dX10_passageOf_3 : decode cX10_passageOf 3 = .ok (.invokevirtual 102, 3) := by decide +kernel
theorem dX10_passageOf_6 : decode cX10_passageOf 6 = .ok (.aload_n 0, 1) := by decide +kernel
theorem dX10_passageOf_7 : decode cX10_passageOf 7 = .ok (.getfield 40, 3) := by decide +kernel
theorem dX10_passageOf_10 : decode cX10_passageOf 10 = .ok (.aload_n 0, 1) := by decide +kernel
theorem dX10_passageOf_11 : decode cX10_passageOf 11 = .ok (.getfield 10, 3) := by decide +kernel
theorem dX10_passageOf_14 : decode cX10_passageOf 14 = .ok (.iload_n 1, 1) := by decide +kernel
theorem dX10_passageOf_15 : decode cX10_passageOf 15 = .ok (.iload_n 2, 1) := by decide +kernel
theorem dX10_passageOf_16 : decode cX10_passageOf 16 = .ok (.invokevirtual 106, 3) := by decide +kernel
theorem dX10_passageOf_19 : decode cX10_passageOf 19 = .ok (.pop, 1) := by decide +kernel
theorem dX10_passageOf_20 : decode cX10_passageOf 20 = .ok (.aload_n 0, 1) := by decide +kernel
theorem dX10_passageOf_21 : decode cX10_passageOf 21 = .ok (.getfield 40, 3) := by decide +kernel
theorem dX10_passageOf_24 : decode cX10_passageOf 24 = .ok (.getfield 216, 3) := by decide +kernel
theorem dX10_passageOf_27 : decode cX10_passageOf 27 = .ok (.getfield 220, 3) := by decide +kernel
theorem dX10_passageOf_30 : decode cX10_passageOf 30 = .ok (.ireturn, 1) := by decide +kernel
set_option maxRecDepth 20000 in
theorem ggX10_passageLength_X10_needQuotation : GoodIn wsX10_passageLength wsX10_needQuotation := goodIn_ca (goodIn_r _ [7, 8, 9, 2, 10, 11, 12, 6, 13, 14, 15, 16, 17, 18, 19, 20, 21, 22, 23, 24, 25, 69, 70, 71, 72, 73, 74, 75, 83, 84, 85, 86, 87, 88, 89, 90, 91, 92, 93, 94] (by decide +kernel) (by decide +kernel)) (goodIn_sub (fun _ h => List.mem_cons_of_mem _ (List.mem_append_right _ h)) (by decide +kernel))
set_option maxRecDepth 20000 in
theorem gX10_passageLength_X10_needQuotation : GoodIn wsX10_passageLength (wsV RX10 102 RX10 yX10_needQuotation wsX10_needQuotation) := goodIn_app (goodIn_of _ (by decide +kernel)) ggX10_passageLength_X10_needQuotation
set_option maxRecDepth 20000 in
theorem ggX10_passageLength_X5_find : GoodIn wsX10_passageLength wsX5_find := goodIn_r _ [30, 31, 32, 21, 22, 17, 23, 24, 25, 33, 34, 35, 36, 37, 38, 39, 40, 41, 42, 43, 44, 45, 46, 47, 48, 49, 50, 51, 52, 53, 54, 55, 56, 57, 58, 59, 60, 61, 62, 63, 64, 65, 66, 67, 68, 76, 77, 78, 83, 84, 85, 86, 87, 88, 89, 90, 79, 80, 81, 82, 91, 92, 93, 94, 95] (by decide +kernel) (by decide +kernel)
set_option maxRecDepth 20000 in
theorem gX10_passageLength_X5_find : GoodIn wsX10_passageLength (wsV RX10 106 RX5 yX5_find wsX5_find) := goodIn_app (goodIn_of _ (by decide +kernel)) ggX10_passageLength_X5_find
theorem dX10_passageLength_0 : decode cX10_passageLength 0 = .ok (.aload_n 0, 1) := by decide +kernel
theorem dX10_passageLength_1 : decode cX10_passageLength 1 = .ok (.iload_n 1, 1) := by decide +kernel
theorem dX10_passageLength_2 : decode cX10_passageLength 2 = .ok (.iload_n 2, 1) := by decide +kernel
theorem dX10_passageLength_3 : decode cX10_passageLength 3 = .ok (.invokevirtual 102, 3) := by decide +kernel
theorem dX10_passageLength_6 : decode cX10_passageLength 6 = .ok (.aload_n 0, 1) := by decide +kernel
theorem dX10_passageLength_7 : decode cX10_passageLength 7 = .ok (.getfield 40, 3) := by decide +kernel
theorem dX10_passageLength_10 : decode cX10_passageLength 10 = .ok (.aload_n 0, 1) := by decide +kernel
theorem dX10_passageLength_11 : decode cX10_passageLength 11 = .ok (.getfield 10, 3) := by decide +kernel
theorem dX10_passageLength_14 : decode cX10_passageLength 14 = .ok (.iload_n 1, 1) := by decide +kernel
theorem dX10_passageLength_15 : decode cX10_passageLength 15 = .ok (.iload_n 2, 1) := by decide +kernel
theorem dX10_passageLength_16 : decode cX10_passageLength 16 = .ok (.invokevirtual 106, 3) := by decide +kernel
theorem dX10_passageLength_19 : decode cX10_passageLength 19 = .ok (.pop, 1) := by decide +kernel
theorem dX10_passageLength_20 : decode cX10_passageLength 20 = .ok (.aload_n 0, 1) := by decide +kernel
theorem dX10_passageLength_21 : decode cX10_passageLength 21 = .ok (.getfield 40, 3) := by decide +kernel
theorem dX10_passageLength_24 : decode cX10_passageLength 24 = .ok (.getfield 216, 3) := by decide +kernel
theorem dX10_passageLength_27 : decode cX10_passageLength 27 = .ok (.getfield 225, 3) := by decide +kernel
theorem dX10_passageLength_30 : decode cX10_passageLength 30 = .ok (.ireturn, 1) := by decide +kernel
set_option maxRecDepth 20000 in
theorem ggX10_pageOf_X10_needQuotation : GoodIn wsX10_pageOf wsX10_needQuotation := goodIn_ca (goodIn_r _ [7, 8, 9, 2, 10, 11, 12, 6, 13, 14, 15, 16, 17, 18, 19, 20, 21, 22, 23, 24, 25, 69, 70, 71, 72, 73, 74, 75, 83, 84, 85, 86, 87, 88, 89, 90, 91, 92, 93, 94] (by decide +kernel) (by decide +kernel)) (goodIn_sub (fun _ h => List.mem_cons_of_mem _ (List.mem_append_right _ h)) (by decide +kernel))
set_option maxRecDepth 20000 in
theorem gX10_pageOf_X10_needQuotation : GoodIn wsX10_pageOf (wsV RX10 102 RX10 yX10_needQuotation wsX10_needQuotation) := goodIn_app (goodIn_of _ (by decide +kernel)) ggX10_pageOf_X10_needQuotation
set_option maxRecDepth 20000 in
theorem ggX10_pageOf_X5_find : GoodIn wsX10_pageOf wsX5_find := goodIn_r _ [30, 31, 32, 21, 22, 17, 23, 24, 25, 33, 34, 35, 36, 37, 38, 39, 40, 41, 42, 43, 44, 45, 46, 47, 48, 49, 50, 51, 52, 53, 54, 55, 56, 57, 58, 59, 60, 61, 62, 63, 64, 65, 66, 67, 68, 76, 77, 78, 83, 84, 85, 86, 87, 88, 89, 90, 79, 80, 81, 82, 91, 92, 93, 94, 95] (by decide +kernel) (by decide +kernel)
set_option maxRecDepth 20000 in
theorem gX10_pageOf_X5_find : GoodIn wsX10_pageOf (wsV RX10 106 RX5 yX5_find wsX5_find) := goodIn_app (goodIn_of _ (by decide +kernel)) ggX10_pageOf_X5_find
theorem dX10_pageOf_0 : decode cX10_pageOf 0 = .ok (.aload_n 0, 1) := by decide +kernel
theorem dX10_pageOf_1 : decode cX10_pageOf 1 = .ok (.iload_n 1, 1) := by decide +kernel
theorem dX10_pageOf_2 : decode cX10_pageOf 2 = .ok (.iload_n 2, 1) := by decide +kernel
theorem dX10_pageOf_3 : decode cX10_pageOf 3 = .ok (.invokevirtual 102, 3) := by decide +kernel
theorem dX10_pageOf_6 : decode cX10_pageOf 6 = .ok (.aload_n 0, 1) := by decide +kernel
theorem dX10_pageOf_7 : decode cX10_pageOf 7 = .ok (.getfield 40, 3) := by decide +kernel
theorem dX10_pageOf_10 : decode cX10_pageOf 10 = .ok (.aload_n 0, 1) := by decide +kernel
theorem dX10_pageOf_11 : decode cX10_pageOf 11 = .ok (.getfield 10, 3) := by decide +kernel
theorem dX10_pageOf_14 : decode cX10_pageOf 14 = .ok (.iload_n 1, 1) := by decide +kernel
theorem dX10_pageOf_15 : decode cX10_pageOf 15 = .ok (.iload_n 2, 1) := by decide +kernel
theorem dX10_pageOf_16 : decode cX10_pageOf 16 = .ok (.invokevirtual 106, 3) := by decide +kernel
theorem dX10_pageOf_19 : decode cX10_pageOf 19 = .ok (.pop, 1) := by decide +kernel
theorem dX10_pageOf_20 : decode cX10_pageOf 20 = .ok (.aload_n 0, 1) := by decide +kernel
theorem dX10_pageOf_21 : decode cX10_pageOf 21 = .ok (.getfield 40, 3) := by decide +kernel
theorem dX10_pageOf_24 : decode cX10_pageOf 24 = .ok (.getfield 216, 3) := by decide +kernel
theorem dX10_pageOf_27 : decode cX10_pageOf 27 = .ok (.getfield 220, 3) := by decide +kernel
theorem dX10_pageOf_30 : decode cX10_pageOf 30 = .ok (.bipush 8, 2) := by decide +kernel
theorem dX10_pageOf_32 : decode cX10_pageOf 32 = .ok (.idiv, 1) := by decide +kernel
theorem dX10_pageOf_33 : decode cX10_pageOf 33 = .ok (.ireturn, 1) := by decide +kernel
set_option maxRecDepth 20000 in
theorem ggX10_comesFrom_X10_needQuotation : GoodIn wsX10_comesFrom wsX10_needQuotation := goodIn_ca (goodIn_r _ [7, 8, 9, 2, 10, 11, 12, 6, 13, 14, 15, 16, 17, 18, 19, 20, 21, 22, 23, 24, 25, 86, 87, 88, 89, 90, 91, 92, 93, 94, 95, 96, 97, 98, 99, 100, 101, 102, 103, 104] (by decide +kernel) (by decide +kernel)) (goodIn_sub (fun _ h => List.mem_cons_of_mem _ (List.mem_append_right _ h)) (by decide +kernel))
set_option maxRecDepth 20000 in
theorem gX10_comesFrom_X10_needQuotation : GoodIn wsX10_comesFrom (wsV RX10 102 RX10 yX10_needQuotation wsX10_needQuotation) := goodIn_app (goodIn_of _ (by decide +kernel)) ggX10_comesFrom_X10_needQuotation
set_option maxRecDepth 20000 in
theorem ggX10_comesFrom_X5_parent : GoodIn wsX10_comesFrom wsX5_parent := goodIn_r _ [30, 31, 32, 33, 34, 29, 35, 36, 21, 22, 17, 23, 24, 25, 37, 38, 39, 40, 41, 42, 43, 44, 45, 46, 47, 48, 49, 50, 51, 52, 53, 54, 55, 56, 57, 58, 59, 60, 61, 62, 63, 64, 65, 66, 67, 68, 69, 70, 71, 72, 73, 74, 75, 76, 77, 78, 79, 80, 81, 82, 83, 84, 85, 93, 94, 95, 96, 97, 98, 99, 100, 105, 106, 107, 108, 109, 110, 111, 101, 102, 103, 104, 112] (by decide +kernel) (by decide +kernel)
set_option maxRecDepth 20000 in
theorem gX10_comesFrom_X5_parent : GoodIn wsX10_comesFrom (wsV RX10 226 RX5 yX5_parent wsX5_parent) := goodIn_app (goodIn_of _ (by decide +kernel)) ggX10_comesFrom_X5_parent
theorem dX10_comesFrom_0 : decode cX10_comesFrom 0 = .ok (.aload_n 0, 1) := by decide +kernel
theorem dX10_comesFrom_1 : decode cX10_comesFrom 1 = .ok (.iload_n 1, 1) := by decide +kernel
theorem dX10_comesFrom_2 : decode cX10_comesFrom 2 = .ok (.iload_n 2, 1) := by decide +kernel
theorem dX10_comesFrom_3 : decode cX10_comesFrom 3 = .ok (.invokevirtual 102, 3) := by decide +kernel
theorem dX10_comesFrom_6 : decode cX10_comesFrom 6 = .ok (.aload_n 0, 1) := by decide +kernel
theorem dX10_comesFrom_7 : decode cX10_comesFrom 7 = .ok (.getfield 40, 3) := by decide +kernel
theorem dX10_comesFrom_10 : decode cX10_comesFrom 10 = .ok (.aload_n 0, 1) := by decide +kernel
theorem dX10_comesFrom_11 : decode cX10_comesFrom 11 = .ok (.getfield 10, 3) := by decide +kernel
theorem dX10_comesFrom_14 : decode cX10_comesFrom 14 = .ok (.iload_n 1, 1) := by decide +kernel
theorem dX10_comesFrom_15 : decode cX10_comesFrom 15 = .ok (.iload_n 2, 1) := by decide +kernel
theorem dX10_comesFrom_16 : decode cX10_comesFrom 16 = .ok (.invokevirtual 226, 3) := by decide +kernel
theorem dX10_comesFrom_19 : decode cX10_comesFrom 19 = .ok (.ireturn, 1) := by decide +kernel
set_option maxRecDepth 20000 in
theorem ggX10_originOf_X10_needQuotation : GoodIn wsX10_originOf wsX10_needQuotation := goodIn_ca (goodIn_r _ [7, 8, 9, 2, 10, 11, 12, 6, 13, 14, 15, 16, 17, 18, 19, 20, 21, 22, 23, 24, 25, 92, 93, 94, 95, 96, 97, 98, 102, 103, 104, 105, 106, 107, 108, 109, 110, 111, 112, 113] (by decide +kernel) (by decide +kernel)) (goodIn_sub (fun _ h => List.mem_cons_of_mem _ (List.mem_append_right _ h)) (by decide +kernel))
set_option maxRecDepth 20000 in
theorem gX10_originOf_X10_needQuotation : GoodIn wsX10_originOf (wsV RX10 102 RX10 yX10_needQuotation wsX10_needQuotation) := goodIn_app (goodIn_of _ (by decide +kernel)) ggX10_originOf_X10_needQuotation
set_option maxRecDepth 20000 in
theorem ggX10_originOf_X5_trace : GoodIn wsX10_originOf wsX5_trace := goodIn_r _ [30, 31, 32, 33, 21, 22, 17, 23, 24, 25, 34, 35, 36, 37, 38, 39, 40, 41, 42, 29, 43, 44, 45, 46, 47, 48, 49, 50, 51, 52, 53, 54, 55, 56, 57, 58, 59, 60, 61, 62, 63, 64, 65, 66, 67, 68, 69, 70, 71, 72, 73, 74, 75, 76, 77, 78, 79, 80, 81, 82, 83, 84, 85, 86, 87, 88, 89, 90, 91, 99, 100, 101, 102, 103, 104, 105, 106, 107, 108, 109, 110, 111, 112, 113, 114, 115, 116, 117, 118] (by decide +kernel) (by decide +kernel)
set_option maxRecDepth 20000 in
theorem gX10_originOf_X5_trace : GoodIn wsX10_originOf (wsV RX10 229 RX5 yX5_trace wsX5_trace) := goodIn_app (goodIn_of _ (by decide +kernel)) ggX10_originOf_X5_trace
theorem dX10_originOf_0 : decode cX10_originOf 0 = .ok (.aload_n 0, 1) := by decide +kernel
theorem dX10_originOf_1 : decode cX10_originOf 1 = .ok (.iload_n 1, 1) := by decide +kernel
theorem dX10_originOf_2 : decode cX10_originOf 2 = .ok (.iload_n 2, 1) := by decide +kernel
theorem dX10_originOf_3 : decode cX10_originOf 3 = .ok (.invokevirtual 102, 3) := by decide +kernel
theorem dX10_originOf_6 : decode cX10_originOf 6 = .ok (.aload_n 0, 1) := by decide +kernel
theorem dX10_originOf_7 : decode cX10_originOf 7 = .ok (.getfield 40, 3) := by decide +kernel
theorem dX10_originOf_10 : decode cX10_originOf 10 = .ok (.aload_n 0, 1) := by decide +kernel
theorem dX10_originOf_11 : decode cX10_originOf 11 = .ok (.getfield 10, 3) := by decide +kernel
theorem dX10_originOf_14 : decode cX10_originOf 14 = .ok (.iload_n 1, 1) := by decide +kernel
theorem dX10_originOf_15 : decode cX10_originOf 15 = .ok (.iload_n 2, 1) := by decide +kernel
theorem dX10_originOf_16 : decode cX10_originOf 16 = .ok (.invokevirtual 229, 3) := by decide +kernel
theorem dX10_originOf_19 : decode cX10_originOf 19 = .ok (.aload_n 0, 1) := by decide +kernel
theorem dX10_originOf_20 : decode cX10_originOf 20 = .ok (.getfield 40, 3) := by decide +kernel
theorem dX10_originOf_23 : decode cX10_originOf 23 = .ok (.getfield 232, 3) := by decide +kernel
theorem dX10_originOf_26 : decode cX10_originOf 26 = .ok (.ireturn, 1) := by decide +kernel
set_option maxRecDepth 20000 in
theorem ggX10_traceOf_X10_needQuotation : GoodIn wsX10_traceOf wsX10_needQuotation := goodIn_ca (goodIn_r _ [7, 8, 9, 2, 10, 11, 12, 6, 13, 14, 15, 16, 17, 18, 19, 20, 21, 22, 23, 24, 25, 92, 93, 94, 95, 96, 97, 98, 102, 103, 104, 105, 106, 107, 108, 109, 110, 111, 112, 113] (by decide +kernel) (by decide +kernel)) (goodIn_sub (fun _ h => List.mem_cons_of_mem _ (List.mem_append_right _ h)) (by decide +kernel))
set_option maxRecDepth 20000 in
theorem gX10_traceOf_X10_needQuotation : GoodIn wsX10_traceOf (wsV RX10 102 RX10 yX10_needQuotation wsX10_needQuotation) := goodIn_app (goodIn_of _ (by decide +kernel)) ggX10_traceOf_X10_needQuotation
set_option maxRecDepth 20000 in
theorem ggX10_traceOf_X5_trace : GoodIn wsX10_traceOf wsX5_trace := goodIn_r _ [30, 31, 32, 33, 21, 22, 17, 23, 24, 25, 34, 35, 36, 37, 38, 39, 40, 41, 42, 29, 43, 44, 45, 46, 47, 48, 49, 50, 51, 52, 53, 54, 55, 56, 57, 58, 59, 60, 61, 62, 63, 64, 65, 66, 67, 68, 69, 70, 71, 72, 73, 74, 75, 76, 77, 78, 79, 80, 81, 82, 83, 84, 85, 86, 87, 88, 89, 90, 91, 99, 100, 101, 102, 103, 104, 105, 106, 107, 108, 109, 110, 111, 112, 113, 114, 115, 116, 117, 118] (by decide +kernel) (by decide +kernel)
set_option maxRecDepth 20000 in
theorem gX10_traceOf_X5_trace : GoodIn wsX10_traceOf (wsV RX10 229 RX5 yX5_trace wsX5_trace) := goodIn_app (goodIn_of _ (by decide +kernel)) ggX10_traceOf_X5_trace
theorem dX10_traceOf_0 : decode cX10_traceOf 0 = .ok (.aload_n 0, 1) := by decide +kernel
theorem dX10_traceOf_1 : decode cX10_traceOf 1 = .ok (.iload_n 1, 1) := by decide +kernel
theorem dX10_traceOf_2 : decode cX10_traceOf 2 = .ok (.iload_n 2, 1) := by decide +kernel
theorem dX10_traceOf_3 : decode cX10_traceOf 3 = .ok (.invokevirtual 102, 3) := by decide +kernel
theorem dX10_traceOf_6 : decode cX10_traceOf 6 = .ok (.aload_n 0, 1) := by decide +kernel
theorem dX10_traceOf_7 : decode cX10_traceOf 7 = .ok (.getfield 40, 3) := by decide +kernel
theorem dX10_traceOf_10 : decode cX10_traceOf 10 = .ok (.aload_n 0, 1) := by decide +kernel
theorem dX10_traceOf_11 : decode cX10_traceOf 11 = .ok (.getfield 10, 3) := by decide +kernel
theorem dX10_traceOf_14 : decode cX10_traceOf 14 = .ok (.iload_n 1, 1) := by decide +kernel
theorem dX10_traceOf_15 : decode cX10_traceOf 15 = .ok (.iload_n 2, 1) := by decide +kernel
theorem dX10_traceOf_16 : decode cX10_traceOf 16 = .ok (.invokevirtual 229, 3) := by decide +kernel
theorem dX10_traceOf_19 : decode cX10_traceOf 19 = .ok (.aload_n 0, 1) := by decide +kernel
theorem dX10_traceOf_20 : decode cX10_traceOf 20 = .ok (.getfield 40, 3) := by decide +kernel
theorem dX10_traceOf_23 : decode cX10_traceOf 23 = .ok (.getfield 235, 3) := by decide +kernel
theorem dX10_traceOf_26 : decode cX10_traceOf 26 = .ok (.ireturn, 1) := by decide +kernel
set_option maxRecDepth 20000 in
theorem ggX10_changesAtOrigin_X10_needQuotation : GoodIn wsX10_changesAtOrigin wsX10_needQuotation := goodIn_ca (goodIn_r _ [7, 8, 9, 2, 10, 11, 12, 6, 13, 14, 15, 16, 17, 18, 19, 20, 21, 22, 23, 24, 25, 96, 97, 98, 99, 100, 101, 102, 103, 104, 105, 106, 107, 108, 109, 110, 111, 112, 113, 114] (by decide +kernel) (by decide +kernel)) (goodIn_sub (fun _ h => List.mem_cons_of_mem _ (List.mem_append_right _ h)) (by decide +kernel))
set_option maxRecDepth 20000 in
theorem gX10_changesAtOrigin_X10_needQuotation : GoodIn wsX10_changesAtOrigin (wsV RX10 102 RX10 yX10_needQuotation wsX10_needQuotation) := goodIn_app (goodIn_of _ (by decide +kernel)) ggX10_changesAtOrigin_X10_needQuotation
set_option maxRecDepth 20000 in
theorem ggX10_changesAtOrigin_X5_trace : GoodIn wsX10_changesAtOrigin wsX5_trace := goodIn_r _ [30, 31, 32, 33, 21, 22, 17, 23, 24, 25, 34, 35, 36, 37, 38, 39, 40, 41, 42, 29, 43, 44, 45, 46, 47, 48, 49, 50, 51, 52, 53, 54, 55, 56, 57, 58, 59, 60, 61, 62, 63, 64, 65, 66, 67, 68, 69, 70, 71, 72, 73, 74, 75, 76, 77, 78, 79, 80, 81, 82, 83, 84, 85, 86, 87, 88, 89, 90, 91, 115, 116, 117, 103, 104, 105, 106, 107, 108, 109, 110, 111, 112, 113, 114, 118, 119, 120, 121, 122] (by decide +kernel) (by decide +kernel)
set_option maxRecDepth 20000 in
theorem gX10_changesAtOrigin_X5_trace : GoodIn wsX10_changesAtOrigin (wsV RX10 229 RX5 yX5_trace wsX5_trace) := goodIn_app (goodIn_of _ (by decide +kernel)) ggX10_changesAtOrigin_X5_trace
set_option maxRecDepth 20000 in
theorem ggX10_changesAtOrigin_X5_findAtOrigin : GoodIn wsX10_changesAtOrigin wsX5_findAtOrigin := goodIn_r _ [95, 44, 32, 33, 21, 22, 17, 23, 24, 25, 49, 50, 51, 52, 53, 54, 55, 35, 36, 37, 38, 39, 56, 57, 58, 59, 60, 61, 62, 63, 64, 65, 66, 67, 68, 69, 70, 71, 72, 73, 74, 75, 76, 77, 78, 115, 116, 117, 119, 120, 121, 122, 111, 112, 113, 114, 103, 104, 105, 106, 107, 108, 109, 110, 118] (by decide +kernel) (by decide +kernel)
set_option maxRecDepth 20000 in
theorem gX10_changesAtOrigin_X5_findAtOrigin : GoodIn wsX10_changesAtOrigin (wsV RX10 238 RX5 yX5_findAtOrigin wsX5_findAtOrigin) := goodIn_app (goodIn_of _ (by decide +kernel)) ggX10_changesAtOrigin_X5_findAtOrigin
theorem dX10_changesAtOrigin_0 : decode cX10_changesAtOrigin 0 = .ok (.aload_n 0, 1) := by decide +kernel
theorem dX10_changesAtOrigin_1 : decode cX10_changesAtOrigin 1 = .ok (.iload_n 1, 1) := by decide +kernel
theorem dX10_changesAtOrigin_2 : decode cX10_changesAtOrigin 2 = .ok (.iload_n 2, 1) := by decide +kernel
theorem dX10_changesAtOrigin_3 : decode cX10_changesAtOrigin 3 = .ok (.invokevirtual 102, 3) := by decide +kernel
theorem dX10_changesAtOrigin_6 : decode cX10_changesAtOrigin 6 = .ok (.aload_n 0, 1) := by decide +kernel
theorem dX10_changesAtOrigin_7 : decode cX10_changesAtOrigin 7 = .ok (.getfield 40, 3) := by decide +kernel
theorem dX10_changesAtOrigin_10 : decode cX10_changesAtOrigin 10 = .ok (.aload_n 0, 1) := by decide +kernel
theorem dX10_changesAtOrigin_11 : decode cX10_changesAtOrigin 11 = .ok (.getfield 10, 3) := by decide +kernel
theorem dX10_changesAtOrigin_14 : decode cX10_changesAtOrigin 14 = .ok (.iload_n 1, 1) := by decide +kernel
theorem dX10_changesAtOrigin_15 : decode cX10_changesAtOrigin 15 = .ok (.iload_n 2, 1) := by decide +kernel
theorem dX10_changesAtOrigin_16 : decode cX10_changesAtOrigin 16 = .ok (.invokevirtual 229, 3) := by decide +kernel
theorem dX10_changesAtOrigin_19 : decode cX10_changesAtOrigin 19 = .ok (.aload_n 0, 1) := by decide +kernel
theorem dX10_changesAtOrigin_20 : decode cX10_changesAtOrigin 20 = .ok (.getfield 40, 3) := by decide +kernel
theorem dX10_changesAtOrigin_23 : decode cX10_changesAtOrigin 23 = .ok (.aload_n 0, 1) := by decide +kernel
theorem dX10_changesAtOrigin_24 : decode cX10_changesAtOrigin 24 = .ok (.getfield 10, 3) := by decide +kernel
theorem dX10_changesAtOrigin_27 : decode cX10_changesAtOrigin 27 = .ok (.iload_n 1, 1) := by decide +kernel
theorem dX10_changesAtOrigin_28 : decode cX10_changesAtOrigin 28 = .ok (.iload_n 2, 1) := by decide +kernel
theorem dX10_changesAtOrigin_29 : decode cX10_changesAtOrigin 29 = .ok (.invokevirtual 238, 3) := by decide +kernel
theorem dX10_changesAtOrigin_32 : decode cX10_changesAtOrigin 32 = .ok (.ireturn, 1) := by decide +kernel
set_option maxRecDepth 20000 in
theorem ggX10_quotedAgain_X10_needQuotation : GoodIn wsX10_quotedAgain wsX10_needQuotation := goodIn_ca (goodIn_r _ [7, 8, 9, 2, 10, 11, 12, 6, 13, 14, 15, 16, 17, 18, 19, 20, 21, 22, 23, 24, 25, 81, 82, 83, 84, 85, 86, 87, 88, 89, 90, 91, 92, 93, 94, 95, 96, 97, 98, 99] (by decide +kernel) (by decide +kernel)) (goodIn_sub (fun _ h => List.mem_cons_of_mem _ (List.mem_append_right _ h)) (by decide +kernel))
set_option maxRecDepth 20000 in
theorem gX10_quotedAgain_X10_needQuotation : GoodIn wsX10_quotedAgain (wsV RX10 102 RX10 yX10_needQuotation wsX10_needQuotation) := goodIn_app (goodIn_of _ (by decide +kernel)) ggX10_quotedAgain_X10_needQuotation
set_option maxRecDepth 20000 in
theorem ggX10_quotedAgain_X5_children : GoodIn wsX10_quotedAgain wsX5_children := goodIn_r _ [30, 31, 32, 21, 22, 17, 23, 24, 25, 33, 34, 35, 36, 37, 38, 39, 40, 41, 29, 42, 43, 44, 45, 46, 47, 48, 49, 50, 51, 52, 53, 54, 55, 56, 57, 58, 59, 60, 61, 62, 63, 64, 65, 66, 67, 68, 69, 70, 71, 72, 73, 74, 75, 76, 77, 78, 79, 80, 96, 97, 98, 99, 88, 89, 90, 91, 92, 93, 94, 95, 100, 101, 102, 103, 104, 105, 106, 107] (by decide +kernel) (by decide +kernel)
set_option maxRecDepth 20000 in
theorem gX10_quotedAgain_X5_children : GoodIn wsX10_quotedAgain (wsV RX10 241 RX5 yX5_children wsX5_children) := goodIn_app (goodIn_of _ (by decide +kernel)) ggX10_quotedAgain_X5_children
theorem dX10_quotedAgain_0 : decode cX10_quotedAgain 0 = .ok (.aload_n 0, 1) := by decide +kernel
theorem dX10_quotedAgain_1 : decode cX10_quotedAgain 1 = .ok (.iload_n 1, 1) := by decide +kernel
theorem dX10_quotedAgain_2 : decode cX10_quotedAgain 2 = .ok (.iload_n 2, 1) := by decide +kernel
theorem dX10_quotedAgain_3 : decode cX10_quotedAgain 3 = .ok (.invokevirtual 102, 3) := by decide +kernel
theorem dX10_quotedAgain_6 : decode cX10_quotedAgain 6 = .ok (.aload_n 0, 1) := by decide +kernel
theorem dX10_quotedAgain_7 : decode cX10_quotedAgain 7 = .ok (.getfield 40, 3) := by decide +kernel
theorem dX10_quotedAgain_10 : decode cX10_quotedAgain 10 = .ok (.aload_n 0, 1) := by decide +kernel
theorem dX10_quotedAgain_11 : decode cX10_quotedAgain 11 = .ok (.getfield 10, 3) := by decide +kernel
theorem dX10_quotedAgain_14 : decode cX10_quotedAgain 14 = .ok (.iload_n 1, 1) := by decide +kernel
theorem dX10_quotedAgain_15 : decode cX10_quotedAgain 15 = .ok (.iload_n 2, 1) := by decide +kernel
theorem dX10_quotedAgain_16 : decode cX10_quotedAgain 16 = .ok (.invokevirtual 241, 3) := by decide +kernel
theorem dX10_quotedAgain_19 : decode cX10_quotedAgain 19 = .ok (.ireturn, 1) := by decide +kernel
set_option maxRecDepth 20000 in
theorem ggX10_blameOf_X10_needAuthor : GoodIn wsX10_blameOf wsX10_needAuthor := goodIn_ca (goodIn_r _ [6, 7, 8, 9, 10, 5, 11] (by decide +kernel) (by decide +kernel)) (goodIn_sub (fun _ h => List.mem_cons_of_mem _ (List.mem_append_right _ h)) (by decide +kernel))
set_option maxRecDepth 20000 in
theorem gX10_blameOf_X10_needAuthor : GoodIn wsX10_blameOf (va_wsS RX10 244 yX10_needAuthor wsX10_needAuthor) := goodIn_app (goodIn_of _ (by decide +kernel)) ggX10_blameOf_X10_needAuthor
set_option maxRecDepth 20000 in
theorem ggX10_blameOf_X5_changesWritten : GoodIn wsX10_blameOf wsX5_changesWritten := goodIn_r _ [16, 17, 18, 19, 20, 21, 22, 23, 24, 25, 26, 15, 27, 28, 29, 30, 31, 32, 33, 34, 35, 36, 37, 38, 39, 40, 41, 42, 43, 44, 45, 46, 47, 48, 49, 50, 51, 52, 53, 54, 55, 56, 57, 58, 59, 60, 61, 62, 63, 64, 65, 66, 67, 68, 76, 77, 78, 79, 80, 81, 82, 83, 84, 85, 86, 87, 88, 89, 90, 91, 92, 93, 94, 95] (by decide +kernel) (by decide +kernel)
set_option maxRecDepth 20000 in
theorem gX10_blameOf_X5_changesWritten : GoodIn wsX10_blameOf (wsV RX10 247 RX5 yX5_changesWritten wsX5_changesWritten) := goodIn_app (goodIn_of _ (by decide +kernel)) ggX10_blameOf_X5_changesWritten
theorem dX10_blameOf_0 : decode cX10_blameOf 0 = .ok (.iload_n 1, 1) := by decide +kernel
theorem dX10_blameOf_1 : decode cX10_blameOf 1 = .ok (.invokestatic 244, 3) := by decide +kernel
theorem dX10_blameOf_4 : decode cX10_blameOf 4 = .ok (.aload_n 0, 1) := by decide +kernel
theorem dX10_blameOf_5 : decode cX10_blameOf 5 = .ok (.getfield 40, 3) := by decide +kernel
theorem dX10_blameOf_8 : decode cX10_blameOf 8 = .ok (.aload_n 0, 1) := by decide +kernel
theorem dX10_blameOf_9 : decode cX10_blameOf 9 = .ok (.getfield 10, 3) := by decide +kernel
theorem dX10_blameOf_12 : decode cX10_blameOf 12 = .ok (.iload_n 1, 1) := by decide +kernel
theorem dX10_blameOf_13 : decode cX10_blameOf 13 = .ok (.iconst (-1), 1) := by decide +kernel
theorem dX10_blameOf_14 : decode cX10_blameOf 14 = .ok (.invokevirtual 247, 3) := by decide +kernel
theorem dX10_blameOf_17 : decode cX10_blameOf 17 = .ok (.ireturn, 1) := by decide +kernel
set_option maxRecDepth 20000 in
theorem ggX10_wrongs_X10_needAuthor : GoodIn wsX10_wrongs wsX10_needAuthor := goodIn_ca (goodIn_r _ [6, 7, 8, 9, 10, 5, 11] (by decide +kernel) (by decide +kernel)) (goodIn_sub (fun _ h => List.mem_cons_of_mem _ (List.mem_append_right _ h)) (by decide +kernel))
set_option maxRecDepth 20000 in
theorem gX10_wrongs_X10_needAuthor : GoodIn wsX10_wrongs (va_wsS RX10 244 yX10_needAuthor wsX10_needAuthor) := goodIn_app (goodIn_of _ (by decide +kernel)) ggX10_wrongs_X10_needAuthor
set_option maxRecDepth 20000 in
theorem ggX10_wrongs_X5_changesWritten : GoodIn wsX10_wrongs wsX5_changesWritten := goodIn_r _ [16, 17, 18, 19, 20, 21, 22, 23, 24, 25, 26, 15, 27, 28, 29, 30, 31, 32, 33, 34, 35, 36, 37, 38, 39, 40, 41, 42, 43, 44, 45, 46, 47, 48, 49, 50, 51, 52, 53, 54, 55, 56, 57, 58, 59, 60, 61, 62, 63, 64, 65, 66, 67, 68, 76, 77, 78, 79, 80, 81, 82, 83, 84, 85, 86, 87, 88, 89, 90, 91, 92, 93, 94, 95] (by decide +kernel) (by decide +kernel)
set_option maxRecDepth 20000 in
theorem gX10_wrongs_X5_changesWritten : GoodIn wsX10_wrongs (wsV RX10 247 RX5 yX5_changesWritten wsX5_changesWritten) := goodIn_app (goodIn_of _ (by decide +kernel)) ggX10_wrongs_X5_changesWritten
theorem dX10_wrongs_0 : decode cX10_wrongs 0 = .ok (.iload_n 1, 1) := by decide +kernel
theorem dX10_wrongs_1 : decode cX10_wrongs 1 = .ok (.invokestatic 244, 3) := by decide +kernel
theorem dX10_wrongs_4 : decode cX10_wrongs 4 = .ok (.iload_n 2, 1) := by decide +kernel
theorem dX10_wrongs_5 : decode cX10_wrongs 5 = .ok (.invokestatic 244, 3) := by decide +kernel
theorem dX10_wrongs_8 : decode cX10_wrongs 8 = .ok (.aload_n 0, 1) := by decide +kernel
theorem dX10_wrongs_9 : decode cX10_wrongs 9 = .ok (.getfield 40, 3) := by decide +kernel
theorem dX10_wrongs_12 : decode cX10_wrongs 12 = .ok (.aload_n 0, 1) := by decide +kernel
theorem dX10_wrongs_13 : decode cX10_wrongs 13 = .ok (.getfield 10, 3) := by decide +kernel
theorem dX10_wrongs_16 : decode cX10_wrongs 16 = .ok (.iload_n 1, 1) := by decide +kernel
theorem dX10_wrongs_17 : decode cX10_wrongs 17 = .ok (.iload_n 2, 1) := by decide +kernel
theorem dX10_wrongs_18 : decode cX10_wrongs 18 = .ok (.invokevirtual 247, 3) := by decide +kernel
theorem dX10_wrongs_21 : decode cX10_wrongs 21 = .ok (.ireturn, 1) := by decide +kernel
set_option maxRecDepth 20000 in
theorem ggX10_blameByAuthors_X5_changesWritten : GoodIn wsX10_blameByAuthors wsX5_changesWritten := goodIn_r _ [7, 8, 9, 10, 11, 12, 13, 14, 15, 16, 17, 6, 18, 19, 20, 21, 22, 23, 24, 25, 26, 27, 28, 29, 30, 31, 32, 33, 34, 35, 36, 37, 38, 39, 40, 41, 42, 43, 44, 45, 46, 47, 48, 49, 50, 51, 52, 53, 54, 55, 56, 57, 58, 59, 67, 68, 69, 70, 71, 72, 73, 74, 75, 76, 77, 78, 79, 80, 81, 82, 83, 84, 85, 86] (by decide +kernel) (by decide +kernel)
set_option maxRecDepth 20000 in
theorem gX10_blameByAuthors_X5_changesWritten : GoodIn wsX10_blameByAuthors (wsV RX10 247 RX5 yX5_changesWritten wsX5_changesWritten) := goodIn_app (goodIn_of _ (by decide +kernel)) ggX10_blameByAuthors_X5_changesWritten
theorem dX10_blameByAuthors_0 : decode cX10_blameByAuthors 0 = .ok (.iconst 0, 1) := by decide +kernel
theorem dX10_blameByAuthors_1 : decode cX10_blameByAuthors 1 = .ok (.istore_n 1, 1) := by decide +kernel
theorem dX10_blameByAuthors_2 : decode cX10_blameByAuthors 2 = .ok (.iconst 0, 1) := by decide +kernel
theorem dX10_blameByAuthors_3 : decode cX10_blameByAuthors 3 = .ok (.istore_n 2, 1) := by decide +kernel
theorem dX10_blameByAuthors_4 : decode cX10_blameByAuthors 4 = .ok (.iload_n 2, 1) := by decide +kernel
theorem dX10_blameByAuthors_5 : decode cX10_blameByAuthors 5 = .ok (.bipush 8, 2) := by decide +kernel
theorem dX10_blameByAuthors_7 : decode cX10_blameByAuthors 7 = .ok (.if_icmp .ge 25, 3) := by decide +kernel
theorem dX10_blameByAuthors_10 : decode cX10_blameByAuthors 10 = .ok (.iload_n 1, 1) := by decide +kernel
theorem dX10_blameByAuthors_11 : decode cX10_blameByAuthors 11 = .ok (.aload_n 0, 1) := by decide +kernel
theorem dX10_blameByAuthors_12 : decode cX10_blameByAuthors 12 = .ok (.getfield 40, 3) := by decide +kernel
theorem dX10_blameByAuthors_15 : decode cX10_blameByAuthors 15 = .ok (.aload_n 0, 1) := by decide +kernel
theorem dX10_blameByAuthors_16 : decode cX10_blameByAuthors 16 = .ok (.getfield 10, 3) := by decide +kernel
theorem dX10_blameByAuthors_19 : decode cX10_blameByAuthors 19 = .ok (.iload_n 2, 1) := by decide +kernel
theorem dX10_blameByAuthors_20 : decode cX10_blameByAuthors 20 = .ok (.iconst (-1), 1) := by decide +kernel
theorem dX10_blameByAuthors_21 : decode cX10_blameByAuthors 21 = .ok (.invokevirtual 247, 3) := by decide +kernel
theorem dX10_blameByAuthors_24 : decode cX10_blameByAuthors 24 = .ok (.iadd, 1) := by decide +kernel
theorem dX10_blameByAuthors_25 : decode cX10_blameByAuthors 25 = .ok (.istore_n 1, 1) := by decide +kernel
theorem dX10_blameByAuthors_26 : decode cX10_blameByAuthors 26 = .ok (.iinc 2 1, 3) := by decide +kernel
theorem dX10_blameByAuthors_29 : decode cX10_blameByAuthors 29 = .ok (.goto (-25), 3) := by decide +kernel
theorem dX10_blameByAuthors_32 : decode cX10_blameByAuthors 32 = .ok (.iload_n 1, 1) := by decide +kernel
theorem dX10_blameByAuthors_33 : decode cX10_blameByAuthors 33 = .ok (.ireturn, 1) := by decide +kernel
set_option maxRecDepth 20000 in
theorem ggX10_blameBySources_X5_changesSuffered : GoodIn wsX10_blameBySources wsX5_changesSuffered := goodIn_r _ [7, 8, 9, 10, 11, 12, 13, 14, 15, 16, 17, 18, 19, 20, 21, 22, 23, 6, 24, 25, 26, 27, 28, 29, 30, 31, 32, 33, 34, 35, 36, 37, 38, 39, 40, 41, 42, 43, 44, 45, 46, 47, 48, 49, 50, 51, 52, 53, 54, 55, 63, 64, 65, 66, 67, 68, 69, 70, 71, 72, 73, 74, 75, 76, 77, 78, 79, 80, 81, 82] (by decide +kernel) (by decide +kernel)
set_option maxRecDepth 20000 in
theorem gX10_blameBySources_X5_changesSuffered : GoodIn wsX10_blameBySources (wsV RX10 250 RX5 yX5_changesSuffered wsX5_changesSuffered) := goodIn_app (goodIn_of _ (by decide +kernel)) ggX10_blameBySources_X5_changesSuffered
theorem dX10_blameBySources_0 : decode cX10_blameBySources 0 = .ok (.iconst 0, 1) := by decide +kernel
theorem dX10_blameBySources_1 : decode cX10_blameBySources 1 = .ok (.istore_n 1, 1) := by decide +kernel
theorem dX10_blameBySources_2 : decode cX10_blameBySources 2 = .ok (.iconst 0, 1) := by decide +kernel
theorem dX10_blameBySources_3 : decode cX10_blameBySources 3 = .ok (.istore_n 2, 1) := by decide +kernel
theorem dX10_blameBySources_4 : decode cX10_blameBySources 4 = .ok (.iload_n 2, 1) := by decide +kernel
theorem dX10_blameBySources_5 : decode cX10_blameBySources 5 = .ok (.aload_n 0, 1) := by decide +kernel
theorem dX10_blameBySources_6 : decode cX10_blameBySources 6 = .ok (.getfield 10, 3) := by decide +kernel
theorem dX10_blameBySources_9 : decode cX10_blameBySources 9 = .ok (.getfield 94, 3) := by decide +kernel
theorem dX10_blameBySources_12 : decode cX10_blameBySources 12 = .ok (.if_icmp .ge 24, 3) := by decide +kernel
theorem dX10_blameBySources_15 : decode cX10_blameBySources 15 = .ok (.iload_n 1, 1) := by decide +kernel
theorem dX10_blameBySources_16 : decode cX10_blameBySources 16 = .ok (.aload_n 0, 1) := by decide +kernel
theorem dX10_blameBySources_17 : decode cX10_blameBySources 17 = .ok (.getfield 40, 3) := by decide +kernel
theorem dX10_blameBySources_20 : decode cX10_blameBySources 20 = .ok (.aload_n 0, 1) := by decide +kernel
theorem dX10_blameBySources_21 : decode cX10_blameBySources 21 = .ok (.getfield 10, 3) := by decide +kernel
theorem dX10_blameBySources_24 : decode cX10_blameBySources 24 = .ok (.iload_n 2, 1) := by decide +kernel
theorem dX10_blameBySources_25 : decode cX10_blameBySources 25 = .ok (.invokevirtual 250, 3) := by decide +kernel
theorem dX10_blameBySources_28 : decode cX10_blameBySources 28 = .ok (.iadd, 1) := by decide +kernel
theorem dX10_blameBySources_29 : decode cX10_blameBySources 29 = .ok (.istore_n 1, 1) := by decide +kernel
theorem dX10_blameBySources_30 : decode cX10_blameBySources 30 = .ok (.iinc 2 1, 3) := by decide +kernel
theorem dX10_blameBySources_33 : decode cX10_blameBySources 33 = .ok (.goto (-29), 3) := by decide +kernel
theorem dX10_blameBySources_36 : decode cX10_blameBySources 36 = .ok (.iload_n 1, 1) := by decide +kernel
theorem dX10_blameBySources_37 : decode cX10_blameBySources 37 = .ok (.ireturn, 1) := by decide +kernel
set_option maxRecDepth 20000 in
theorem ggX10_faithfulShare_X9_at : GoodIn wsX10_faithfulShare wsX9_at := goodIn_r _ [7, 8, 9, 64, 65, 66, 67] (by decide +kernel) (by decide +kernel)
set_option maxRecDepth 20000 in
theorem gX10_faithfulShare_X9_at : GoodIn wsX10_faithfulShare (wsV RX10 128 RX9 yX9_at wsX9_at) := goodIn_app (goodIn_of _ (by decide +kernel)) ggX10_faithfulShare_X9_at
set_option maxRecDepth 20000 in
theorem ggX10_faithfulShare_X5_faithfulIn : GoodIn wsX10_faithfulShare wsX5_faithfulIn := goodIn_r _ [14, 15, 4, 5, 6, 7, 8, 9, 16, 17, 18, 13, 19, 20, 21, 22, 23, 24, 25, 26, 27, 28, 29, 30, 31, 32, 33, 34, 35, 36, 37, 38, 39, 40, 41, 42, 43, 44, 45, 46, 47, 48, 49, 50, 51, 52, 53, 54, 55, 56, 68, 69, 70, 71, 72, 73, 74, 75, 64, 65, 66, 67, 76, 77, 78, 79, 80, 81, 82, 83] (by decide +kernel) (by decide +kernel)
set_option maxRecDepth 20000 in
theorem gX10_faithfulShare_X5_faithfulIn : GoodIn wsX10_faithfulShare (wsV RX10 253 RX5 yX5_faithfulIn wsX5_faithfulIn) := goodIn_app (goodIn_of _ (by decide +kernel)) ggX10_faithfulShare_X5_faithfulIn
theorem dX10_faithfulShare_0 : decode cX10_faithfulShare 0 = .ok (.iconst 0, 1) := by decide +kernel
theorem dX10_faithfulShare_1 : decode cX10_faithfulShare 1 = .ok (.istore_n 1, 1) := by decide +kernel
theorem dX10_faithfulShare_2 : decode cX10_faithfulShare 2 = .ok (.iconst 0, 1) := by decide +kernel
theorem dX10_faithfulShare_3 : decode cX10_faithfulShare 3 = .ok (.istore_n 2, 1) := by decide +kernel
theorem dX10_faithfulShare_4 : decode cX10_faithfulShare 4 = .ok (.iconst 0, 1) := by decide +kernel
theorem dX10_faithfulShare_5 : decode cX10_faithfulShare 5 = .ok (.istore_n 3, 1) := by decide +kernel
theorem dX10_faithfulShare_6 : decode cX10_faithfulShare 6 = .ok (.iload_n 3, 1) := by decide +kernel
theorem dX10_faithfulShare_7 : decode cX10_faithfulShare 7 = .ok (.aload_n 0, 1) := by decide +kernel
theorem dX10_faithfulShare_8 : decode cX10_faithfulShare 8 = .ok (.getfield 10, 3) := by decide +kernel
theorem dX10_faithfulShare_11 : decode cX10_faithfulShare 11 = .ok (.getfield 94, 3) := by decide +kernel
theorem dX10_faithfulShare_14 : decode cX10_faithfulShare 14 = .ok (.if_icmp .ge 38, 3) := by decide +kernel
theorem dX10_faithfulShare_17 : decode cX10_faithfulShare 17 = .ok (.iload_n 1, 1) := by decide +kernel
theorem dX10_faithfulShare_18 : decode cX10_faithfulShare 18 = .ok (.aload_n 0, 1) := by decide +kernel
theorem dX10_faithfulShare_19 : decode cX10_faithfulShare 19 = .ok (.getfield 10, 3) := by decide +kernel
theorem dX10_faithfulShare_22 : decode cX10_faithfulShare 22 = .ok (.iload_n 3, 1) := by decide +kernel
theorem dX10_faithfulShare_23 : decode cX10_faithfulShare 23 = .ok (.invokevirtual 128, 3) := by decide +kernel
theorem dX10_faithfulShare_26 : decode cX10_faithfulShare 26 = .ok (.getfield 197, 3) := by decide +kernel
theorem dX10_faithfulShare_29 : decode cX10_faithfulShare 29 = .ok (.iadd, 1) := by decide +kernel
theorem dX10_faithfulShare_30 : decode cX10_faithfulShare 30 = .ok (.istore_n 1, 1) := by decide +kernel
theorem dX10_faithfulShare_31 : decode cX10_faithfulShare 31 = .ok (.iload_n 2, 1) := by decide +kernel
theorem dX10_faithfulShare_32 : decode cX10_faithfulShare 32 = .ok (.aload_n 0, 1) := by decide +kernel
theorem dX10_faithfulShare_33 : decode cX10_faithfulShare 33 = .ok (.getfield 40, 3) := by decide +kernel
theorem dX10_faithfulShare_36 : decode cX10_faithfulShare 36 = .ok (.aload_n 0, 1) := by decide +kernel
theorem dX10_faithfulShare_37 : decode cX10_faithfulShare 37 = .ok (.getfield 10, 3) := by decide +kernel
theorem dX10_faithfulShare_40 : decode cX10_faithfulShare 40 = .ok (.iload_n 3, 1) := by decide +kernel
theorem dX10_faithfulShare_41 : decode cX10_faithfulShare 41 = .ok (.invokevirtual 253, 3) := by decide +kernel
theorem dX10_faithfulShare_44 : decode cX10_faithfulShare 44 = .ok (.iadd, 1) := by decide +kernel
theorem dX10_faithfulShare_45 : decode cX10_faithfulShare 45 = .ok (.istore_n 2, 1) := by decide +kernel
theorem dX10_faithfulShare_46 : decode cX10_faithfulShare 46 = .ok (.iinc 3 1, 3) := by decide +kernel
theorem dX10_faithfulShare_49 : decode cX10_faithfulShare 49 = .ok (.goto (-43), 3) := by decide +kernel
theorem dX10_faithfulShare_52 : decode cX10_faithfulShare 52 = .ok (.iload_n 1, 1) := by decide +kernel
theorem dX10_faithfulShare_53 : decode cX10_faithfulShare 53 = .ok (.ifCond .ne 7, 3) := by decide +kernel
theorem dX10_faithfulShare_56 : decode cX10_faithfulShare 56 = .ok (.dconst 0, 1) := by decide +kernel
theorem dX10_faithfulShare_57 : decode cX10_faithfulShare 57 = .ok (.goto 8, 3) := by decide +kernel
theorem dX10_faithfulShare_60 : decode cX10_faithfulShare 60 = .ok (.iload_n 2, 1) := by decide +kernel
theorem dX10_faithfulShare_61 : decode cX10_faithfulShare 61 = .ok (.i2d, 1) := by decide +kernel
theorem dX10_faithfulShare_62 : decode cX10_faithfulShare 62 = .ok (.iload_n 1, 1) := by decide +kernel
theorem dX10_faithfulShare_63 : decode cX10_faithfulShare 63 = .ok (.i2d, 1) := by decide +kernel
theorem dX10_faithfulShare_64 : decode cX10_faithfulShare 64 = .ok (.ddiv, 1) := by decide +kernel
theorem dX10_faithfulShare_65 : decode cX10_faithfulShare 65 = .ok (.dreturn, 1) := by decide +kernel
set_option maxRecDepth 20000 in
theorem ggX10_answers_X10_needPamphlet : GoodIn wsX10_answers wsX10_needPamphlet := goodIn_ca (goodIn_r _ [6, 7, 8, 1, 9, 10, 11, 12, 13, 14, 34, 35, 36, 37, 38, 39, 40, 41, 42, 43, 44] (by decide +kernel) (by decide +kernel)) (goodIn_sub (fun _ h => List.mem_cons_of_mem _ (List.mem_append_right _ h)) (by decide +kernel))
set_option maxRecDepth 20000 in
theorem gX10_answers_X10_needPamphlet : GoodIn wsX10_answers (wsV RX10 139 RX10 yX10_needPamphlet wsX10_needPamphlet) := goodIn_app (goodIn_of _ (by decide +kernel)) ggX10_answers_X10_needPamphlet
set_option maxRecDepth 20000 in
theorem ggX10_answers_X9_at : GoodIn wsX10_answers wsX9_at := goodIn_r _ [18, 19, 20, 41, 42, 43, 44] (by decide +kernel) (by decide +kernel)
set_option maxRecDepth 20000 in
theorem gX10_answers_X9_at : GoodIn wsX10_answers (wsV RX10 128 RX9 yX9_at wsX9_at) := goodIn_app (goodIn_of _ (by decide +kernel)) ggX10_answers_X9_at
set_option maxRecDepth 20000 in
theorem ggX10_answers_X4_quotes : GoodIn wsX10_answers wsX4_quotes := goodIn_r _ [25, 26, 27, 28, 29, 30, 31, 32, 33, 45, 46, 47, 48, 49, 50, 51, 52, 53] (by decide +kernel) (by decide +kernel)
set_option maxRecDepth 20000 in
theorem gX10_answers_X4_quotes : GoodIn wsX10_answers (wsV RX10 256 RX4 yX4_quotes wsX4_quotes) := goodIn_app (goodIn_of _ (by decide +kernel)) ggX10_answers_X4_quotes
theorem dX10_answers_0 : decode cX10_answers 0 = .ok (.aload_n 0, 1) := by decide +kernel
theorem dX10_answers_1 : decode cX10_answers 1 = .ok (.iload_n 1, 1) := by decide +kernel
theorem dX10_answers_2 : decode cX10_answers 2 = .ok (.invokevirtual 139, 3) := by decide +kernel
theorem dX10_answers_5 : decode cX10_answers 5 = .ok (.aload_n 0, 1) := by decide +kernel
theorem dX10_answers_6 : decode cX10_answers 6 = .ok (.iload_n 2, 1) := by decide +kernel
theorem dX10_answers_7 : decode cX10_answers 7 = .ok (.invokevirtual 139, 3) := by decide +kernel
theorem dX10_answers_10 : decode cX10_answers 10 = .ok (.aload_n 0, 1) := by decide +kernel
theorem dX10_answers_11 : decode cX10_answers 11 = .ok (.getfield 10, 3) := by decide +kernel
theorem dX10_answers_14 : decode cX10_answers 14 = .ok (.iload_n 1, 1) := by decide +kernel
theorem dX10_answers_15 : decode cX10_answers 15 = .ok (.invokevirtual 128, 3) := by decide +kernel
theorem dX10_answers_18 : decode cX10_answers 18 = .ok (.iload_n 2, 1) := by decide +kernel
theorem dX10_answers_19 : decode cX10_answers 19 = .ok (.invokevirtual 256, 3) := by decide +kernel
theorem dX10_answers_22 : decode cX10_answers 22 = .ok (.ireturn, 1) := by decide +kernel
set_option maxRecDepth 20000 in
theorem ggX10_ladderOf_X10_needPamphlet : GoodIn wsX10_ladderOf wsX10_needPamphlet := goodIn_ca (goodIn_r _ [7, 8, 9, 2, 10, 11, 12, 13, 14, 15, 50, 51, 52, 53, 54, 55, 56, 57, 58, 59, 60] (by decide +kernel) (by decide +kernel)) (goodIn_sub (fun _ h => List.mem_cons_of_mem _ (List.mem_append_right _ h)) (by decide +kernel))
set_option maxRecDepth 20000 in
theorem gX10_ladderOf_X10_needPamphlet : GoodIn wsX10_ladderOf (wsV RX10 139 RX10 yX10_needPamphlet wsX10_needPamphlet) := goodIn_app (goodIn_of _ (by decide +kernel)) ggX10_ladderOf_X10_needPamphlet
set_option maxRecDepth 20000 in
theorem ggX10_ladderOf_X3_longest : GoodIn wsX10_ladderOf wsX3_longest := goodIn_r _ [20, 21, 22, 23, 24, 25, 26, 27, 28, 13, 29, 30, 31, 32, 33, 34, 35, 36, 37, 38, 39, 40, 41, 42, 43, 44, 45, 46, 47, 48, 49, 61, 57, 58, 59, 60, 62, 63, 64, 65, 66, 67, 68, 69, 70] (by decide +kernel) (by decide +kernel)
set_option maxRecDepth 20000 in
theorem gX10_ladderOf_X3_longest : GoodIn wsX10_ladderOf (wsV RX10 259 RX3 yX3_longest wsX3_longest) := goodIn_app (goodIn_of _ (by decide +kernel)) ggX10_ladderOf_X3_longest
theorem dX10_ladderOf_0 : decode cX10_ladderOf 0 = .ok (.aload_n 0, 1) := by decide +kernel
theorem dX10_ladderOf_1 : decode cX10_ladderOf 1 = .ok (.iload_n 1, 1) := by decide +kernel
theorem dX10_ladderOf_2 : decode cX10_ladderOf 2 = .ok (.invokevirtual 139, 3) := by decide +kernel
theorem dX10_ladderOf_5 : decode cX10_ladderOf 5 = .ok (.aload_n 0, 1) := by decide +kernel
theorem dX10_ladderOf_6 : decode cX10_ladderOf 6 = .ok (.getfield 47, 3) := by decide +kernel
theorem dX10_ladderOf_9 : decode cX10_ladderOf 9 = .ok (.aload_n 0, 1) := by decide +kernel
theorem dX10_ladderOf_10 : decode cX10_ladderOf 10 = .ok (.getfield 10, 3) := by decide +kernel
theorem dX10_ladderOf_13 : decode cX10_ladderOf 13 = .ok (.iload_n 1, 1) := by decide +kernel
theorem dX10_ladderOf_14 : decode cX10_ladderOf 14 = .ok (.invokevirtual 259, 3) := by decide +kernel
theorem dX10_ladderOf_17 : decode cX10_ladderOf 17 = .ok (.ireturn, 1) := by decide +kernel
set_option maxRecDepth 20000 in
theorem ggX10_laddersOf_X10_needPamphlet : GoodIn wsX10_laddersOf wsX10_needPamphlet := goodIn_ca (goodIn_r _ [7, 8, 9, 2, 10, 11, 12, 13, 14, 15, 46, 47, 48, 49, 50, 51, 52, 53, 54, 55, 56] (by decide +kernel) (by decide +kernel)) (goodIn_sub (fun _ h => List.mem_cons_of_mem _ (List.mem_append_right _ h)) (by decide +kernel))
set_option maxRecDepth 20000 in
theorem gX10_laddersOf_X10_needPamphlet : GoodIn wsX10_laddersOf (wsV RX10 139 RX10 yX10_needPamphlet wsX10_needPamphlet) := goodIn_app (goodIn_of _ (by decide +kernel)) ggX10_laddersOf_X10_needPamphlet
set_option maxRecDepth 20000 in
theorem ggX10_laddersOf_X3_fromTheGround : GoodIn wsX10_laddersOf wsX3_fromTheGround := goodIn_r _ [20, 21, 22, 23, 24, 13, 25, 26, 27, 28, 29, 30, 31, 32, 33, 34, 35, 36, 37, 38, 39, 40, 41, 42, 43, 44, 45, 57, 58, 59, 60, 61, 62, 63, 64, 65, 53, 54, 55, 56, 66] (by decide +kernel) (by decide +kernel)
set_option maxRecDepth 20000 in
theorem gX10_laddersOf_X3_fromTheGround : GoodIn wsX10_laddersOf (wsV RX10 262 RX3 yX3_fromTheGround wsX3_fromTheGround) := goodIn_app (goodIn_of _ (by decide +kernel)) ggX10_laddersOf_X3_fromTheGround
theorem dX10_laddersOf_0 : decode cX10_laddersOf 0 = .ok (.aload_n 0, 1) := by decide +kernel
theorem dX10_laddersOf_1 : decode cX10_laddersOf 1 = .ok (.iload_n 1, 1) := by decide +kernel
theorem dX10_laddersOf_2 : decode cX10_laddersOf 2 = .ok (.invokevirtual 139, 3) := by decide +kernel
theorem dX10_laddersOf_5 : decode cX10_laddersOf 5 = .ok (.aload_n 0, 1) := by decide +kernel
theorem dX10_laddersOf_6 : decode cX10_laddersOf 6 = .ok (.getfield 47, 3) := by decide +kernel
theorem dX10_laddersOf_9 : decode cX10_laddersOf 9 = .ok (.aload_n 0, 1) := by decide +kernel
theorem dX10_laddersOf_10 : decode cX10_laddersOf 10 = .ok (.getfield 10, 3) := by decide +kernel
theorem dX10_laddersOf_13 : decode cX10_laddersOf 13 = .ok (.iload_n 1, 1) := by decide +kernel
theorem dX10_laddersOf_14 : decode cX10_laddersOf 14 = .ok (.invokevirtual 262, 3) := by decide +kernel
theorem dX10_laddersOf_17 : decode cX10_laddersOf 17 = .ok (.ireturn, 1) := by decide +kernel
set_option maxRecDepth 20000 in
theorem ggX10_readingOf_X10_needPamphlet : GoodIn wsX10_readingOf wsX10_needPamphlet := goodIn_ca (goodIn_r _ [7, 8, 9, 2, 10, 11, 12, 13, 14, 15, 42, 43, 44, 45, 46, 47, 48, 49, 50, 51, 52] (by decide +kernel) (by decide +kernel)) (goodIn_sub (fun _ h => List.mem_cons_of_mem _ (List.mem_append_right _ h)) (by decide +kernel))
set_option maxRecDepth 20000 in
theorem gX10_readingOf_X10_needPamphlet : GoodIn wsX10_readingOf (wsV RX10 139 RX10 yX10_needPamphlet wsX10_needPamphlet) := goodIn_app (goodIn_of _ (by decide +kernel)) ggX10_readingOf_X10_needPamphlet
set_option maxRecDepth 20000 in
theorem ggX10_readingOf_X3_gatherReading : GoodIn wsX10_readingOf wsX3_gatherReading := goodIn_r _ [20, 21, 22, 23, 24, 25, 26, 27, 28, 29, 30, 31, 32, 33, 34, 13, 35, 36, 37, 38, 39, 40, 19, 41, 53, 54, 49, 50, 51, 52, 55, 56, 57, 58, 59, 60, 61, 62] (by decide +kernel) (by decide +kernel)
set_option maxRecDepth 20000 in
theorem gX10_readingOf_X3_gatherReading : GoodIn wsX10_readingOf (wsV RX10 265 RX3 yX3_gatherReading wsX3_gatherReading) := goodIn_app (goodIn_of _ (by decide +kernel)) ggX10_readingOf_X3_gatherReading
theorem dX10_readingOf_0 : decode cX10_readingOf 0 = .ok (.aload_n 0, 1) := by decide +kernel
theorem dX10_readingOf_1 : decode cX10_readingOf 1 = .ok (.iload_n 1, 1) := by decide +kernel
theorem dX10_readingOf_2 : decode cX10_readingOf 2 = .ok (.invokevirtual 139, 3) := by decide +kernel
theorem dX10_readingOf_5 : decode cX10_readingOf 5 = .ok (.aload_n 0, 1) := by decide +kernel
theorem dX10_readingOf_6 : decode cX10_readingOf 6 = .ok (.getfield 47, 3) := by decide +kernel
theorem dX10_readingOf_9 : decode cX10_readingOf 9 = .ok (.aload_n 0, 1) := by decide +kernel
theorem dX10_readingOf_10 : decode cX10_readingOf 10 = .ok (.getfield 10, 3) := by decide +kernel
theorem dX10_readingOf_13 : decode cX10_readingOf 13 = .ok (.iload_n 1, 1) := by decide +kernel
theorem dX10_readingOf_14 : decode cX10_readingOf 14 = .ok (.invokevirtual 265, 3) := by decide +kernel
theorem dX10_readingOf_17 : decode cX10_readingOf 17 = .ok (.ireturn, 1) := by decide +kernel
set_option maxRecDepth 20000 in
theorem ggX10_readAt_X10_needPamphlet : GoodIn wsX10_readAt wsX10_needPamphlet := goodIn_ca (goodIn_r _ [7, 8, 9, 2, 10, 11, 12, 13, 14, 15, 49, 50, 51, 52, 53, 54, 55, 56, 57, 58, 59] (by decide +kernel) (by decide +kernel)) (goodIn_sub (fun _ h => List.mem_cons_of_mem _ (List.mem_append_right _ h)) (by decide +kernel))
set_option maxRecDepth 20000 in
theorem gX10_readAt_X10_needPamphlet : GoodIn wsX10_readAt (wsV RX10 139 RX10 yX10_needPamphlet wsX10_needPamphlet) := goodIn_app (goodIn_of _ (by decide +kernel)) ggX10_readAt_X10_needPamphlet
set_option maxRecDepth 20000 in
theorem ggX10_readAt_X3_gatherReading : GoodIn wsX10_readAt wsX3_gatherReading := goodIn_r _ [20, 21, 22, 23, 24, 25, 26, 27, 28, 29, 30, 31, 32, 33, 34, 13, 35, 36, 37, 38, 39, 40, 19, 41, 60, 61, 56, 57, 58, 59, 62, 63, 64, 65, 66, 67, 68, 69] (by decide +kernel) (by decide +kernel)
set_option maxRecDepth 20000 in
theorem gX10_readAt_X3_gatherReading : GoodIn wsX10_readAt (wsV RX10 265 RX3 yX3_gatherReading wsX3_gatherReading) := goodIn_app (goodIn_of _ (by decide +kernel)) ggX10_readAt_X3_gatherReading
set_option maxRecDepth 20000 in
theorem ggX10_readAt_X10_needPlace : GoodIn wsX10_readAt wsX10_needPlace := goodIn_ca (goodIn_r _ [44, 8, 9] (by decide +kernel) (by decide +kernel)) (goodIn_sub (fun _ h => List.mem_cons_of_mem _ (List.mem_append_right _ h)) (by decide +kernel))
set_option maxRecDepth 20000 in
theorem gX10_readAt_X10_needPlace : GoodIn wsX10_readAt (va_wsS RX10 268 yX10_needPlace wsX10_needPlace) := goodIn_app (goodIn_of _ (by decide +kernel)) ggX10_readAt_X10_needPlace
set_option maxRecDepth 20000 in
theorem ggX10_readAt_X3_readIn : GoodIn wsX10_readAt wsX3_readIn := goodIn_r _ [48, 21, 28, 29, 30, 25, 31, 27, 60, 61] (by decide +kernel) (by decide +kernel)
set_option maxRecDepth 20000 in
theorem gX10_readAt_X3_readIn : GoodIn wsX10_readAt (wsV RX10 271 RX3 yX3_readIn wsX3_readIn) := goodIn_app (goodIn_of _ (by decide +kernel)) ggX10_readAt_X3_readIn
theorem dX10_readAt_0 : decode cX10_readAt 0 = .ok (.aload_n 0, 1) := by decide +kernel
theorem dX10_readAt_1 : decode cX10_readAt 1 = .ok (.iload_n 1, 1) := by decide +kernel
theorem dX10_readAt_2 : decode cX10_readAt 2 = .ok (.invokevirtual 139, 3) := by decide +kernel
theorem dX10_readAt_5 : decode cX10_readAt 5 = .ok (.iload_n 2, 1) := by decide +kernel
theorem dX10_readAt_6 : decode cX10_readAt 6 = .ok (.aload_n 0, 1) := by decide +kernel
theorem dX10_readAt_7 : decode cX10_readAt 7 = .ok (.getfield 47, 3) := by decide +kernel
theorem dX10_readAt_10 : decode cX10_readAt 10 = .ok (.aload_n 0, 1) := by decide +kernel
theorem dX10_readAt_11 : decode cX10_readAt 11 = .ok (.getfield 10, 3) := by decide +kernel
theorem dX10_readAt_14 : decode cX10_readAt 14 = .ok (.iload_n 1, 1) := by decide +kernel
theorem dX10_readAt_15 : decode cX10_readAt 15 = .ok (.invokevirtual 265, 3) := by decide +kernel
theorem dX10_readAt_18 : decode cX10_readAt 18 = .ok (.invokestatic 268, 3) := by decide +kernel
theorem dX10_readAt_21 : decode cX10_readAt 21 = .ok (.aload_n 0, 1) := by decide +kernel
theorem dX10_readAt_22 : decode cX10_readAt 22 = .ok (.getfield 47, 3) := by decide +kernel
theorem dX10_readAt_25 : decode cX10_readAt 25 = .ok (.iload_n 2, 1) := by decide +kernel
theorem dX10_readAt_26 : decode cX10_readAt 26 = .ok (.invokevirtual 271, 3) := by decide +kernel
theorem dX10_readAt_29 : decode cX10_readAt 29 = .ok (.ireturn, 1) := by decide +kernel
set_option maxRecDepth 20000 in
theorem ggX10_glossary_X1_gather : GoodIn wsX10_glossary wsX1_gather := goodIn_r _ [7, 8, 9, 10, 11, 12, 13, 14, 15, 16, 17, 18, 19, 20, 21, 22, 23, 24, 6, 25, 26, 27, 28, 29, 30, 31, 32, 33, 34, 35, 36, 37, 38, 39, 40, 41, 42, 43, 51, 52, 53, 54, 55, 56, 57, 58, 59, 60, 61, 62, 63, 64, 65, 66] (by decide +kernel) (by decide +kernel)
set_option maxRecDepth 20000 in
theorem gX10_glossary_X1_gather : GoodIn wsX10_glossary (wsV RX10 274 RX1 yX1_gather wsX1_gather) := goodIn_app (goodIn_of _ (by decide +kernel)) ggX10_glossary_X1_gather
theorem dX10_glossary_0 : decode cX10_glossary 0 = .ok (.aload_n 0, 1) := by decide +kernel
theorem dX10_glossary_1 : decode cX10_glossary 1 = .ok (.getfield 54, 3) := by decide +kernel
theorem dX10_glossary_4 : decode cX10_glossary 4 = .ok (.aload_n 0, 1) := by decide +kernel
theorem dX10_glossary_5 : decode cX10_glossary 5 = .ok (.getfield 10, 3) := by decide +kernel
theorem dX10_glossary_8 : decode cX10_glossary 8 = .ok (.invokevirtual 274, 3) := by decide +kernel
theorem dX10_glossary_11 : decode cX10_glossary 11 = .ok (.aload_n 0, 1) := by decide +kernel
theorem dX10_glossary_12 : decode cX10_glossary 12 = .ok (.getfield 54, 3) := by decide +kernel
theorem dX10_glossary_15 : decode cX10_glossary 15 = .ok (.getfield 277, 3) := by decide +kernel
theorem dX10_glossary_18 : decode cX10_glossary 18 = .ok (.ireturn, 1) := by decide +kernel
set_option maxRecDepth 20000 in
theorem ggX10_timesOf_X1_gather : GoodIn wsX10_timesOf wsX1_gather := goodIn_r _ [7, 8, 9, 10, 11, 12, 13, 14, 15, 16, 17, 18, 19, 20, 21, 22, 23, 24, 6, 25, 26, 27, 28, 29, 30, 31, 32, 33, 34, 35, 36, 37, 38, 39, 40, 41, 42, 43, 58, 59, 60, 61, 62, 63, 64, 65, 66, 67, 68, 69, 70, 71, 72, 73] (by decide +kernel) (by decide +kernel)
set_option maxRecDepth 20000 in
theorem gX10_timesOf_X1_gather : GoodIn wsX10_timesOf (wsV RX10 274 RX1 yX1_gather wsX1_gather) := goodIn_app (goodIn_of _ (by decide +kernel)) ggX10_timesOf_X1_gather
set_option maxRecDepth 20000 in
theorem ggX10_timesOf_X10_needPlace : GoodIn wsX10_timesOf wsX10_needPlace := goodIn_ca (goodIn_r _ [47, 48, 49] (by decide +kernel) (by decide +kernel)) (goodIn_sub (fun _ h => List.mem_cons_of_mem _ (List.mem_append_right _ h)) (by decide +kernel))
set_option maxRecDepth 20000 in
theorem gX10_timesOf_X10_needPlace : GoodIn wsX10_timesOf (va_wsS RX10 268 yX10_needPlace wsX10_needPlace) := goodIn_app (goodIn_of _ (by decide +kernel)) ggX10_timesOf_X10_needPlace
set_option maxRecDepth 20000 in
theorem ggX10_timesOf_X7_number : GoodIn wsX10_timesOf wsX7_number := goodIn_r _ [35, 21, 73] (by decide +kernel) (by decide +kernel)
set_option maxRecDepth 20000 in
theorem gX10_timesOf_X7_number : GoodIn wsX10_timesOf (wsV RX10 203 RX7 yX7_number wsX7_number) := goodIn_app (goodIn_of _ (by decide +kernel)) ggX10_timesOf_X7_number
theorem dX10_timesOf_0 : decode cX10_timesOf 0 = .ok (.aload_n 0, 1) := by decide +kernel
theorem dX10_timesOf_1 : decode cX10_timesOf 1 = .ok (.getfield 54, 3) := by decide +kernel
theorem dX10_timesOf_4 : decode cX10_timesOf 4 = .ok (.aload_n 0, 1) := by decide +kernel
theorem dX10_timesOf_5 : decode cX10_timesOf 5 = .ok (.getfield 10, 3) := by decide +kernel
theorem dX10_timesOf_8 : decode cX10_timesOf 8 = .ok (.invokevirtual 274, 3) := by decide +kernel
theorem dX10_timesOf_11 : decode cX10_timesOf 11 = .ok (.iload_n 1, 1) := by decide +kernel
theorem dX10_timesOf_12 : decode cX10_timesOf 12 = .ok (.aload_n 0, 1) := by decide +kernel
theorem dX10_timesOf_13 : decode cX10_timesOf 13 = .ok (.getfield 54, 3) := by decide +kernel
theorem dX10_timesOf_16 : decode cX10_timesOf 16 = .ok (.getfield 277, 3) := by decide +kernel
theorem dX10_timesOf_19 : decode cX10_timesOf 19 = .ok (.invokestatic 268, 3) := by decide +kernel
theorem dX10_timesOf_22 : decode cX10_timesOf 22 = .ok (.aload_n 0, 1) := by decide +kernel
theorem dX10_timesOf_23 : decode cX10_timesOf 23 = .ok (.getfield 54, 3) := by decide +kernel
theorem dX10_timesOf_26 : decode cX10_timesOf 26 = .ok (.getfield 280, 3) := by decide +kernel
theorem dX10_timesOf_29 : decode cX10_timesOf 29 = .ok (.iload_n 1, 1) := by decide +kernel
theorem dX10_timesOf_30 : decode cX10_timesOf 30 = .ok (.invokevirtual 203, 3) := by decide +kernel
theorem dX10_timesOf_33 : decode cX10_timesOf 33 = .ok (.ireturn, 1) := by decide +kernel
set_option maxRecDepth 20000 in
theorem ggX10_glossaryLetter_X1_gather : GoodIn wsX10_glossaryLetter wsX1_gather := goodIn_r _ [7, 8, 9, 10, 11, 12, 13, 14, 15, 16, 17, 18, 19, 20, 21, 22, 23, 24, 6, 25, 26, 27, 28, 29, 30, 31, 32, 33, 34, 35, 36, 37, 38, 39, 40, 41, 42, 43, 64, 65, 66, 67, 68, 69, 70, 71, 72, 73, 74, 75, 76, 77, 78, 79] (by decide +kernel) (by decide +kernel)
set_option maxRecDepth 20000 in
theorem gX10_glossaryLetter_X1_gather : GoodIn wsX10_glossaryLetter (wsV RX10 274 RX1 yX1_gather wsX1_gather) := goodIn_app (goodIn_of _ (by decide +kernel)) ggX10_glossaryLetter_X1_gather
set_option maxRecDepth 20000 in
theorem ggX10_glossaryLetter_X10_needPlace : GoodIn wsX10_glossaryLetter wsX10_needPlace := goodIn_ca (goodIn_r _ [47, 48, 49] (by decide +kernel) (by decide +kernel)) (goodIn_sub (fun _ h => List.mem_cons_of_mem _ (List.mem_append_right _ h)) (by decide +kernel))
set_option maxRecDepth 20000 in
theorem gX10_glossaryLetter_X10_needPlace : GoodIn wsX10_glossaryLetter (va_wsS RX10 268 yX10_needPlace wsX10_needPlace) := goodIn_app (goodIn_of _ (by decide +kernel)) ggX10_glossaryLetter_X10_needPlace
set_option maxRecDepth 20000 in
theorem ggX10_glossaryLetter_X10_needIndex : GoodIn wsX10_glossaryLetter wsX10_needIndex := goodIn_ca (goodIn_r _ [52, 48, 49] (by decide +kernel) (by decide +kernel)) (goodIn_sub (fun _ h => List.mem_cons_of_mem _ (List.mem_append_right _ h)) (by decide +kernel))
set_option maxRecDepth 20000 in
theorem gX10_glossaryLetter_X10_needIndex : GoodIn wsX10_glossaryLetter (va_wsS RX10 166 yX10_needIndex wsX10_needIndex) := goodIn_app (goodIn_of _ (by decide +kernel)) ggX10_glossaryLetter_X10_needIndex
set_option maxRecDepth 20000 in
theorem ggX10_glossaryLetter_X7_at : GoodIn wsX10_glossaryLetter wsX7_at := goodIn_r _ [20, 21, 79] (by decide +kernel) (by decide +kernel)
set_option maxRecDepth 20000 in
theorem gX10_glossaryLetter_X7_at : GoodIn wsX10_glossaryLetter (wsV RX10 173 RX7 yX7_at wsX7_at) := goodIn_app (goodIn_of _ (by decide +kernel)) ggX10_glossaryLetter_X7_at
set_option maxRecDepth 20000 in
theorem ggX10_glossaryLetter_X10_letterIn : GoodIn wsX10_glossaryLetter wsX10_letterIn := goodIn_r _ [56] (by decide +kernel) (by decide +kernel)
set_option maxRecDepth 20000 in
theorem gX10_glossaryLetter_X10_letterIn : GoodIn wsX10_glossaryLetter (va_wsS RX10 178 yX10_letterIn wsX10_letterIn) := goodIn_app (goodIn_of _ (by decide +kernel)) ggX10_glossaryLetter_X10_letterIn
theorem dX10_glossaryLetter_0 : decode cX10_glossaryLetter 0 = .ok (.aload_n 0, 1) := by decide +kernel
theorem dX10_glossaryLetter_1 : decode cX10_glossaryLetter 1 = .ok (.getfield 54, 3) := by decide +kernel
theorem dX10_glossaryLetter_4 : decode cX10_glossaryLetter 4 = .ok (.aload_n 0, 1) := by decide +kernel
theorem dX10_glossaryLetter_5 : decode cX10_glossaryLetter 5 = .ok (.getfield 10, 3) := by decide +kernel
theorem dX10_glossaryLetter_8 : decode cX10_glossaryLetter 8 = .ok (.invokevirtual 274, 3) := by decide +kernel
theorem dX10_glossaryLetter_11 : decode cX10_glossaryLetter 11 = .ok (.iload_n 1, 1) := by decide +kernel
theorem dX10_glossaryLetter_12 : decode cX10_glossaryLetter 12 = .ok (.aload_n 0, 1) := by decide +kernel
theorem dX10_glossaryLetter_13 : decode cX10_glossaryLetter 13 = .ok (.getfield 54, 3) := by decide +kernel
theorem dX10_glossaryLetter_16 : decode cX10_glossaryLetter 16 = .ok (.getfield 277, 3) := by decide +kernel
theorem dX10_glossaryLetter_19 : decode cX10_glossaryLetter 19 = .ok (.invokestatic 268, 3) := by decide +kernel
theorem dX10_glossaryLetter_22 : decode cX10_glossaryLetter 22 = .ok (.iload_n 2, 1) := by decide +kernel
theorem dX10_glossaryLetter_23 : decode cX10_glossaryLetter 23 = .ok (.invokestatic 166, 3) := by decide +kernel
theorem dX10_glossaryLetter_26 : decode cX10_glossaryLetter 26 = .ok (.aload_n 0, 1) := by decide +kernel
theorem dX10_glossaryLetter_27 : decode cX10_glossaryLetter 27 = .ok (.getfield 54, 3) := by decide +kernel
theorem dX10_glossaryLetter_30 : decode cX10_glossaryLetter 30 = .ok (.getfield 283, 3) := by decide +kernel
theorem dX10_glossaryLetter_33 : decode cX10_glossaryLetter 33 = .ok (.iload_n 1, 1) := by decide +kernel
theorem dX10_glossaryLetter_34 : decode cX10_glossaryLetter 34 = .ok (.invokevirtual 173, 3) := by decide +kernel
theorem dX10_glossaryLetter_37 : decode cX10_glossaryLetter 37 = .ok (.iload_n 2, 1) := by decide +kernel
theorem dX10_glossaryLetter_38 : decode cX10_glossaryLetter 38 = .ok (.invokestatic 178, 3) := by decide +kernel
theorem dX10_glossaryLetter_41 : decode cX10_glossaryLetter 41 = .ok (.ireturn, 1) := by decide +kernel
set_option maxRecDepth 20000 in
theorem ggX10_append_X0_add : GoodIn wsX10_append wsX0_add := goodIn_r _ [10, 11, 12, 13, 14, 15, 16, 17, 18, 26, 27, 28] (by decide +kernel) (by decide +kernel)
set_option maxRecDepth 20000 in
theorem gX10_append_X0_add : GoodIn wsX10_append (wsV RX10 290 RX0 yX0_add wsX0_add) := goodIn_app (goodIn_of _ (by decide +kernel)) ggX10_append_X0_add
theorem dX10_append_0 : decode cX10_append 0 = .ok (.iload_n 1, 1) := by decide +kernel
theorem dX10_append_1 : decode cX10_append 1 = .ok (.bipush 32, 2) := by decide +kernel
theorem dX10_append_3 : decode cX10_append 3 = .ok (.if_icmp .lt 9, 3) := by decide +kernel
theorem dX10_append_6 : decode cX10_append 6 = .ok (.iload_n 1, 1) := by decide +kernel
theorem dX10_append_7 : decode cX10_append 7 = .ok (.bipush 126, 2) := by decide +kernel
theorem dX10_append_9 : decode cX10_append 9 = .ok (.if_icmp .le 14, 3) := by decide +kernel
theorem dX10_append_12 : decode cX10_append 12 = .ok (.new 62, 3) := by decide +kernel
theorem dX10_append_15 : decode cX10_append 15 = .ok (.dup, 1) := by decide +kernel
theorem dX10_append_16 : decode cX10_append 16 = .ok (.ldc_w 286, 3) := by decide +kernel
theorem dX10_append_19 : decode cX10_append 19 = .ok (.invokespecial 66, 3) := by decide +kernel
theorem dX10_append_22 : decode cX10_append 22 = .ok (.athrow, 1) := by decide +kernel
theorem dX10_append_23 : decode cX10_append 23 = .ok (.aload_n 0, 1) := by decide +kernel
theorem dX10_append_24 : decode cX10_append 24 = .ok (.getfield 26, 3) := by decide +kernel
theorem dX10_append_27 : decode cX10_append 27 = .ok (.getfield 90, 3) := by decide +kernel
theorem dX10_append_30 : decode cX10_append 30 = .ok (.bipush 100, 2) := by decide +kernel
theorem dX10_append_32 : decode cX10_append 32 = .ok (.if_icmp .lt 14, 3) := by decide +kernel
theorem dX10_append_35 : decode cX10_append 35 = .ok (.new 73, 3) := by decide +kernel
theorem dX10_append_38 : decode cX10_append 38 = .ok (.dup, 1) := by decide +kernel
theorem dX10_append_39 : decode cX10_append 39 = .ok (.ldc_w 288, 3) := by decide +kernel
theorem dX10_append_42 : decode cX10_append 42 = .ok (.invokespecial 77, 3) := by decide +kernel
theorem dX10_append_45 : decode cX10_append 45 = .ok (.athrow, 1) := by decide +kernel
theorem dX10_append_46 : decode cX10_append 46 = .ok (.aload_n 0, 1) := by decide +kernel
theorem dX10_append_47 : decode cX10_append 47 = .ok (.getfield 26, 3) := by decide +kernel
theorem dX10_append_50 : decode cX10_append 50 = .ok (.iload_n 1, 1) := by decide +kernel
theorem dX10_append_51 : decode cX10_append 51 = .ok (.invokevirtual 290, 3) := by decide +kernel
theorem dX10_append_54 : decode cX10_append 54 = .ok (.aload_n 0, 1) := by decide +kernel
theorem dX10_append_55 : decode cX10_append 55 = .ok (.getfield 26, 3) := by decide +kernel
theorem dX10_append_58 : decode cX10_append 58 = .ok (.getfield 90, 3) := by decide +kernel
theorem dX10_append_61 : decode cX10_append 61 = .ok (.ireturn, 1) := by decide +kernel
theorem dX10_clearText_0 : decode cX10_clearText 0 = .ok (.aload_n 0, 1) := by decide +kernel
theorem dX10_clearText_1 : decode cX10_clearText 1 = .ok (.getfield 26, 3) := by decide +kernel
theorem dX10_clearText_4 : decode cX10_clearText 4 = .ok (.getfield 90, 3) := by decide +kernel
theorem dX10_clearText_7 : decode cX10_clearText 7 = .ok (.istore_n 1, 1) := by decide +kernel
theorem dX10_clearText_8 : decode cX10_clearText 8 = .ok (.aload_n 0, 1) := by decide +kernel
theorem dX10_clearText_9 : decode cX10_clearText 9 = .ok (.getfield 26, 3) := by decide +kernel
theorem dX10_clearText_12 : decode cX10_clearText 12 = .ok (.iconst 0, 1) := by decide +kernel
theorem dX10_clearText_13 : decode cX10_clearText 13 = .ok (.putfield 90, 3) := by decide +kernel
theorem dX10_clearText_16 : decode cX10_clearText 16 = .ok (.iload_n 1, 1) := by decide +kernel
theorem dX10_clearText_17 : decode cX10_clearText 17 = .ok (.ireturn, 1) := by decide +kernel
set_option maxRecDepth 20000 in
theorem ggX10_errorPosition_X6_read : GoodIn wsX10_errorPosition wsX6_read := goodIn_r _ [7, 8, 9, 10, 11, 12, 13, 14, 15, 16, 17, 18, 19, 20, 21, 22, 23, 24, 25, 26, 6, 27, 28, 29, 30, 31, 32, 33, 34, 35, 36, 37, 38, 39, 40, 41, 42, 43, 44, 45, 46, 47, 48, 49, 50, 51, 52, 53, 54, 55, 56, 57, 58, 59, 60, 61, 62, 63, 64, 65, 66, 67, 68, 69, 70, 71, 72, 73, 81, 82, 83, 84, 85, 86, 87, 88, 89, 90, 91, 92, 93, 94, 95, 96] (by decide +kernel) (by decide +kernel)
set_option maxRecDepth 20000 in
theorem gX10_errorPosition_X6_read : GoodIn wsX10_errorPosition (wsV RX10 182 RX6 yX6_read wsX6_read) := goodIn_app (goodIn_of _ (by decide +kernel)) ggX10_errorPosition_X6_read
theorem dX10_errorPosition_0 : decode cX10_errorPosition 0 = .ok (.aload_n 0, 1) := by decide +kernel
theorem dX10_errorPosition_1 : decode cX10_errorPosition 1 = .ok (.getfield 33, 3) := by decide +kernel
theorem dX10_errorPosition_4 : decode cX10_errorPosition 4 = .ok (.aload_n 0, 1) := by decide +kernel
theorem dX10_errorPosition_5 : decode cX10_errorPosition 5 = .ok (.getfield 26, 3) := by decide +kernel
theorem dX10_errorPosition_8 : decode cX10_errorPosition 8 = .ok (.invokevirtual 182, 3) := by decide +kernel
theorem dX10_errorPosition_11 : decode cX10_errorPosition 11 = .ok (.aload_n 0, 1) := by decide +kernel
theorem dX10_errorPosition_12 : decode cX10_errorPosition 12 = .ok (.getfield 33, 3) := by decide +kernel
theorem dX10_errorPosition_15 : decode cX10_errorPosition 15 = .ok (.getfield 292, 3) := by decide +kernel
theorem dX10_errorPosition_18 : decode cX10_errorPosition 18 = .ok (.ireturn, 1) := by decide +kernel
set_option maxRecDepth 20000 in
theorem ggX10_undo_X2_takeBack : GoodIn wsX10_undo wsX2_takeBack := goodIn_r _ [9, 10, 11, 12, 13, 8, 14, 15, 16, 17, 18, 19, 20, 21, 22, 23, 24, 25, 26, 27, 28, 29, 30, 31, 32, 33, 34, 35, 36, 37, 38, 39, 40, 41, 42, 43, 44, 45, 46, 47, 48, 49, 50, 51, 52, 60, 61, 62, 63, 64, 65, 66, 67, 68, 69, 70, 71, 72, 73, 74, 75, 76, 77] (by decide +kernel) (by decide +kernel)
set_option maxRecDepth 20000 in
theorem gX10_undo_X2_takeBack : GoodIn wsX10_undo (wsV RX10 298 RX2 yX2_takeBack wsX2_takeBack) := goodIn_app (goodIn_of _ (by decide +kernel)) ggX10_undo_X2_takeBack
theorem dX10_undo_0 : decode cX10_undo 0 = .ok (.aload_n 0, 1) := by decide +kernel
theorem dX10_undo_1 : decode cX10_undo 1 = .ok (.getfield 19, 3) := by decide +kernel
theorem dX10_undo_4 : decode cX10_undo 4 = .ok (.getfield 295, 3) := by decide +kernel
theorem dX10_undo_7 : decode cX10_undo 7 = .ok (.ifCond .ne 14, 3) := by decide +kernel
theorem dX10_undo_10 : decode cX10_undo 10 = .ok (.new 73, 3) := by decide +kernel
theorem dX10_undo_13 : decode cX10_undo 13 = .ok (.dup, 1) := by decide +kernel
theorem dX10_undo_14 : decode cX10_undo 14 = .ok (.ldc_w 296, 3) := by decide +kernel
theorem dX10_undo_17 : decode cX10_undo 17 = .ok (.invokespecial 77, 3) := by decide +kernel
theorem dX10_undo_20 : decode cX10_undo 20 = .ok (.athrow, 1) := by decide +kernel
theorem dX10_undo_21 : decode cX10_undo 21 = .ok (.aload_n 0, 1) := by decide +kernel
theorem dX10_undo_22 : decode cX10_undo 22 = .ok (.getfield 19, 3) := by decide +kernel
theorem dX10_undo_25 : decode cX10_undo 25 = .ok (.aload_n 0, 1) := by decide +kernel
theorem dX10_undo_26 : decode cX10_undo 26 = .ok (.getfield 10, 3) := by decide +kernel
theorem dX10_undo_29 : decode cX10_undo 29 = .ok (.invokevirtual 298, 3) := by decide +kernel
theorem dX10_undo_32 : decode cX10_undo 32 = .ok (.aload_n 0, 1) := by decide +kernel
theorem dX10_undo_33 : decode cX10_undo 33 = .ok (.getfield 19, 3) := by decide +kernel
theorem dX10_undo_36 : decode cX10_undo 36 = .ok (.getfield 295, 3) := by decide +kernel
theorem dX10_undo_39 : decode cX10_undo 39 = .ok (.ireturn, 1) := by decide +kernel
theorem dX10_savedStates_0 : decode cX10_savedStates 0 = .ok (.aload_n 0, 1) := by decide +kernel
theorem dX10_savedStates_1 : decode cX10_savedStates 1 = .ok (.getfield 19, 3) := by decide +kernel
theorem dX10_savedStates_4 : decode cX10_savedStates 4 = .ok (.getfield 295, 3) := by decide +kernel
theorem dX10_savedStates_7 : decode cX10_savedStates 7 = .ok (.ireturn, 1) := by decide +kernel
set_option maxRecDepth 20000 in
theorem ggX10_takeSnapshot_X9_copy : GoodIn wsX10_takeSnapshot wsX9_copy := goodIn_r _ [7, 8, 9, 10, 11, 12, 6, 13, 14, 15, 16, 17, 18, 19, 20, 21, 22, 23, 24, 25, 26, 27, 28, 29, 30, 31, 32, 33, 34, 35, 36, 37, 38, 51, 52, 53, 54, 55, 56, 57, 58, 59, 60, 61, 62, 63] (by decide +kernel) (by decide +kernel)
set_option maxRecDepth 20000 in
theorem gX10_takeSnapshot_X9_copy : GoodIn wsX10_takeSnapshot (wsV RX10 304 RX9 yX9_copy wsX9_copy) := goodIn_app (goodIn_of _ (by decide +kernel)) ggX10_takeSnapshot_X9_copy
theorem dX10_takeSnapshot_0 : decode cX10_takeSnapshot 0 = .ok (.aload_n 0, 1) := by decide +kernel
theorem dX10_takeSnapshot_1 : decode cX10_takeSnapshot 1 = .ok (.getfield 19, 3) := by decide +kernel
theorem dX10_takeSnapshot_4 : decode cX10_takeSnapshot 4 = .ok (.getfield 301, 3) := by decide +kernel
theorem dX10_takeSnapshot_7 : decode cX10_takeSnapshot 7 = .ok (.aload_n 0, 1) := by decide +kernel
theorem dX10_takeSnapshot_8 : decode cX10_takeSnapshot 8 = .ok (.getfield 10, 3) := by decide +kernel
theorem dX10_takeSnapshot_11 : decode cX10_takeSnapshot 11 = .ok (.invokevirtual 304, 3) := by decide +kernel
theorem dX10_takeSnapshot_14 : decode cX10_takeSnapshot 14 = .ok (.aload_n 0, 1) := by decide +kernel
theorem dX10_takeSnapshot_15 : decode cX10_takeSnapshot 15 = .ok (.getfield 19, 3) := by decide +kernel
theorem dX10_takeSnapshot_18 : decode cX10_takeSnapshot 18 = .ok (.iconst 1, 1) := by decide +kernel
theorem dX10_takeSnapshot_19 : decode cX10_takeSnapshot 19 = .ok (.putfield 307, 3) := by decide +kernel
theorem dX10_takeSnapshot_22 : decode cX10_takeSnapshot 22 = .ok (.aload_n 0, 1) := by decide +kernel
theorem dX10_takeSnapshot_23 : decode cX10_takeSnapshot 23 = .ok (.getfield 10, 3) := by decide +kernel
theorem dX10_takeSnapshot_26 : decode cX10_takeSnapshot 26 = .ok (.getfield 94, 3) := by decide +kernel
theorem dX10_takeSnapshot_29 : decode cX10_takeSnapshot 29 = .ok (.ireturn, 1) := by decide +kernel
set_option maxRecDepth 20000 in
theorem ggX10_restoreSnapshot_X2_save : GoodIn wsX10_restoreSnapshot wsX2_save := goodIn_r _ [9, 10, 11, 12, 13, 14, 8, 15, 16, 17, 18, 19, 20, 21, 22, 23, 24, 25, 26, 27, 28, 29, 30, 31, 32, 33, 34, 35, 36, 37, 38, 39, 40, 41, 42, 43, 44, 45, 46, 47, 48, 49, 50, 51, 52, 61, 62, 63, 64, 65, 66, 67, 68, 69, 70, 71, 72, 73, 74, 75, 76, 77, 78] (by decide +kernel) (by decide +kernel)
set_option maxRecDepth 20000 in
theorem gX10_restoreSnapshot_X2_save : GoodIn wsX10_restoreSnapshot (wsV RX10 78 RX2 yX2_save wsX2_save) := goodIn_app (goodIn_of _ (by decide +kernel)) ggX10_restoreSnapshot_X2_save
set_option maxRecDepth 20000 in
theorem ggX10_restoreSnapshot_X9_copy : GoodIn wsX10_restoreSnapshot wsX9_copy := goodIn_r _ [21, 22, 23, 24, 25, 26, 20, 27, 28, 29, 30, 31, 32, 33, 34, 35, 36, 37, 38, 39, 40, 41, 42, 43, 44, 45, 46, 47, 48, 49, 50, 51, 52, 66, 67, 68, 69, 70, 71, 72, 73, 74, 75, 76, 77, 78] (by decide +kernel) (by decide +kernel)
set_option maxRecDepth 20000 in
theorem gX10_restoreSnapshot_X9_copy : GoodIn wsX10_restoreSnapshot (wsV RX10 304 RX9 yX9_copy wsX9_copy) := goodIn_app (goodIn_of _ (by decide +kernel)) ggX10_restoreSnapshot_X9_copy
theorem dX10_restoreSnapshot_0 : decode cX10_restoreSnapshot 0 = .ok (.aload_n 0, 1) := by decide +kernel
theorem dX10_restoreSnapshot_1 : decode cX10_restoreSnapshot 1 = .ok (.getfield 19, 3) := by decide +kernel
theorem dX10_restoreSnapshot_4 : decode cX10_restoreSnapshot 4 = .ok (.getfield 307, 3) := by decide +kernel
theorem dX10_restoreSnapshot_7 : decode cX10_restoreSnapshot 7 = .ok (.ifCond .ne 14, 3) := by decide +kernel
theorem dX10_restoreSnapshot_10 : decode cX10_restoreSnapshot 10 = .ok (.new 73, 3) := by decide +kernel
theorem dX10_restoreSnapshot_13 : decode cX10_restoreSnapshot 13 = .ok (.dup, 1) := by decide +kernel
theorem dX10_restoreSnapshot_14 : decode cX10_restoreSnapshot 14 = .ok (.ldc_w 311, 3) := by decide +kernel
theorem dX10_restoreSnapshot_17 : decode cX10_restoreSnapshot 17 = .ok (.invokespecial 77, 3) := by decide +kernel
theorem dX10_restoreSnapshot_20 : decode cX10_restoreSnapshot 20 = .ok (.athrow, 1) := by decide +kernel
theorem dX10_restoreSnapshot_21 : decode cX10_restoreSnapshot 21 = .ok (.aload_n 0, 1) := by decide +kernel
theorem dX10_restoreSnapshot_22 : decode cX10_restoreSnapshot 22 = .ok (.getfield 19, 3) := by decide +kernel
theorem dX10_restoreSnapshot_25 : decode cX10_restoreSnapshot 25 = .ok (.aload_n 0, 1) := by decide +kernel
theorem dX10_restoreSnapshot_26 : decode cX10_restoreSnapshot 26 = .ok (.getfield 10, 3) := by decide +kernel
theorem dX10_restoreSnapshot_29 : decode cX10_restoreSnapshot 29 = .ok (.invokevirtual 78, 3) := by decide +kernel
theorem dX10_restoreSnapshot_32 : decode cX10_restoreSnapshot 32 = .ok (.aload_n 0, 1) := by decide +kernel
theorem dX10_restoreSnapshot_33 : decode cX10_restoreSnapshot 33 = .ok (.getfield 10, 3) := by decide +kernel
theorem dX10_restoreSnapshot_36 : decode cX10_restoreSnapshot 36 = .ok (.aload_n 0, 1) := by decide +kernel
theorem dX10_restoreSnapshot_37 : decode cX10_restoreSnapshot 37 = .ok (.getfield 19, 3) := by decide +kernel
theorem dX10_restoreSnapshot_40 : decode cX10_restoreSnapshot 40 = .ok (.getfield 301, 3) := by decide +kernel
theorem dX10_restoreSnapshot_43 : decode cX10_restoreSnapshot 43 = .ok (.invokevirtual 304, 3) := by decide +kernel
theorem dX10_restoreSnapshot_46 : decode cX10_restoreSnapshot 46 = .ok (.aload_n 0, 1) := by decide +kernel
theorem dX10_restoreSnapshot_47 : decode cX10_restoreSnapshot 47 = .ok (.getfield 10, 3) := by decide +kernel
theorem dX10_restoreSnapshot_50 : decode cX10_restoreSnapshot 50 = .ok (.getfield 94, 3) := by decide +kernel
theorem dX10_restoreSnapshot_53 : decode cX10_restoreSnapshot 53 = .ok (.ireturn, 1) := by decide +kernel
theorem dX10_isAuthor_0 : decode cX10_isAuthor 0 = .ok (.iload_n 0, 1) := by decide +kernel
theorem dX10_isAuthor_1 : decode cX10_isAuthor 1 = .ok (.ifCond .lt 13, 3) := by decide +kernel
theorem dX10_isAuthor_4 : decode cX10_isAuthor 4 = .ok (.iload_n 0, 1) := by decide +kernel
theorem dX10_isAuthor_5 : decode cX10_isAuthor 5 = .ok (.bipush 8, 2) := by decide +kernel
theorem dX10_isAuthor_7 : decode cX10_isAuthor 7 = .ok (.if_icmp .ge 7, 3) := by decide +kernel
theorem dX10_isAuthor_10 : decode cX10_isAuthor 10 = .ok (.iconst 1, 1) := by decide +kernel
theorem dX10_isAuthor_11 : decode cX10_isAuthor 11 = .ok (.goto 4, 3) := by decide +kernel
theorem dX10_isAuthor_14 : decode cX10_isAuthor 14 = .ok (.iconst 0, 1) := by decide +kernel
theorem dX10_isAuthor_15 : decode cX10_isAuthor 15 = .ok (.ireturn, 1) := by decide +kernel
set_option maxRecDepth 20000 in
theorem ggX10_needAuthor_X10_isAuthor : GoodIn wsX10_needAuthor wsX10_isAuthor := goodIn_r _ [6] (by decide +kernel) (by decide +kernel)
set_option maxRecDepth 20000 in
theorem gX10_needAuthor_X10_isAuthor : GoodIn wsX10_needAuthor (va_wsS RX10 58 yX10_isAuthor wsX10_isAuthor) := goodIn_app (goodIn_of _ (by decide +kernel)) ggX10_needAuthor_X10_isAuthor
theorem dX10_needAuthor_0 : decode cX10_needAuthor 0 = .ok (.iload_n 0, 1) := by decide +kernel
theorem dX10_needAuthor_1 : decode cX10_needAuthor 1 = .ok (.invokestatic 58, 3) := by decide +kernel
theorem dX10_needAuthor_4 : decode cX10_needAuthor 4 = .ok (.ifCond .ne 14, 3) := by decide +kernel
theorem dX10_needAuthor_7 : decode cX10_needAuthor 7 = .ok (.new 152, 3) := by decide +kernel
theorem dX10_needAuthor_10 : decode cX10_needAuthor 10 = .ok (.dup, 1) := by decide +kernel
theorem dX10_needAuthor_11 : decode cX10_needAuthor 11 = .ok (.ldc_w 313, 3) := by decide +kernel
theorem dX10_needAuthor_14 : decode cX10_needAuthor 14 = .ok (.invokespecial 156, 3) := by decide +kernel
theorem dX10_needAuthor_17 : decode cX10_needAuthor 17 = .ok (.athrow, 1) := by decide +kernel
theorem dX10_needAuthor_18 : decode cX10_needAuthor 18 = .ok (.return_, 1) := by decide +kernel
set_option maxRecDepth 20000 in
theorem ggX10_needPamphlet_X9_has : GoodIn wsX10_needPamphlet wsX9_has := goodIn_r _ [8, 9, 17, 18, 19, 20] (by decide +kernel) (by decide +kernel)
set_option maxRecDepth 20000 in
theorem gX10_needPamphlet_X9_has : GoodIn wsX10_needPamphlet (wsV RX10 315 RX9 yX9_has wsX9_has) := goodIn_app (goodIn_of _ (by decide +kernel)) ggX10_needPamphlet_X9_has
theorem dX10_needPamphlet_0 : decode cX10_needPamphlet 0 = .ok (.aload_n 0, 1) := by decide +kernel
theorem dX10_needPamphlet_1 : decode cX10_needPamphlet 1 = .ok (.getfield 10, 3) := by decide +kernel
theorem dX10_needPamphlet_4 : decode cX10_needPamphlet 4 = .ok (.iload_n 1, 1) := by decide +kernel
theorem dX10_needPamphlet_5 : decode cX10_needPamphlet 5 = .ok (.invokevirtual 315, 3) := by decide +kernel
theorem dX10_needPamphlet_8 : decode cX10_needPamphlet 8 = .ok (.ifCond .ne 14, 3) := by decide +kernel
theorem dX10_needPamphlet_11 : decode cX10_needPamphlet 11 = .ok (.new 152, 3) := by decide +kernel
theorem dX10_needPamphlet_14 : decode cX10_needPamphlet 14 = .ok (.dup, 1) := by decide +kernel
theorem dX10_needPamphlet_15 : decode cX10_needPamphlet 15 = .ok (.ldc_w 318, 3) := by decide +kernel
theorem dX10_needPamphlet_18 : decode cX10_needPamphlet 18 = .ok (.invokespecial 156, 3) := by decide +kernel
theorem dX10_needPamphlet_21 : decode cX10_needPamphlet 21 = .ok (.athrow, 1) := by decide +kernel
theorem dX10_needPamphlet_22 : decode cX10_needPamphlet 22 = .ok (.return_, 1) := by decide +kernel
set_option maxRecDepth 20000 in
theorem ggX10_needWord_X10_needPamphlet : GoodIn wsX10_needWord wsX10_needPamphlet := goodIn_ca (goodIn_r _ [8, 1, 2, 3, 9, 10, 11, 12, 13, 14, 21, 22, 23, 24, 25, 26, 27, 36, 37, 38, 39] (by decide +kernel) (by decide +kernel)) (goodIn_sub (fun _ h => List.mem_cons_of_mem _ (List.mem_append_right _ h)) (by decide +kernel))
set_option maxRecDepth 20000 in
theorem gX10_needWord_X10_needPamphlet : GoodIn wsX10_needWord (wsV RX10 139 RX10 yX10_needPamphlet wsX10_needPamphlet) := goodIn_app (goodIn_of _ (by decide +kernel)) ggX10_needWord_X10_needPamphlet
set_option maxRecDepth 20000 in
theorem ggX10_needWord_X9_at : GoodIn wsX10_needWord wsX9_at := goodIn_r _ [18, 19, 20, 36, 37, 38, 39] (by decide +kernel) (by decide +kernel)
set_option maxRecDepth 20000 in
theorem gX10_needWord_X9_at : GoodIn wsX10_needWord (wsV RX10 128 RX9 yX9_at wsX9_at) := goodIn_app (goodIn_of _ (by decide +kernel)) ggX10_needWord_X9_at
theorem dX10_needWord_0 : decode cX10_needWord 0 = .ok (.aload_n 0, 1) := by decide +kernel
theorem dX10_needWord_1 : decode cX10_needWord 1 = .ok (.iload_n 1, 1) := by decide +kernel
theorem dX10_needWord_2 : decode cX10_needWord 2 = .ok (.invokevirtual 139, 3) := by decide +kernel
theorem dX10_needWord_5 : decode cX10_needWord 5 = .ok (.iload_n 2, 1) := by decide +kernel
theorem dX10_needWord_6 : decode cX10_needWord 6 = .ok (.ifCond .lt 18, 3) := by decide +kernel
theorem dX10_needWord_9 : decode cX10_needWord 9 = .ok (.iload_n 2, 1) := by decide +kernel
theorem dX10_needWord_10 : decode cX10_needWord 10 = .ok (.aload_n 0, 1) := by decide +kernel
theorem dX10_needWord_11 : decode cX10_needWord 11 = .ok (.getfield 10, 3) := by decide +kernel
theorem dX10_needWord_14 : decode cX10_needWord 14 = .ok (.iload_n 1, 1) := by decide +kernel
theorem dX10_needWord_15 : decode cX10_needWord 15 = .ok (.invokevirtual 128, 3) := by decide +kernel
theorem dX10_needWord_18 : decode cX10_needWord 18 = .ok (.getfield 146, 3) := by decide +kernel
theorem dX10_needWord_21 : decode cX10_needWord 21 = .ok (.if_icmp .lt 14, 3) := by decide +kernel
theorem dX10_needWord_24 : decode cX10_needWord 24 = .ok (.new 152, 3) := by decide +kernel
theorem dX10_needWord_27 : decode cX10_needWord 27 = .ok (.dup, 1) := by decide +kernel
theorem dX10_needWord_28 : decode cX10_needWord 28 = .ok (.ldc_w 320, 3) := by decide +kernel
theorem dX10_needWord_31 : decode cX10_needWord 31 = .ok (.invokespecial 156, 3) := by decide +kernel
theorem dX10_needWord_34 : decode cX10_needWord 34 = .ok (.athrow, 1) := by decide +kernel
theorem dX10_needWord_35 : decode cX10_needWord 35 = .ok (.return_, 1) := by decide +kernel
set_option maxRecDepth 20000 in
theorem ggX10_needQuotation_X10_needPamphlet : GoodIn wsX10_needQuotation wsX10_needPamphlet := goodIn_ca (goodIn_r _ [8, 1, 2, 3, 9, 10, 11, 12, 13, 14, 21, 22, 23, 24, 25, 26, 27, 36, 37, 38, 39] (by decide +kernel) (by decide +kernel)) (goodIn_sub (fun _ h => List.mem_cons_of_mem _ (List.mem_append_right _ h)) (by decide +kernel))
set_option maxRecDepth 20000 in
theorem gX10_needQuotation_X10_needPamphlet : GoodIn wsX10_needQuotation (wsV RX10 139 RX10 yX10_needPamphlet wsX10_needPamphlet) := goodIn_app (goodIn_of _ (by decide +kernel)) ggX10_needQuotation_X10_needPamphlet
set_option maxRecDepth 20000 in
theorem ggX10_needQuotation_X9_at : GoodIn wsX10_needQuotation wsX9_at := goodIn_r _ [18, 19, 20, 36, 37, 38, 39] (by decide +kernel) (by decide +kernel)
set_option maxRecDepth 20000 in
theorem gX10_needQuotation_X9_at : GoodIn wsX10_needQuotation (wsV RX10 128 RX9 yX9_at wsX9_at) := goodIn_app (goodIn_of _ (by decide +kernel)) ggX10_needQuotation_X9_at
theorem dX10_needQuotation_0 : decode cX10_needQuotation 0 = .ok (.aload_n 0, 1) := by decide +kernel
theorem dX10_needQuotation_1 : decode cX10_needQuotation 1 = .ok (.iload_n 1, 1) := by decide +kernel
theorem dX10_needQuotation_2 : decode cX10_needQuotation 2 = .ok (.invokevirtual 139, 3) := by decide +kernel
theorem dX10_needQuotation_5 : decode cX10_needQuotation 5 = .ok (.iload_n 2, 1) := by decide +kernel
theorem dX10_needQuotation_6 : decode cX10_needQuotation 6 = .ok (.ifCond .lt 18, 3) := by decide +kernel
theorem dX10_needQuotation_9 : decode cX10_needQuotation 9 = .ok (.iload_n 2, 1) := by decide +kernel
theorem dX10_needQuotation_10 : decode cX10_needQuotation 10 = .ok (.aload_n 0, 1) := by decide +kernel
theorem dX10_needQuotation_11 : decode cX10_needQuotation 11 = .ok (.getfield 10, 3) := by decide +kernel
theorem dX10_needQuotation_14 : decode cX10_needQuotation 14 = .ok (.iload_n 1, 1) := by decide +kernel
theorem dX10_needQuotation_15 : decode cX10_needQuotation 15 = .ok (.invokevirtual 128, 3) := by decide +kernel
theorem dX10_needQuotation_18 : decode cX10_needQuotation 18 = .ok (.getfield 197, 3) := by decide +kernel
theorem dX10_needQuotation_21 : decode cX10_needQuotation 21 = .ok (.if_icmp .lt 14, 3) := by decide +kernel
theorem dX10_needQuotation_24 : decode cX10_needQuotation 24 = .ok (.new 152, 3) := by decide +kernel
theorem dX10_needQuotation_27 : decode cX10_needQuotation 27 = .ok (.dup, 1) := by decide +kernel
theorem dX10_needQuotation_28 : decode cX10_needQuotation 28 = .ok (.ldc_w 322, 3) := by decide +kernel
theorem dX10_needQuotation_31 : decode cX10_needQuotation 31 = .ok (.invokespecial 156, 3) := by decide +kernel
theorem dX10_needQuotation_34 : decode cX10_needQuotation 34 = .ok (.athrow, 1) := by decide +kernel
theorem dX10_needQuotation_35 : decode cX10_needQuotation 35 = .ok (.return_, 1) := by decide +kernel
theorem dX10_needPlace_0 : decode cX10_needPlace 0 = .ok (.iload_n 0, 1) := by decide +kernel
theorem dX10_needPlace_1 : decode cX10_needPlace 1 = .ok (.ifCond .lt 8, 3) := by decide +kernel
theorem dX10_needPlace_4 : decode cX10_needPlace 4 = .ok (.iload_n 0, 1) := by decide +kernel
theorem dX10_needPlace_5 : decode cX10_needPlace 5 = .ok (.iload_n 1, 1) := by decide +kernel
theorem dX10_needPlace_6 : decode cX10_needPlace 6 = .ok (.if_icmp .lt 14, 3) := by decide +kernel
theorem dX10_needPlace_9 : decode cX10_needPlace 9 = .ok (.new 152, 3) := by decide +kernel
theorem dX10_needPlace_12 : decode cX10_needPlace 12 = .ok (.dup, 1) := by decide +kernel
theorem dX10_needPlace_13 : decode cX10_needPlace 13 = .ok (.ldc_w 324, 3) := by decide +kernel
theorem dX10_needPlace_16 : decode cX10_needPlace 16 = .ok (.invokespecial 156, 3) := by decide +kernel
theorem dX10_needPlace_19 : decode cX10_needPlace 19 = .ok (.athrow, 1) := by decide +kernel
theorem dX10_needPlace_20 : decode cX10_needPlace 20 = .ok (.return_, 1) := by decide +kernel
theorem dX10_needIndex_0 : decode cX10_needIndex 0 = .ok (.iload_n 0, 1) := by decide +kernel
theorem dX10_needIndex_1 : decode cX10_needIndex 1 = .ok (.ifCond .ge 14, 3) := by decide +kernel
theorem dX10_needIndex_4 : decode cX10_needIndex 4 = .ok (.new 152, 3) := by decide +kernel
theorem dX10_needIndex_7 : decode cX10_needIndex 7 = .ok (.dup, 1) := by decide +kernel
theorem dX10_needIndex_8 : decode cX10_needIndex 8 = .ok (.ldc_w 326, 3) := by decide +kernel
theorem dX10_needIndex_11 : decode cX10_needIndex 11 = .ok (.invokespecial 156, 3) := by decide +kernel
theorem dX10_needIndex_14 : decode cX10_needIndex 14 = .ok (.athrow, 1) := by decide +kernel
theorem dX10_needIndex_15 : decode cX10_needIndex 15 = .ok (.return_, 1) := by decide +kernel
theorem dX10_withLetter_0 : decode cX10_withLetter 0 = .ok (.lload_n 0, 1) := by decide +kernel
theorem dX10_withLetter_1 : decode cX10_withLetter 1 = .ok (.iload_n 3, 1) := by decide +kernel
theorem dX10_withLetter_2 : decode cX10_withLetter 2 = .ok (.bipush 97, 2) := by decide +kernel
theorem dX10_withLetter_4 : decode cX10_withLetter 4 = .ok (.isub, 1) := by decide +kernel
theorem dX10_withLetter_5 : decode cX10_withLetter 5 = .ok (.iconst 1, 1) := by decide +kernel
theorem dX10_withLetter_6 : decode cX10_withLetter 6 = .ok (.iadd, 1) := by decide +kernel
theorem dX10_withLetter_7 : decode cX10_withLetter 7 = .ok (.i2l, 1) := by decide +kernel
theorem dX10_withLetter_8 : decode cX10_withLetter 8 = .ok (.iconst 5, 1) := by decide +kernel
theorem dX10_withLetter_9 : decode cX10_withLetter 9 = .ok (.bipush 6, 2) := by decide +kernel
theorem dX10_withLetter_11 : decode cX10_withLetter 11 = .ok (.iload_n 2, 1) := by decide +kernel
theorem dX10_withLetter_12 : decode cX10_withLetter 12 = .ok (.isub, 1) := by decide +kernel
theorem dX10_withLetter_13 : decode cX10_withLetter 13 = .ok (.imul, 1) := by decide +kernel
theorem dX10_withLetter_14 : decode cX10_withLetter 14 = .ok (.lshl, 1) := by decide +kernel
theorem dX10_withLetter_15 : decode cX10_withLetter 15 = .ok (.lor, 1) := by decide +kernel
theorem dX10_withLetter_16 : decode cX10_withLetter 16 = .ok (.lreturn, 1) := by decide +kernel
theorem dX10_letterIn_0 : decode cX10_letterIn 0 = .ok (.iload_n 2, 1) := by decide +kernel
theorem dX10_letterIn_1 : decode cX10_letterIn 1 = .ok (.ifCond .lt 9, 3) := by decide +kernel
theorem dX10_letterIn_4 : decode cX10_letterIn 4 = .ok (.iload_n 2, 1) := by decide +kernel
theorem dX10_letterIn_5 : decode cX10_letterIn 5 = .ok (.bipush 7, 2) := by decide +kernel
theorem dX10_letterIn_7 : decode cX10_letterIn 7 = .ok (.if_icmp .lt 5, 3) := by decide +kernel
theorem dX10_letterIn_10 : decode cX10_letterIn 10 = .ok (.iconst (-1), 1) := by decide +kernel
theorem dX10_letterIn_11 : decode cX10_letterIn 11 = .ok (.ireturn, 1) := by decide +kernel
theorem dX10_letterIn_12 : decode cX10_letterIn 12 = .ok (.lload_n 0, 1) := by decide +kernel
theorem dX10_letterIn_13 : decode cX10_letterIn 13 = .ok (.iconst 5, 1) := by decide +kernel
theorem dX10_letterIn_14 : decode cX10_letterIn 14 = .ok (.bipush 6, 2) := by decide +kernel
theorem dX10_letterIn_16 : decode cX10_letterIn 16 = .ok (.iload_n 2, 1) := by decide +kernel
theorem dX10_letterIn_17 : decode cX10_letterIn 17 = .ok (.isub, 1) := by decide +kernel
theorem dX10_letterIn_18 : decode cX10_letterIn 18 = .ok (.imul, 1) := by decide +kernel
theorem dX10_letterIn_19 : decode cX10_letterIn 19 = .ok (.lshr, 1) := by decide +kernel
theorem dX10_letterIn_20 : decode cX10_letterIn 20 = .ok (.l2i, 1) := by decide +kernel
theorem dX10_letterIn_21 : decode cX10_letterIn 21 = .ok (.bipush 31, 2) := by decide +kernel
theorem dX10_letterIn_23 : decode cX10_letterIn 23 = .ok (.iand, 1) := by decide +kernel
theorem dX10_letterIn_24 : decode cX10_letterIn 24 = .ok (.istore_n 3, 1) := by decide +kernel
theorem dX10_letterIn_25 : decode cX10_letterIn 25 = .ok (.iload_n 3, 1) := by decide +kernel
theorem dX10_letterIn_26 : decode cX10_letterIn 26 = .ok (.ifCond .ne 7, 3) := by decide +kernel
theorem dX10_letterIn_29 : decode cX10_letterIn 29 = .ok (.iconst (-1), 1) := by decide +kernel
theorem dX10_letterIn_30 : decode cX10_letterIn 30 = .ok (.goto 9, 3) := by decide +kernel
theorem dX10_letterIn_33 : decode cX10_letterIn 33 = .ok (.bipush 97, 2) := by decide +kernel
theorem dX10_letterIn_35 : decode cX10_letterIn 35 = .ok (.iload_n 3, 1) := by decide +kernel
theorem dX10_letterIn_36 : decode cX10_letterIn 36 = .ok (.iadd, 1) := by decide +kernel
theorem dX10_letterIn_37 : decode cX10_letterIn 37 = .ok (.iconst 1, 1) := by decide +kernel
theorem dX10_letterIn_38 : decode cX10_letterIn 38 = .ok (.isub, 1) := by decide +kernel
theorem dX10_letterIn_39 : decode cX10_letterIn 39 = .ok (.ireturn, 1) := by decide +kernel
