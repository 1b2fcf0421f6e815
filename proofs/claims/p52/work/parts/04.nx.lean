set_option maxRecDepth 20000 in
theorem ggX0_init_X7_init : GoodIn wsX0_init wsX7_init := goodIn_r _ [10, 11, 2, 3, 12, 13, 14, 15, 16, 17, 18] (by decide +kernel) (by decide +kernel)
set_option maxRecDepth 20000 in
theorem gX0_init_X7_init : GoodIn wsX0_init (wsX7_init) := ggX0_init_X7_init
theorem dX0_init_0 : decode cX0_init 0 = .ok (.aload_n 0, 1) := by decide +kernel
theorem dX0_init_1 : decode cX0_init 1 = .ok (.invokespecial 3, 3) := by decide +kernel
theorem dX0_init_4 : decode cX0_init 4 = .ok (.aload_n 0, 1) := by decide +kernel
theorem dX0_init_5 : decode cX0_init 5 = .ok (.new 9, 3) := by decide +kernel
theorem dX0_init_8 : decode cX0_init 8 = .ok (.dup, 1) := by decide +kernel
theorem dX0_init_9 : decode cX0_init 9 = .ok (.bipush 100, 2) := by decide +kernel
theorem dX0_init_11 : decode cX0_init 11 = .ok (.invokespecial 11, 3) := by decide +kernel
theorem dX0_init_14 : decode cX0_init 14 = .ok (.putfield 14, 3) := by decide +kernel
theorem dX0_init_17 : decode cX0_init 17 = .ok (.return_, 1) := by decide +kernel
set_option maxRecDepth 20000 in
theorem ggX0_add_X7_put : GoodIn wsX0_add wsX7_put := goodIn_r _ [7, 8, 11] (by decide +kernel) (by decide +kernel)
set_option maxRecDepth 20000 in
theorem gX0_add_X7_put : GoodIn wsX0_add (wsV RX0 24 RX7 yX7_put wsX7_put) := goodIn_app (goodIn_of _ (by decide +kernel)) ggX0_add_X7_put
theorem dX0_add_0 : decode cX0_add 0 = .ok (.aload_n 0, 1) := by decide +kernel
theorem dX0_add_1 : decode cX0_add 1 = .ok (.getfield 14, 3) := by decide +kernel
theorem dX0_add_4 : decode cX0_add 4 = .ok (.aload_n 0, 1) := by decide +kernel
theorem dX0_add_5 : decode cX0_add 5 = .ok (.getfield 20, 3) := by decide +kernel
theorem dX0_add_8 : decode cX0_add 8 = .ok (.iload_n 1, 1) := by decide +kernel
theorem dX0_add_9 : decode cX0_add 9 = .ok (.i2l, 1) := by decide +kernel
theorem dX0_add_10 : decode cX0_add 10 = .ok (.invokevirtual 24, 3) := by decide +kernel
theorem dX0_add_13 : decode cX0_add 13 = .ok (.aload_n 0, 1) := by decide +kernel
theorem dX0_add_14 : decode cX0_add 14 = .ok (.dup, 1) := by decide +kernel
theorem dX0_add_15 : decode cX0_add 15 = .ok (.getfield 20, 3) := by decide +kernel
theorem dX0_add_18 : decode cX0_add 18 = .ok (.iconst 1, 1) := by decide +kernel
theorem dX0_add_19 : decode cX0_add 19 = .ok (.iadd, 1) := by decide +kernel
theorem dX0_add_20 : decode cX0_add 20 = .ok (.putfield 20, 3) := by decide +kernel
theorem dX0_add_23 : decode cX0_add 23 = .ok (.return_, 1) := by decide +kernel
set_option maxRecDepth 20000 in
theorem ggX1_init_X7_init : GoodIn wsX1_init wsX7_init := goodIn_r _ [11, 12, 2, 3, 13, 14, 15, 16, 17, 18, 19] (by decide +kernel) (by decide +kernel)
set_option maxRecDepth 20000 in
theorem gX1_init_X7_init : GoodIn wsX1_init (wsX7_init) := ggX1_init_X7_init
theorem dX1_init_0 : decode cX1_init 0 = .ok (.aload_n 0, 1) := by decide +kernel
theorem dX1_init_1 : decode cX1_init 1 = .ok (.invokespecial 3, 3) := by decide +kernel
theorem dX1_init_4 : decode cX1_init 4 = .ok (.aload_n 0, 1) := by decide +kernel
theorem dX1_init_5 : decode cX1_init 5 = .ok (.new 9, 3) := by decide +kernel
theorem dX1_init_8 : decode cX1_init 8 = .ok (.dup, 1) := by decide +kernel
theorem dX1_init_9 : decode cX1_init 9 = .ok (.sipush 1200, 3) := by decide +kernel
theorem dX1_init_12 : decode cX1_init 12 = .ok (.invokespecial 11, 3) := by decide +kernel
theorem dX1_init_15 : decode cX1_init 15 = .ok (.putfield 14, 3) := by decide +kernel
theorem dX1_init_18 : decode cX1_init 18 = .ok (.aload_n 0, 1) := by decide +kernel
theorem dX1_init_19 : decode cX1_init 19 = .ok (.new 9, 3) := by decide +kernel
theorem dX1_init_22 : decode cX1_init 22 = .ok (.dup, 1) := by decide +kernel
theorem dX1_init_23 : decode cX1_init 23 = .ok (.sipush 1200, 3) := by decide +kernel
theorem dX1_init_26 : decode cX1_init 26 = .ok (.invokespecial 11, 3) := by decide +kernel
theorem dX1_init_29 : decode cX1_init 29 = .ok (.putfield 20, 3) := by decide +kernel
theorem dX1_init_32 : decode cX1_init 32 = .ok (.return_, 1) := by decide +kernel
set_option maxRecDepth 20000 in
theorem ggX1_gather_X9_at : GoodIn wsX1_gather wsX9_at := goodIn_r _ [6, 7, 8, 41, 42, 43, 44] (by decide +kernel) (by decide +kernel)
set_option maxRecDepth 20000 in
theorem gX1_gather_X9_at : GoodIn wsX1_gather (wsV RX1 32 RX9 yX9_at wsX9_at) := goodIn_app (goodIn_of _ (by decide +kernel)) ggX1_gather_X9_at
set_option maxRecDepth 20000 in
theorem ggX1_gather_X7_at : GoodIn wsX1_gather wsX7_at := goodIn_r _ [13, 14, 53] (by decide +kernel) (by decide +kernel)
set_option maxRecDepth 20000 in
theorem gX1_gather_X7_at : GoodIn wsX1_gather (wsV RX1 44 RX7 yX7_at wsX7_at) := goodIn_app (goodIn_of _ (by decide +kernel)) ggX1_gather_X7_at
set_option maxRecDepth 20000 in
theorem ggX1_gather_X1_count : GoodIn wsX1_gather wsX1_count := goodIn_r _ [19, 1, 20, 21, 9, 10, 11, 12, 13, 14, 22, 23, 24, 25, 26, 27, 28, 29, 38, 39, 40, 53] (by decide +kernel) (by decide +kernel)
set_option maxRecDepth 20000 in
theorem gX1_gather_X1_count : GoodIn wsX1_gather (wsV RX1 47 RX1 yX1_count wsX1_count) := goodIn_app (goodIn_of _ (by decide +kernel)) ggX1_gather_X1_count
set_option maxRecDepth 20000 in
theorem ggX1_gather_X1_moveForward : GoodIn wsX1_gather wsX1_moveForward := goodIn_r _ [33, 20, 21, 9, 10, 11, 12, 13, 14, 26, 27, 28, 29, 34, 35, 36, 18, 37, 22, 23, 24, 25, 38, 39, 40, 53] (by decide +kernel) (by decide +kernel)
set_option maxRecDepth 20000 in
theorem gX1_gather_X1_moveForward : GoodIn wsX1_gather (wsV RX1 50 RX1 yX1_moveForward wsX1_moveForward) := goodIn_app (goodIn_of _ (by decide +kernel)) ggX1_gather_X1_moveForward
theorem dX1_gather_0 : decode cX1_gather 0 = .ok (.aload_n 0, 1) := by decide +kernel
theorem dX1_gather_1 : decode cX1_gather 1 = .ok (.iconst 0, 1) := by decide +kernel
theorem dX1_gather_2 : decode cX1_gather 2 = .ok (.putfield 23, 3) := by decide +kernel
theorem dX1_gather_5 : decode cX1_gather 5 = .ok (.iconst 0, 1) := by decide +kernel
theorem dX1_gather_6 : decode cX1_gather 6 = .ok (.istore_n 2, 1) := by decide +kernel
theorem dX1_gather_7 : decode cX1_gather 7 = .ok (.iload_n 2, 1) := by decide +kernel
theorem dX1_gather_8 : decode cX1_gather 8 = .ok (.aload_n 1, 1) := by decide +kernel
theorem dX1_gather_9 : decode cX1_gather 9 = .ok (.getfield 27, 3) := by decide +kernel
theorem dX1_gather_12 : decode cX1_gather 12 = .ok (.if_icmp .ge 46, 3) := by decide +kernel
theorem dX1_gather_15 : decode cX1_gather 15 = .ok (.aload_n 1, 1) := by decide +kernel
theorem dX1_gather_16 : decode cX1_gather 16 = .ok (.iload_n 2, 1) := by decide +kernel
theorem dX1_gather_17 : decode cX1_gather 17 = .ok (.invokevirtual 32, 3) := by decide +kernel
theorem dX1_gather_20 : decode cX1_gather 20 = .ok (.astore_n 3, 1) := by decide +kernel
theorem dX1_gather_21 : decode cX1_gather 21 = .ok (.iconst 0, 1) := by decide +kernel
theorem dX1_gather_22 : decode cX1_gather 22 = .ok (.istore 4, 2) := by decide +kernel
theorem dX1_gather_24 : decode cX1_gather 24 = .ok (.iload 4, 2) := by decide +kernel
theorem dX1_gather_26 : decode cX1_gather 26 = .ok (.aload_n 3, 1) := by decide +kernel
theorem dX1_gather_27 : decode cX1_gather 27 = .ok (.getfield 36, 3) := by decide +kernel
theorem dX1_gather_30 : decode cX1_gather 30 = .ok (.if_icmp .ge 22, 3) := by decide +kernel
theorem dX1_gather_33 : decode cX1_gather 33 = .ok (.aload_n 0, 1) := by decide +kernel
theorem dX1_gather_34 : decode cX1_gather 34 = .ok (.aload_n 3, 1) := by decide +kernel
theorem dX1_gather_35 : decode cX1_gather 35 = .ok (.getfield 41, 3) := by decide +kernel
theorem dX1_gather_38 : decode cX1_gather 38 = .ok (.iload 4, 2) := by decide +kernel
theorem dX1_gather_40 : decode cX1_gather 40 = .ok (.invokevirtual 44, 3) := by decide +kernel
theorem dX1_gather_43 : decode cX1_gather 43 = .ok (.invokevirtual 47, 3) := by decide +kernel
theorem dX1_gather_46 : decode cX1_gather 46 = .ok (.iinc 4 1, 3) := by decide +kernel
theorem dX1_gather_49 : decode cX1_gather 49 = .ok (.goto (-25), 3) := by decide +kernel
theorem dX1_gather_52 : decode cX1_gather 52 = .ok (.iinc 2 1, 3) := by decide +kernel
theorem dX1_gather_55 : decode cX1_gather 55 = .ok (.goto (-48), 3) := by decide +kernel
theorem dX1_gather_58 : decode cX1_gather 58 = .ok (.iconst 1, 1) := by decide +kernel
theorem dX1_gather_59 : decode cX1_gather 59 = .ok (.istore_n 2, 1) := by decide +kernel
theorem dX1_gather_60 : decode cX1_gather 60 = .ok (.iload_n 2, 1) := by decide +kernel
theorem dX1_gather_61 : decode cX1_gather 61 = .ok (.aload_n 0, 1) := by decide +kernel
theorem dX1_gather_62 : decode cX1_gather 62 = .ok (.getfield 23, 3) := by decide +kernel
theorem dX1_gather_65 : decode cX1_gather 65 = .ok (.if_icmp .ge 14, 3) := by decide +kernel
theorem dX1_gather_68 : decode cX1_gather 68 = .ok (.aload_n 0, 1) := by decide +kernel
theorem dX1_gather_69 : decode cX1_gather 69 = .ok (.iload_n 2, 1) := by decide +kernel
theorem dX1_gather_70 : decode cX1_gather 70 = .ok (.invokevirtual 50, 3) := by decide +kernel
theorem dX1_gather_73 : decode cX1_gather 73 = .ok (.iinc 2 1, 3) := by decide +kernel
theorem dX1_gather_76 : decode cX1_gather 76 = .ok (.goto (-16), 3) := by decide +kernel
theorem dX1_gather_79 : decode cX1_gather 79 = .ok (.return_, 1) := by decide +kernel
set_option maxRecDepth 20000 in
theorem ggX1_count_X7_at : GoodIn wsX1_count wsX7_at := goodIn_r _ [8, 9, 21] (by decide +kernel) (by decide +kernel)
set_option maxRecDepth 20000 in
theorem gX1_count_X7_at : GoodIn wsX1_count (wsV RX1 44 RX7 yX7_at wsX7_at) := goodIn_app (goodIn_of _ (by decide +kernel)) ggX1_count_X7_at
set_option maxRecDepth 20000 in
theorem ggX1_count_X7_put : GoodIn wsX1_count wsX7_put := goodIn_r _ [13, 9, 21] (by decide +kernel) (by decide +kernel)
set_option maxRecDepth 20000 in
theorem gX1_count_X7_put : GoodIn wsX1_count (wsV RX1 53 RX7 yX7_put wsX7_put) := goodIn_app (goodIn_of _ (by decide +kernel)) ggX1_count_X7_put
set_option maxRecDepth 20000 in
theorem ggX1_count_X7_number : GoodIn wsX1_count wsX7_number := goodIn_r _ [17, 9, 21] (by decide +kernel) (by decide +kernel)
set_option maxRecDepth 20000 in
theorem gX1_count_X7_number : GoodIn wsX1_count (wsV RX1 57 RX7 yX7_number wsX7_number) := goodIn_app (goodIn_of _ (by decide +kernel)) ggX1_count_X7_number
theorem dX1_count_0 : decode cX1_count 0 = .ok (.iconst 0, 1) := by decide +kernel
theorem dX1_count_1 : decode cX1_count 1 = .ok (.istore_n 3, 1) := by decide +kernel
theorem dX1_count_2 : decode cX1_count 2 = .ok (.iload_n 3, 1) := by decide +kernel
theorem dX1_count_3 : decode cX1_count 3 = .ok (.aload_n 0, 1) := by decide +kernel
theorem dX1_count_4 : decode cX1_count 4 = .ok (.getfield 23, 3) := by decide +kernel
theorem dX1_count_7 : decode cX1_count 7 = .ok (.if_icmp .ge 22, 3) := by decide +kernel
theorem dX1_count_10 : decode cX1_count 10 = .ok (.aload_n 0, 1) := by decide +kernel
theorem dX1_count_11 : decode cX1_count 11 = .ok (.getfield 14, 3) := by decide +kernel
theorem dX1_count_14 : decode cX1_count 14 = .ok (.iload_n 3, 1) := by decide +kernel
theorem dX1_count_15 : decode cX1_count 15 = .ok (.invokevirtual 44, 3) := by decide +kernel
theorem dX1_count_18 : decode cX1_count 18 = .ok (.lload_n 1, 1) := by decide +kernel
theorem dX1_count_19 : decode cX1_count 19 = .ok (.lcmp, 1) := by decide +kernel
theorem dX1_count_20 : decode cX1_count 20 = .ok (.ifCond .eq 9, 3) := by decide +kernel
theorem dX1_count_23 : decode cX1_count 23 = .ok (.iinc 3 1, 3) := by decide +kernel
theorem dX1_count_26 : decode cX1_count 26 = .ok (.goto (-24), 3) := by decide +kernel
theorem dX1_count_29 : decode cX1_count 29 = .ok (.iload_n 3, 1) := by decide +kernel
theorem dX1_count_30 : decode cX1_count 30 = .ok (.aload_n 0, 1) := by decide +kernel
theorem dX1_count_31 : decode cX1_count 31 = .ok (.getfield 23, 3) := by decide +kernel
theorem dX1_count_34 : decode cX1_count 34 = .ok (.if_icmp .ne 31, 3) := by decide +kernel
theorem dX1_count_37 : decode cX1_count 37 = .ok (.aload_n 0, 1) := by decide +kernel
theorem dX1_count_38 : decode cX1_count 38 = .ok (.getfield 14, 3) := by decide +kernel
theorem dX1_count_41 : decode cX1_count 41 = .ok (.iload_n 3, 1) := by decide +kernel
theorem dX1_count_42 : decode cX1_count 42 = .ok (.lload_n 1, 1) := by decide +kernel
theorem dX1_count_43 : decode cX1_count 43 = .ok (.invokevirtual 53, 3) := by decide +kernel
theorem dX1_count_46 : decode cX1_count 46 = .ok (.aload_n 0, 1) := by decide +kernel
theorem dX1_count_47 : decode cX1_count 47 = .ok (.getfield 20, 3) := by decide +kernel
theorem dX1_count_50 : decode cX1_count 50 = .ok (.iload_n 3, 1) := by decide +kernel
theorem dX1_count_51 : decode cX1_count 51 = .ok (.lconst 0, 1) := by decide +kernel
theorem dX1_count_52 : decode cX1_count 52 = .ok (.invokevirtual 53, 3) := by decide +kernel
theorem dX1_count_55 : decode cX1_count 55 = .ok (.aload_n 0, 1) := by decide +kernel
theorem dX1_count_56 : decode cX1_count 56 = .ok (.dup, 1) := by decide +kernel
theorem dX1_count_57 : decode cX1_count 57 = .ok (.getfield 23, 3) := by decide +kernel
theorem dX1_count_60 : decode cX1_count 60 = .ok (.iconst 1, 1) := by decide +kernel
theorem dX1_count_61 : decode cX1_count 61 = .ok (.iadd, 1) := by decide +kernel
theorem dX1_count_62 : decode cX1_count 62 = .ok (.putfield 23, 3) := by decide +kernel
theorem dX1_count_65 : decode cX1_count 65 = .ok (.aload_n 0, 1) := by decide +kernel
theorem dX1_count_66 : decode cX1_count 66 = .ok (.getfield 20, 3) := by decide +kernel
theorem dX1_count_69 : decode cX1_count 69 = .ok (.iload_n 3, 1) := by decide +kernel
theorem dX1_count_70 : decode cX1_count 70 = .ok (.aload_n 0, 1) := by decide +kernel
theorem dX1_count_71 : decode cX1_count 71 = .ok (.getfield 20, 3) := by decide +kernel
theorem dX1_count_74 : decode cX1_count 74 = .ok (.iload_n 3, 1) := by decide +kernel
theorem dX1_count_75 : decode cX1_count 75 = .ok (.invokevirtual 57, 3) := by decide +kernel
theorem dX1_count_78 : decode cX1_count 78 = .ok (.iconst 1, 1) := by decide +kernel
theorem dX1_count_79 : decode cX1_count 79 = .ok (.iadd, 1) := by decide +kernel
theorem dX1_count_80 : decode cX1_count 80 = .ok (.i2l, 1) := by decide +kernel
theorem dX1_count_81 : decode cX1_count 81 = .ok (.invokevirtual 53, 3) := by decide +kernel
theorem dX1_count_84 : decode cX1_count 84 = .ok (.return_, 1) := by decide +kernel
set_option maxRecDepth 20000 in
theorem ggX1_moveForward_X7_at : GoodIn wsX1_moveForward wsX7_at := goodIn_r _ [7, 8, 25] (by decide +kernel) (by decide +kernel)
set_option maxRecDepth 20000 in
theorem gX1_moveForward_X7_at : GoodIn wsX1_moveForward (wsV RX1 44 RX7 yX7_at wsX7_at) := goodIn_app (goodIn_of _ (by decide +kernel)) ggX1_moveForward_X7_at
set_option maxRecDepth 20000 in
theorem ggX1_moveForward_X7_number : GoodIn wsX1_moveForward wsX7_number := goodIn_r _ [12, 8, 25] (by decide +kernel) (by decide +kernel)
set_option maxRecDepth 20000 in
theorem gX1_moveForward_X7_number : GoodIn wsX1_moveForward (wsV RX1 57 RX7 yX7_number wsX7_number) := goodIn_app (goodIn_of _ (by decide +kernel)) ggX1_moveForward_X7_number
set_option maxRecDepth 20000 in
theorem ggX1_moveForward_X1_isBefore : GoodIn wsX1_moveForward wsX1_isBefore := goodIn_r _ [17, 2, 1, 9, 10, 11, 6, 12, 8, 3, 4, 5, 7, 22, 23, 24, 25] (by decide +kernel) (by decide +kernel)
set_option maxRecDepth 20000 in
theorem gX1_moveForward_X1_isBefore : GoodIn wsX1_moveForward (wsV RX1 61 RX1 yX1_isBefore wsX1_isBefore) := goodIn_app (goodIn_of _ (by decide +kernel)) ggX1_moveForward_X1_isBefore
set_option maxRecDepth 20000 in
theorem ggX1_moveForward_X7_put : GoodIn wsX1_moveForward wsX7_put := goodIn_r _ [21, 8, 25] (by decide +kernel) (by decide +kernel)
set_option maxRecDepth 20000 in
theorem gX1_moveForward_X7_put : GoodIn wsX1_moveForward (wsV RX1 53 RX7 yX7_put wsX7_put) := goodIn_app (goodIn_of _ (by decide +kernel)) ggX1_moveForward_X7_put
theorem dX1_moveForward_0 : decode cX1_moveForward 0 = .ok (.aload_n 0, 1) := by decide +kernel
theorem dX1_moveForward_1 : decode cX1_moveForward 1 = .ok (.getfield 14, 3) := by decide +kernel
theorem dX1_moveForward_4 : decode cX1_moveForward 4 = .ok (.iload_n 1, 1) := by decide +kernel
theorem dX1_moveForward_5 : decode cX1_moveForward 5 = .ok (.invokevirtual 44, 3) := by decide +kernel
theorem dX1_moveForward_8 : decode cX1_moveForward 8 = .ok (.lstore_n 2, 1) := by decide +kernel
theorem dX1_moveForward_9 : decode cX1_moveForward 9 = .ok (.aload_n 0, 1) := by decide +kernel
theorem dX1_moveForward_10 : decode cX1_moveForward 10 = .ok (.getfield 20, 3) := by decide +kernel
theorem dX1_moveForward_13 : decode cX1_moveForward 13 = .ok (.iload_n 1, 1) := by decide +kernel
theorem dX1_moveForward_14 : decode cX1_moveForward 14 = .ok (.invokevirtual 57, 3) := by decide +kernel
theorem dX1_moveForward_17 : decode cX1_moveForward 17 = .ok (.istore 4, 2) := by decide +kernel
theorem dX1_moveForward_19 : decode cX1_moveForward 19 = .ok (.iload_n 1, 1) := by decide +kernel
theorem dX1_moveForward_20 : decode cX1_moveForward 20 = .ok (.istore 5, 2) := by decide +kernel
theorem dX1_moveForward_22 : decode cX1_moveForward 22 = .ok (.iload 5, 2) := by decide +kernel
theorem dX1_moveForward_24 : decode cX1_moveForward 24 = .ok (.ifCond .le 64, 3) := by decide +kernel
theorem dX1_moveForward_27 : decode cX1_moveForward 27 = .ok (.aload_n 0, 1) := by decide +kernel
theorem dX1_moveForward_28 : decode cX1_moveForward 28 = .ok (.lload_n 2, 1) := by decide +kernel
theorem dX1_moveForward_29 : decode cX1_moveForward 29 = .ok (.iload 4, 2) := by decide +kernel
theorem dX1_moveForward_31 : decode cX1_moveForward 31 = .ok (.iload 5, 2) := by decide +kernel
theorem dX1_moveForward_33 : decode cX1_moveForward 33 = .ok (.iconst 1, 1) := by decide +kernel
theorem dX1_moveForward_34 : decode cX1_moveForward 34 = .ok (.isub, 1) := by decide +kernel
theorem dX1_moveForward_35 : decode cX1_moveForward 35 = .ok (.invokevirtual 61, 3) := by decide +kernel
theorem dX1_moveForward_38 : decode cX1_moveForward 38 = .ok (.ifCond .eq 50, 3) := by decide +kernel
theorem dX1_moveForward_41 : decode cX1_moveForward 41 = .ok (.aload_n 0, 1) := by decide +kernel
theorem dX1_moveForward_42 : decode cX1_moveForward 42 = .ok (.getfield 14, 3) := by decide +kernel
theorem dX1_moveForward_45 : decode cX1_moveForward 45 = .ok (.iload 5, 2) := by decide +kernel
theorem dX1_moveForward_47 : decode cX1_moveForward 47 = .ok (.aload_n 0, 1) := by decide +kernel
theorem dX1_moveForward_48 : decode cX1_moveForward 48 = .ok (.getfield 14, 3) := by decide +kernel
theorem dX1_moveForward_51 : decode cX1_moveForward 51 = .ok (.iload 5, 2) := by decide +kernel
theorem dX1_moveForward_53 : decode cX1_moveForward 53 = .ok (.iconst 1, 1) := by decide +kernel
theorem dX1_moveForward_54 : decode cX1_moveForward 54 = .ok (.isub, 1) := by decide +kernel
theorem dX1_moveForward_55 : decode cX1_moveForward 55 = .ok (.invokevirtual 44, 3) := by decide +kernel
theorem dX1_moveForward_58 : decode cX1_moveForward 58 = .ok (.invokevirtual 53, 3) := by decide +kernel
theorem dX1_moveForward_61 : decode cX1_moveForward 61 = .ok (.aload_n 0, 1) := by decide +kernel
theorem dX1_moveForward_62 : decode cX1_moveForward 62 = .ok (.getfield 20, 3) := by decide +kernel
theorem dX1_moveForward_65 : decode cX1_moveForward 65 = .ok (.iload 5, 2) := by decide +kernel
theorem dX1_moveForward_67 : decode cX1_moveForward 67 = .ok (.aload_n 0, 1) := by decide +kernel
theorem dX1_moveForward_68 : decode cX1_moveForward 68 = .ok (.getfield 20, 3) := by decide +kernel
theorem dX1_moveForward_71 : decode cX1_moveForward 71 = .ok (.iload 5, 2) := by decide +kernel
theorem dX1_moveForward_73 : decode cX1_moveForward 73 = .ok (.iconst 1, 1) := by decide +kernel
theorem dX1_moveForward_74 : decode cX1_moveForward 74 = .ok (.isub, 1) := by decide +kernel
theorem dX1_moveForward_75 : decode cX1_moveForward 75 = .ok (.invokevirtual 57, 3) := by decide +kernel
theorem dX1_moveForward_78 : decode cX1_moveForward 78 = .ok (.i2l, 1) := by decide +kernel
theorem dX1_moveForward_79 : decode cX1_moveForward 79 = .ok (.invokevirtual 53, 3) := by decide +kernel
theorem dX1_moveForward_82 : decode cX1_moveForward 82 = .ok (.iinc 5 (-1), 3) := by decide +kernel
theorem dX1_moveForward_85 : decode cX1_moveForward 85 = .ok (.goto (-63), 3) := by decide +kernel
theorem dX1_moveForward_88 : decode cX1_moveForward 88 = .ok (.aload_n 0, 1) := by decide +kernel
theorem dX1_moveForward_89 : decode cX1_moveForward 89 = .ok (.getfield 14, 3) := by decide +kernel
theorem dX1_moveForward_92 : decode cX1_moveForward 92 = .ok (.iload 5, 2) := by decide +kernel
theorem dX1_moveForward_94 : decode cX1_moveForward 94 = .ok (.lload_n 2, 1) := by decide +kernel
theorem dX1_moveForward_95 : decode cX1_moveForward 95 = .ok (.invokevirtual 53, 3) := by decide +kernel
theorem dX1_moveForward_98 : decode cX1_moveForward 98 = .ok (.aload_n 0, 1) := by decide +kernel
theorem dX1_moveForward_99 : decode cX1_moveForward 99 = .ok (.getfield 20, 3) := by decide +kernel
theorem dX1_moveForward_102 : decode cX1_moveForward 102 = .ok (.iload 5, 2) := by decide +kernel
theorem dX1_moveForward_104 : decode cX1_moveForward 104 = .ok (.iload 4, 2) := by decide +kernel
theorem dX1_moveForward_106 : decode cX1_moveForward 106 = .ok (.i2l, 1) := by decide +kernel
theorem dX1_moveForward_107 : decode cX1_moveForward 107 = .ok (.invokevirtual 53, 3) := by decide +kernel
theorem dX1_moveForward_110 : decode cX1_moveForward 110 = .ok (.return_, 1) := by decide +kernel
set_option maxRecDepth 20000 in
theorem ggX1_isBefore_X7_number : GoodIn wsX1_isBefore wsX7_number := goodIn_r _ [7, 8, 16] (by decide +kernel) (by decide +kernel)
set_option maxRecDepth 20000 in
theorem gX1_isBefore_X7_number : GoodIn wsX1_isBefore (wsV RX1 57 RX7 yX7_number wsX7_number) := goodIn_app (goodIn_of _ (by decide +kernel)) ggX1_isBefore_X7_number
set_option maxRecDepth 20000 in
theorem ggX1_isBefore_X7_at : GoodIn wsX1_isBefore wsX7_at := goodIn_r _ [12, 8, 16] (by decide +kernel) (by decide +kernel)
set_option maxRecDepth 20000 in
theorem gX1_isBefore_X7_at : GoodIn wsX1_isBefore (wsV RX1 44 RX7 yX7_at wsX7_at) := goodIn_app (goodIn_of _ (by decide +kernel)) ggX1_isBefore_X7_at
theorem dX1_isBefore_0 : decode cX1_isBefore 0 = .ok (.aload_n 0, 1) := by decide +kernel
theorem dX1_isBefore_1 : decode cX1_isBefore 1 = .ok (.getfield 20, 3) := by decide +kernel
theorem dX1_isBefore_4 : decode cX1_isBefore 4 = .ok (.iload 4, 2) := by decide +kernel
theorem dX1_isBefore_6 : decode cX1_isBefore 6 = .ok (.invokevirtual 57, 3) := by decide +kernel
theorem dX1_isBefore_9 : decode cX1_isBefore 9 = .ok (.istore 5, 2) := by decide +kernel
theorem dX1_isBefore_11 : decode cX1_isBefore 11 = .ok (.iload_n 3, 1) := by decide +kernel
theorem dX1_isBefore_12 : decode cX1_isBefore 12 = .ok (.iload 5, 2) := by decide +kernel
theorem dX1_isBefore_14 : decode cX1_isBefore 14 = .ok (.if_icmp .eq 17, 3) := by decide +kernel
theorem dX1_isBefore_17 : decode cX1_isBefore 17 = .ok (.iload_n 3, 1) := by decide +kernel
theorem dX1_isBefore_18 : decode cX1_isBefore 18 = .ok (.iload 5, 2) := by decide +kernel
theorem dX1_isBefore_20 : decode cX1_isBefore 20 = .ok (.if_icmp .le 7, 3) := by decide +kernel
theorem dX1_isBefore_23 : decode cX1_isBefore 23 = .ok (.iconst 1, 1) := by decide +kernel
theorem dX1_isBefore_24 : decode cX1_isBefore 24 = .ok (.goto 26, 3) := by decide +kernel
theorem dX1_isBefore_27 : decode cX1_isBefore 27 = .ok (.iconst 0, 1) := by decide +kernel
theorem dX1_isBefore_28 : decode cX1_isBefore 28 = .ok (.goto 22, 3) := by decide +kernel
theorem dX1_isBefore_31 : decode cX1_isBefore 31 = .ok (.lload_n 1, 1) := by decide +kernel
theorem dX1_isBefore_32 : decode cX1_isBefore 32 = .ok (.aload_n 0, 1) := by decide +kernel
theorem dX1_isBefore_33 : decode cX1_isBefore 33 = .ok (.getfield 14, 3) := by decide +kernel
theorem dX1_isBefore_36 : decode cX1_isBefore 36 = .ok (.iload 4, 2) := by decide +kernel
theorem dX1_isBefore_38 : decode cX1_isBefore 38 = .ok (.invokevirtual 44, 3) := by decide +kernel
theorem dX1_isBefore_41 : decode cX1_isBefore 41 = .ok (.lcmp, 1) := by decide +kernel
theorem dX1_isBefore_42 : decode cX1_isBefore 42 = .ok (.ifCond .ge 7, 3) := by decide +kernel
theorem dX1_isBefore_45 : decode cX1_isBefore 45 = .ok (.iconst 1, 1) := by decide +kernel
theorem dX1_isBefore_46 : decode cX1_isBefore 46 = .ok (.goto 4, 3) := by decide +kernel
theorem dX1_isBefore_49 : decode cX1_isBefore 49 = .ok (.iconst 0, 1) := by decide +kernel
theorem dX1_isBefore_50 : decode cX1_isBefore 50 = .ok (.ireturn, 1) := by decide +kernel
set_option maxRecDepth 20000 in
theorem ggX2_init_X9_init : GoodIn wsX2_init wsX9_init := goodIn_r _ [11, 12, 2, 3, 13, 14, 15, 16, 17, 18, 19, 20, 21, 22, 23, 24, 25, 26, 27, 28, 29, 30, 31, 32, 33, 34, 35, 36, 37, 43, 44, 45, 46, 47, 48, 49, 50, 51, 52, 53, 54, 55] (by decide +kernel) (by decide +kernel)
set_option maxRecDepth 20000 in
theorem gX2_init_X9_init : GoodIn wsX2_init (wsX9_init) := ggX2_init_X9_init
theorem dX2_init_0 : decode cX2_init 0 = .ok (.aload_n 0, 1) := by decide +kernel
theorem dX2_init_1 : decode cX2_init 1 = .ok (.invokespecial 3, 3) := by decide +kernel
theorem dX2_init_4 : decode cX2_init 4 = .ok (.aload_n 0, 1) := by decide +kernel
theorem dX2_init_5 : decode cX2_init 5 = .ok (.iconst 5, 1) := by decide +kernel
theorem dX2_init_6 : decode cX2_init 6 = .ok (.anewarray 9, 3) := by decide +kernel
theorem dX2_init_9 : decode cX2_init 9 = .ok (.putfield 11, 3) := by decide +kernel
theorem dX2_init_12 : decode cX2_init 12 = .ok (.aload_n 0, 1) := by decide +kernel
theorem dX2_init_13 : decode cX2_init 13 = .ok (.new 9, 3) := by decide +kernel
theorem dX2_init_16 : decode cX2_init 16 = .ok (.dup, 1) := by decide +kernel
theorem dX2_init_17 : decode cX2_init 17 = .ok (.invokespecial 17, 3) := by decide +kernel
theorem dX2_init_20 : decode cX2_init 20 = .ok (.putfield 18, 3) := by decide +kernel
theorem dX2_init_23 : decode cX2_init 23 = .ok (.iconst 0, 1) := by decide +kernel
theorem dX2_init_24 : decode cX2_init 24 = .ok (.istore_n 1, 1) := by decide +kernel
theorem dX2_init_25 : decode cX2_init 25 = .ok (.iload_n 1, 1) := by decide +kernel
theorem dX2_init_26 : decode cX2_init 26 = .ok (.aload_n 0, 1) := by decide +kernel
theorem dX2_init_27 : decode cX2_init 27 = .ok (.getfield 11, 3) := by decide +kernel
theorem dX2_init_30 : decode cX2_init 30 = .ok (.arraylength, 1) := by decide +kernel
theorem dX2_init_31 : decode cX2_init 31 = .ok (.if_icmp .ge 22, 3) := by decide +kernel
theorem dX2_init_34 : decode cX2_init 34 = .ok (.aload_n 0, 1) := by decide +kernel
theorem dX2_init_35 : decode cX2_init 35 = .ok (.getfield 11, 3) := by decide +kernel
theorem dX2_init_38 : decode cX2_init 38 = .ok (.iload_n 1, 1) := by decide +kernel
theorem dX2_init_39 : decode cX2_init 39 = .ok (.new 9, 3) := by decide +kernel
theorem dX2_init_42 : decode cX2_init 42 = .ok (.dup, 1) := by decide +kernel
theorem dX2_init_43 : decode cX2_init 43 = .ok (.invokespecial 17, 3) := by decide +kernel
theorem dX2_init_46 : decode cX2_init 46 = .ok (.aastore, 1) := by decide +kernel
theorem dX2_init_47 : decode cX2_init 47 = .ok (.iinc 1 1, 3) := by decide +kernel
theorem dX2_init_50 : decode cX2_init 50 = .ok (.goto (-25), 3) := by decide +kernel
theorem dX2_init_53 : decode cX2_init 53 = .ok (.return_, 1) := by decide +kernel
theorem dX2_slot_0 : decode cX2_slot 0 = .ok (.aload_n 0, 1) := by decide +kernel
theorem dX2_slot_1 : decode cX2_slot 1 = .ok (.getfield 22, 3) := by decide +kernel
theorem dX2_slot_4 : decode cX2_slot 4 = .ok (.iload_n 1, 1) := by decide +kernel
theorem dX2_slot_5 : decode cX2_slot 5 = .ok (.iadd, 1) := by decide +kernel
theorem dX2_slot_6 : decode cX2_slot 6 = .ok (.iconst 5, 1) := by decide +kernel
theorem dX2_slot_7 : decode cX2_slot 7 = .ok (.irem, 1) := by decide +kernel
theorem dX2_slot_8 : decode cX2_slot 8 = .ok (.istore_n 2, 1) := by decide +kernel
theorem dX2_slot_9 : decode cX2_slot 9 = .ok (.iload_n 2, 1) := by decide +kernel
theorem dX2_slot_10 : decode cX2_slot 10 = .ok (.ifCond .lt 21, 3) := by decide +kernel
theorem dX2_slot_13 : decode cX2_slot 13 = .ok (.iload_n 2, 1) := by decide +kernel
theorem dX2_slot_14 : decode cX2_slot 14 = .ok (.aload_n 0, 1) := by decide +kernel
theorem dX2_slot_15 : decode cX2_slot 15 = .ok (.getfield 11, 3) := by decide +kernel
theorem dX2_slot_18 : decode cX2_slot 18 = .ok (.arraylength, 1) := by decide +kernel
theorem dX2_slot_19 : decode cX2_slot 19 = .ok (.if_icmp .ge 12, 3) := by decide +kernel
theorem dX2_slot_22 : decode cX2_slot 22 = .ok (.aload_n 0, 1) := by decide +kernel
theorem dX2_slot_23 : decode cX2_slot 23 = .ok (.getfield 11, 3) := by decide +kernel
theorem dX2_slot_26 : decode cX2_slot 26 = .ok (.iload_n 2, 1) := by decide +kernel
theorem dX2_slot_27 : decode cX2_slot 27 = .ok (.aaload, 1) := by decide +kernel
theorem dX2_slot_28 : decode cX2_slot 28 = .ok (.goto 4, 3) := by decide +kernel
theorem dX2_slot_31 : decode cX2_slot 31 = .ok (.aconst_null, 1) := by decide +kernel
theorem dX2_slot_32 : decode cX2_slot 32 = .ok (.areturn, 1) := by decide +kernel
set_option maxRecDepth 20000 in
theorem ggX2_save_X2_slot : GoodIn wsX2_save wsX2_slot := goodIn_r _ [7, 2, 8, 45, 46, 47, 48, 49] (by decide +kernel) (by decide +kernel)
set_option maxRecDepth 20000 in
theorem gX2_save_X2_slot : GoodIn wsX2_save (wsV RX2 29 RX2 yX2_slot wsX2_slot) := goodIn_app (goodIn_of _ (by decide +kernel)) ggX2_save_X2_slot
set_option maxRecDepth 20000 in
theorem ggX2_save_X9_copy : GoodIn wsX2_save wsX9_copy := goodIn_r _ [13, 14, 15, 16, 17, 18, 12, 19, 20, 21, 22, 23, 24, 25, 26, 27, 28, 29, 30, 31, 32, 33, 34, 35, 36, 37, 38, 39, 40, 41, 42, 43, 44, 50, 51, 52, 53, 54, 55, 56, 57, 58, 59, 60, 61, 62] (by decide +kernel) (by decide +kernel)
set_option maxRecDepth 20000 in
theorem gX2_save_X9_copy : GoodIn wsX2_save (wsV RX2 33 RX9 yX9_copy wsX9_copy) := goodIn_app (goodIn_of _ (by decide +kernel)) ggX2_save_X9_copy
theorem dX2_save_0 : decode cX2_save 0 = .ok (.aload_n 0, 1) := by decide +kernel
theorem dX2_save_1 : decode cX2_save 1 = .ok (.getfield 26, 3) := by decide +kernel
theorem dX2_save_4 : decode cX2_save 4 = .ok (.iconst 5, 1) := by decide +kernel
theorem dX2_save_5 : decode cX2_save 5 = .ok (.if_icmp .ne 25, 3) := by decide +kernel
theorem dX2_save_8 : decode cX2_save 8 = .ok (.aload_n 0, 1) := by decide +kernel
theorem dX2_save_9 : decode cX2_save 9 = .ok (.aload_n 0, 1) := by decide +kernel
theorem dX2_save_10 : decode cX2_save 10 = .ok (.getfield 22, 3) := by decide +kernel
theorem dX2_save_13 : decode cX2_save 13 = .ok (.iconst 1, 1) := by decide +kernel
theorem dX2_save_14 : decode cX2_save 14 = .ok (.iadd, 1) := by decide +kernel
theorem dX2_save_15 : decode cX2_save 15 = .ok (.iconst 5, 1) := by decide +kernel
theorem dX2_save_16 : decode cX2_save 16 = .ok (.irem, 1) := by decide +kernel
theorem dX2_save_17 : decode cX2_save 17 = .ok (.putfield 22, 3) := by decide +kernel
theorem dX2_save_20 : decode cX2_save 20 = .ok (.aload_n 0, 1) := by decide +kernel
theorem dX2_save_21 : decode cX2_save 21 = .ok (.dup, 1) := by decide +kernel
theorem dX2_save_22 : decode cX2_save 22 = .ok (.getfield 26, 3) := by decide +kernel
theorem dX2_save_25 : decode cX2_save 25 = .ok (.iconst 1, 1) := by decide +kernel
theorem dX2_save_26 : decode cX2_save 26 = .ok (.isub, 1) := by decide +kernel
theorem dX2_save_27 : decode cX2_save 27 = .ok (.putfield 26, 3) := by decide +kernel
theorem dX2_save_30 : decode cX2_save 30 = .ok (.aload_n 0, 1) := by decide +kernel
theorem dX2_save_31 : decode cX2_save 31 = .ok (.aload_n 0, 1) := by decide +kernel
theorem dX2_save_32 : decode cX2_save 32 = .ok (.getfield 26, 3) := by decide +kernel
theorem dX2_save_35 : decode cX2_save 35 = .ok (.invokevirtual 29, 3) := by decide +kernel
theorem dX2_save_38 : decode cX2_save 38 = .ok (.astore_n 2, 1) := by decide +kernel
theorem dX2_save_39 : decode cX2_save 39 = .ok (.aload_n 2, 1) := by decide +kernel
theorem dX2_save_40 : decode cX2_save 40 = .ok (.ifnull 18, 3) := by decide +kernel
theorem dX2_save_43 : decode cX2_save 43 = .ok (.aload_n 2, 1) := by decide +kernel
theorem dX2_save_44 : decode cX2_save 44 = .ok (.aload_n 1, 1) := by decide +kernel
theorem dX2_save_45 : decode cX2_save 45 = .ok (.invokevirtual 33, 3) := by decide +kernel
theorem dX2_save_48 : decode cX2_save 48 = .ok (.aload_n 0, 1) := by decide +kernel
theorem dX2_save_49 : decode cX2_save 49 = .ok (.dup, 1) := by decide +kernel
theorem dX2_save_50 : decode cX2_save 50 = .ok (.getfield 26, 3) := by decide +kernel
theorem dX2_save_53 : decode cX2_save 53 = .ok (.iconst 1, 1) := by decide +kernel
theorem dX2_save_54 : decode cX2_save 54 = .ok (.iadd, 1) := by decide +kernel
theorem dX2_save_55 : decode cX2_save 55 = .ok (.putfield 26, 3) := by decide +kernel
theorem dX2_save_58 : decode cX2_save 58 = .ok (.return_, 1) := by decide +kernel
set_option maxRecDepth 20000 in
theorem ggX2_takeBack_X2_slot : GoodIn wsX2_takeBack wsX2_slot := goodIn_r _ [6, 7, 8, 45, 46, 47, 48, 49] (by decide +kernel) (by decide +kernel)
set_option maxRecDepth 20000 in
theorem gX2_takeBack_X2_slot : GoodIn wsX2_takeBack (wsV RX2 29 RX2 yX2_slot wsX2_slot) := goodIn_app (goodIn_of _ (by decide +kernel)) ggX2_takeBack_X2_slot
set_option maxRecDepth 20000 in
theorem ggX2_takeBack_X9_copy : GoodIn wsX2_takeBack wsX9_copy := goodIn_r _ [13, 14, 15, 16, 17, 18, 12, 19, 20, 21, 22, 23, 24, 25, 26, 27, 28, 29, 30, 31, 32, 33, 34, 35, 36, 37, 38, 39, 40, 41, 42, 43, 44, 50, 51, 52, 53, 54, 55, 56, 57, 58, 59, 60, 61, 62] (by decide +kernel) (by decide +kernel)
set_option maxRecDepth 20000 in
theorem gX2_takeBack_X9_copy : GoodIn wsX2_takeBack (wsV RX2 33 RX9 yX9_copy wsX9_copy) := goodIn_app (goodIn_of _ (by decide +kernel)) ggX2_takeBack_X9_copy
theorem dX2_takeBack_0 : decode cX2_takeBack 0 = .ok (.aload_n 0, 1) := by decide +kernel
theorem dX2_takeBack_1 : decode cX2_takeBack 1 = .ok (.aload_n 0, 1) := by decide +kernel
theorem dX2_takeBack_2 : decode cX2_takeBack 2 = .ok (.getfield 26, 3) := by decide +kernel
theorem dX2_takeBack_5 : decode cX2_takeBack 5 = .ok (.iconst 1, 1) := by decide +kernel
theorem dX2_takeBack_6 : decode cX2_takeBack 6 = .ok (.isub, 1) := by decide +kernel
theorem dX2_takeBack_7 : decode cX2_takeBack 7 = .ok (.invokevirtual 29, 3) := by decide +kernel
theorem dX2_takeBack_10 : decode cX2_takeBack 10 = .ok (.astore_n 2, 1) := by decide +kernel
theorem dX2_takeBack_11 : decode cX2_takeBack 11 = .ok (.aload_n 2, 1) := by decide +kernel
theorem dX2_takeBack_12 : decode cX2_takeBack 12 = .ok (.ifnull 18, 3) := by decide +kernel
theorem dX2_takeBack_15 : decode cX2_takeBack 15 = .ok (.aload_n 1, 1) := by decide +kernel
theorem dX2_takeBack_16 : decode cX2_takeBack 16 = .ok (.aload_n 2, 1) := by decide +kernel
theorem dX2_takeBack_17 : decode cX2_takeBack 17 = .ok (.invokevirtual 33, 3) := by decide +kernel
theorem dX2_takeBack_20 : decode cX2_takeBack 20 = .ok (.aload_n 0, 1) := by decide +kernel
theorem dX2_takeBack_21 : decode cX2_takeBack 21 = .ok (.dup, 1) := by decide +kernel
theorem dX2_takeBack_22 : decode cX2_takeBack 22 = .ok (.getfield 26, 3) := by decide +kernel
theorem dX2_takeBack_25 : decode cX2_takeBack 25 = .ok (.iconst 1, 1) := by decide +kernel
theorem dX2_takeBack_26 : decode cX2_takeBack 26 = .ok (.isub, 1) := by decide +kernel
theorem dX2_takeBack_27 : decode cX2_takeBack 27 = .ok (.putfield 26, 3) := by decide +kernel
theorem dX2_takeBack_30 : decode cX2_takeBack 30 = .ok (.return_, 1) := by decide +kernel
set_option maxRecDepth 20000 in
theorem ggX3_init_X7_init : GoodIn wsX3_init wsX7_init := goodIn_r _ [10, 11, 2, 3, 12, 13, 14, 15, 16, 17, 18] (by decide +kernel) (by decide +kernel)
set_option maxRecDepth 20000 in
theorem gX3_init_X7_init : GoodIn wsX3_init (wsX7_init) := ggX3_init_X7_init
theorem dX3_init_0 : decode cX3_init 0 = .ok (.aload_n 0, 1) := by decide +kernel
theorem dX3_init_1 : decode cX3_init 1 = .ok (.invokespecial 3, 3) := by decide +kernel
theorem dX3_init_4 : decode cX3_init 4 = .ok (.aload_n 0, 1) := by decide +kernel
theorem dX3_init_5 : decode cX3_init 5 = .ok (.new 9, 3) := by decide +kernel
theorem dX3_init_8 : decode cX3_init 8 = .ok (.dup, 1) := by decide +kernel
theorem dX3_init_9 : decode cX3_init 9 = .ok (.bipush 20, 2) := by decide +kernel
theorem dX3_init_11 : decode cX3_init 11 = .ok (.invokespecial 11, 3) := by decide +kernel
theorem dX3_init_14 : decode cX3_init 14 = .ok (.putfield 14, 3) := by decide +kernel
theorem dX3_init_17 : decode cX3_init 17 = .ok (.return_, 1) := by decide +kernel
set_option maxRecDepth 20000 in
theorem ggX3_longest_X9_at : GoodIn wsX3_longest wsX9_at := goodIn_r _ [10, 11, 12, 32, 33, 34, 35] (by decide +kernel) (by decide +kernel)
set_option maxRecDepth 20000 in
theorem gX3_longest_X9_at : GoodIn wsX3_longest (wsV RX3 20 RX9 yX9_at wsX9_at) := goodIn_app (goodIn_of _ (by decide +kernel)) ggX3_longest_X9_at
set_option maxRecDepth 20000 in
theorem ggX3_longest_X4_quotes : GoodIn wsX3_longest wsX4_quotes := goodIn_r _ [17, 18, 19, 20, 21, 22, 23, 24, 25, 36, 37, 38, 39, 40, 41, 42, 43, 44] (by decide +kernel) (by decide +kernel)
set_option maxRecDepth 20000 in
theorem gX3_longest_X4_quotes : GoodIn wsX3_longest (wsV RX3 26 RX4 yX4_quotes wsX4_quotes) := goodIn_app (goodIn_of _ (by decide +kernel)) ggX3_longest_X4_quotes
set_option maxRecDepth 20000 in
theorem ggX3_longest_X7_number : GoodIn wsX3_longest wsX7_number := goodIn_r _ [24, 25, 44] (by decide +kernel) (by decide +kernel)
set_option maxRecDepth 20000 in
theorem gX3_longest_X7_number : GoodIn wsX3_longest (wsV RX3 32 RX7 yX7_number wsX7_number) := goodIn_app (goodIn_of _ (by decide +kernel)) ggX3_longest_X7_number
set_option maxRecDepth 20000 in
theorem ggX3_longest_X7_put : GoodIn wsX3_longest wsX7_put := goodIn_r _ [30, 25, 44] (by decide +kernel) (by decide +kernel)
set_option maxRecDepth 20000 in
theorem gX3_longest_X7_put : GoodIn wsX3_longest (wsV RX3 42 RX7 yX7_put wsX7_put) := goodIn_app (goodIn_of _ (by decide +kernel)) ggX3_longest_X7_put
theorem dX3_longest_0 : decode cX3_longest 0 = .ok (.iconst 0, 1) := by decide +kernel
theorem dX3_longest_1 : decode cX3_longest 1 = .ok (.istore_n 3, 1) := by decide +kernel
theorem dX3_longest_2 : decode cX3_longest 2 = .ok (.iload_n 3, 1) := by decide +kernel
theorem dX3_longest_3 : decode cX3_longest 3 = .ok (.iload_n 2, 1) := by decide +kernel
theorem dX3_longest_4 : decode cX3_longest 4 = .ok (.if_icmp .gt 75, 3) := by decide +kernel
theorem dX3_longest_7 : decode cX3_longest 7 = .ok (.iload_n 3, 1) := by decide +kernel
theorem dX3_longest_8 : decode cX3_longest 8 = .ok (.bipush 20, 2) := by decide +kernel
theorem dX3_longest_10 : decode cX3_longest 10 = .ok (.if_icmp .ge 69, 3) := by decide +kernel
theorem dX3_longest_13 : decode cX3_longest 13 = .ok (.iconst 0, 1) := by decide +kernel
theorem dX3_longest_14 : decode cX3_longest 14 = .ok (.istore 4, 2) := by decide +kernel
theorem dX3_longest_16 : decode cX3_longest 16 = .ok (.iconst 0, 1) := by decide +kernel
theorem dX3_longest_17 : decode cX3_longest 17 = .ok (.istore 5, 2) := by decide +kernel
theorem dX3_longest_19 : decode cX3_longest 19 = .ok (.iload 5, 2) := by decide +kernel
theorem dX3_longest_21 : decode cX3_longest 21 = .ok (.iload_n 3, 1) := by decide +kernel
theorem dX3_longest_22 : decode cX3_longest 22 = .ok (.if_icmp .ge 38, 3) := by decide +kernel
theorem dX3_longest_25 : decode cX3_longest 25 = .ok (.aload_n 1, 1) := by decide +kernel
theorem dX3_longest_26 : decode cX3_longest 26 = .ok (.iload_n 3, 1) := by decide +kernel
theorem dX3_longest_27 : decode cX3_longest 27 = .ok (.invokevirtual 20, 3) := by decide +kernel
theorem dX3_longest_30 : decode cX3_longest 30 = .ok (.iload 5, 2) := by decide +kernel
theorem dX3_longest_32 : decode cX3_longest 32 = .ok (.invokevirtual 26, 3) := by decide +kernel
theorem dX3_longest_35 : decode cX3_longest 35 = .ok (.ifCond .eq 19, 3) := by decide +kernel
theorem dX3_longest_38 : decode cX3_longest 38 = .ok (.iload 4, 2) := by decide +kernel
theorem dX3_longest_40 : decode cX3_longest 40 = .ok (.aload_n 0, 1) := by decide +kernel
theorem dX3_longest_41 : decode cX3_longest 41 = .ok (.getfield 14, 3) := by decide +kernel
theorem dX3_longest_44 : decode cX3_longest 44 = .ok (.iload 5, 2) := by decide +kernel
theorem dX3_longest_46 : decode cX3_longest 46 = .ok (.invokevirtual 32, 3) := by decide +kernel
theorem dX3_longest_49 : decode cX3_longest 49 = .ok (.invokestatic 36, 3) := by decide +kernel
theorem dX3_longest_52 : decode cX3_longest 52 = .ok (.istore 4, 2) := by decide +kernel
theorem dX3_longest_54 : decode cX3_longest 54 = .ok (.iinc 5 1, 3) := by decide +kernel
theorem dX3_longest_57 : decode cX3_longest 57 = .ok (.goto (-38), 3) := by decide +kernel
theorem dX3_longest_60 : decode cX3_longest 60 = .ok (.aload_n 0, 1) := by decide +kernel
theorem dX3_longest_61 : decode cX3_longest 61 = .ok (.getfield 14, 3) := by decide +kernel
theorem dX3_longest_64 : decode cX3_longest 64 = .ok (.iload_n 3, 1) := by decide +kernel
theorem dX3_longest_65 : decode cX3_longest 65 = .ok (.iload 4, 2) := by decide +kernel
theorem dX3_longest_67 : decode cX3_longest 67 = .ok (.iconst 1, 1) := by decide +kernel
theorem dX3_longest_68 : decode cX3_longest 68 = .ok (.iadd, 1) := by decide +kernel
theorem dX3_longest_69 : decode cX3_longest 69 = .ok (.i2l, 1) := by decide +kernel
theorem dX3_longest_70 : decode cX3_longest 70 = .ok (.invokevirtual 42, 3) := by decide +kernel
theorem dX3_longest_73 : decode cX3_longest 73 = .ok (.iinc 3 1, 3) := by decide +kernel
theorem dX3_longest_76 : decode cX3_longest 76 = .ok (.goto (-74), 3) := by decide +kernel
theorem dX3_longest_79 : decode cX3_longest 79 = .ok (.aload_n 0, 1) := by decide +kernel
theorem dX3_longest_80 : decode cX3_longest 80 = .ok (.getfield 14, 3) := by decide +kernel
theorem dX3_longest_83 : decode cX3_longest 83 = .ok (.iload_n 2, 1) := by decide +kernel
theorem dX3_longest_84 : decode cX3_longest 84 = .ok (.invokevirtual 32, 3) := by decide +kernel
theorem dX3_longest_87 : decode cX3_longest 87 = .ok (.ireturn, 1) := by decide +kernel
set_option maxRecDepth 20000 in
theorem ggX3_fromTheGround_X9_at : GoodIn wsX3_fromTheGround wsX9_at := goodIn_r _ [6, 7, 8, 36, 37, 38, 39] (by decide +kernel) (by decide +kernel)
set_option maxRecDepth 20000 in
theorem gX3_fromTheGround_X9_at : GoodIn wsX3_fromTheGround (wsV RX3 20 RX9 yX9_at wsX9_at) := goodIn_app (goodIn_of _ (by decide +kernel)) ggX3_fromTheGround_X9_at
set_option maxRecDepth 20000 in
theorem ggX3_fromTheGround_X4_quotes : GoodIn wsX3_fromTheGround wsX4_quotes := goodIn_r _ [13, 14, 15, 16, 17, 18, 19, 20, 21, 28, 29, 30, 31, 32, 33, 34, 35, 40] (by decide +kernel) (by decide +kernel)
set_option maxRecDepth 20000 in
theorem gX3_fromTheGround_X4_quotes : GoodIn wsX3_fromTheGround (wsV RX3 26 RX4 yX4_quotes wsX4_quotes) := goodIn_app (goodIn_of _ (by decide +kernel)) ggX3_fromTheGround_X4_quotes
set_option maxRecDepth 20000 in
theorem ggX3_fromTheGround_X7_number : GoodIn wsX3_fromTheGround wsX7_number := goodIn_r _ [20, 21, 40] (by decide +kernel) (by decide +kernel)
set_option maxRecDepth 20000 in
theorem gX3_fromTheGround_X7_number : GoodIn wsX3_fromTheGround (wsV RX3 32 RX7 yX7_number wsX7_number) := goodIn_app (goodIn_of _ (by decide +kernel)) ggX3_fromTheGround_X7_number
set_option maxRecDepth 20000 in
theorem ggX3_fromTheGround_X7_put : GoodIn wsX3_fromTheGround wsX7_put := goodIn_r _ [26, 21, 40] (by decide +kernel) (by decide +kernel)
set_option maxRecDepth 20000 in
theorem gX3_fromTheGround_X7_put : GoodIn wsX3_fromTheGround (wsV RX3 42 RX7 yX7_put wsX7_put) := goodIn_app (goodIn_of _ (by decide +kernel)) ggX3_fromTheGround_X7_put
theorem dX3_fromTheGround_0 : decode cX3_fromTheGround 0 = .ok (.iconst 0, 1) := by decide +kernel
theorem dX3_fromTheGround_1 : decode cX3_fromTheGround 1 = .ok (.istore_n 3, 1) := by decide +kernel
theorem dX3_fromTheGround_2 : decode cX3_fromTheGround 2 = .ok (.iload_n 3, 1) := by decide +kernel
theorem dX3_fromTheGround_3 : decode cX3_fromTheGround 3 = .ok (.iload_n 2, 1) := by decide +kernel
theorem dX3_fromTheGround_4 : decode cX3_fromTheGround 4 = .ok (.if_icmp .gt 86, 3) := by decide +kernel
theorem dX3_fromTheGround_7 : decode cX3_fromTheGround 7 = .ok (.iload_n 3, 1) := by decide +kernel
theorem dX3_fromTheGround_8 : decode cX3_fromTheGround 8 = .ok (.bipush 20, 2) := by decide +kernel
theorem dX3_fromTheGround_10 : decode cX3_fromTheGround 10 = .ok (.if_icmp .ge 80, 3) := by decide +kernel
theorem dX3_fromTheGround_13 : decode cX3_fromTheGround 13 = .ok (.iconst 0, 1) := by decide +kernel
theorem dX3_fromTheGround_14 : decode cX3_fromTheGround 14 = .ok (.istore 4, 2) := by decide +kernel
theorem dX3_fromTheGround_16 : decode cX3_fromTheGround 16 = .ok (.iconst 0, 1) := by decide +kernel
theorem dX3_fromTheGround_17 : decode cX3_fromTheGround 17 = .ok (.istore 5, 2) := by decide +kernel
theorem dX3_fromTheGround_19 : decode cX3_fromTheGround 19 = .ok (.iload 5, 2) := by decide +kernel
theorem dX3_fromTheGround_21 : decode cX3_fromTheGround 21 = .ok (.iload_n 3, 1) := by decide +kernel
theorem dX3_fromTheGround_22 : decode cX3_fromTheGround 22 = .ok (.if_icmp .ge 36, 3) := by decide +kernel
theorem dX3_fromTheGround_25 : decode cX3_fromTheGround 25 = .ok (.aload_n 1, 1) := by decide +kernel
theorem dX3_fromTheGround_26 : decode cX3_fromTheGround 26 = .ok (.iload_n 3, 1) := by decide +kernel
theorem dX3_fromTheGround_27 : decode cX3_fromTheGround 27 = .ok (.invokevirtual 20, 3) := by decide +kernel
theorem dX3_fromTheGround_30 : decode cX3_fromTheGround 30 = .ok (.iload 5, 2) := by decide +kernel
theorem dX3_fromTheGround_32 : decode cX3_fromTheGround 32 = .ok (.invokevirtual 26, 3) := by decide +kernel
theorem dX3_fromTheGround_35 : decode cX3_fromTheGround 35 = .ok (.ifCond .eq 17, 3) := by decide +kernel
theorem dX3_fromTheGround_38 : decode cX3_fromTheGround 38 = .ok (.iload 4, 2) := by decide +kernel
theorem dX3_fromTheGround_40 : decode cX3_fromTheGround 40 = .ok (.aload_n 0, 1) := by decide +kernel
theorem dX3_fromTheGround_41 : decode cX3_fromTheGround 41 = .ok (.getfield 14, 3) := by decide +kernel
theorem dX3_fromTheGround_44 : decode cX3_fromTheGround 44 = .ok (.iload 5, 2) := by decide +kernel
theorem dX3_fromTheGround_46 : decode cX3_fromTheGround 46 = .ok (.invokevirtual 32, 3) := by decide +kernel
theorem dX3_fromTheGround_49 : decode cX3_fromTheGround 49 = .ok (.iadd, 1) := by decide +kernel
theorem dX3_fromTheGround_50 : decode cX3_fromTheGround 50 = .ok (.istore 4, 2) := by decide +kernel
theorem dX3_fromTheGround_52 : decode cX3_fromTheGround 52 = .ok (.iinc 5 1, 3) := by decide +kernel
theorem dX3_fromTheGround_55 : decode cX3_fromTheGround 55 = .ok (.goto (-36), 3) := by decide +kernel
theorem dX3_fromTheGround_58 : decode cX3_fromTheGround 58 = .ok (.aload_n 0, 1) := by decide +kernel
theorem dX3_fromTheGround_59 : decode cX3_fromTheGround 59 = .ok (.getfield 14, 3) := by decide +kernel
theorem dX3_fromTheGround_62 : decode cX3_fromTheGround 62 = .ok (.iload_n 3, 1) := by decide +kernel
theorem dX3_fromTheGround_63 : decode cX3_fromTheGround 63 = .ok (.aload_n 1, 1) := by decide +kernel
theorem dX3_fromTheGround_64 : decode cX3_fromTheGround 64 = .ok (.iload_n 3, 1) := by decide +kernel
theorem dX3_fromTheGround_65 : decode cX3_fromTheGround 65 = .ok (.invokevirtual 20, 3) := by decide +kernel
theorem dX3_fromTheGround_68 : decode cX3_fromTheGround 68 = .ok (.getfield 46, 3) := by decide +kernel
theorem dX3_fromTheGround_71 : decode cX3_fromTheGround 71 = .ok (.ifCond .ne 7, 3) := by decide +kernel
theorem dX3_fromTheGround_74 : decode cX3_fromTheGround 74 = .ok (.lconst 1, 1) := by decide +kernel
theorem dX3_fromTheGround_75 : decode cX3_fromTheGround 75 = .ok (.goto 6, 3) := by decide +kernel
theorem dX3_fromTheGround_78 : decode cX3_fromTheGround 78 = .ok (.iload 4, 2) := by decide +kernel
theorem dX3_fromTheGround_80 : decode cX3_fromTheGround 80 = .ok (.i2l, 1) := by decide +kernel
theorem dX3_fromTheGround_81 : decode cX3_fromTheGround 81 = .ok (.invokevirtual 42, 3) := by decide +kernel
theorem dX3_fromTheGround_84 : decode cX3_fromTheGround 84 = .ok (.iinc 3 1, 3) := by decide +kernel
theorem dX3_fromTheGround_87 : decode cX3_fromTheGround 87 = .ok (.goto (-85), 3) := by decide +kernel
theorem dX3_fromTheGround_90 : decode cX3_fromTheGround 90 = .ok (.aload_n 0, 1) := by decide +kernel
theorem dX3_fromTheGround_91 : decode cX3_fromTheGround 91 = .ok (.getfield 14, 3) := by decide +kernel
theorem dX3_fromTheGround_94 : decode cX3_fromTheGround 94 = .ok (.iload_n 2, 1) := by decide +kernel
theorem dX3_fromTheGround_95 : decode cX3_fromTheGround 95 = .ok (.invokevirtual 32, 3) := by decide +kernel
theorem dX3_fromTheGround_98 : decode cX3_fromTheGround 98 = .ok (.ireturn, 1) := by decide +kernel
set_option maxRecDepth 20000 in
theorem ggX3_gatherReading_X7_put : GoodIn wsX3_gatherReading wsX7_put := goodIn_r _ [6, 7, 25] (by decide +kernel) (by decide +kernel)
set_option maxRecDepth 20000 in
theorem gX3_gatherReading_X7_put : GoodIn wsX3_gatherReading (wsV RX3 42 RX7 yX7_put wsX7_put) := goodIn_app (goodIn_of _ (by decide +kernel)) ggX3_gatherReading_X7_put
set_option maxRecDepth 20000 in
theorem ggX3_gatherReading_X7_number : GoodIn wsX3_gatherReading wsX7_number := goodIn_r _ [11, 7, 25] (by decide +kernel) (by decide +kernel)
set_option maxRecDepth 20000 in
theorem gX3_gatherReading_X7_number : GoodIn wsX3_gatherReading (wsV RX3 32 RX7 yX7_number wsX7_number) := goodIn_app (goodIn_of _ (by decide +kernel)) ggX3_gatherReading_X7_number
set_option maxRecDepth 20000 in
theorem ggX3_gatherReading_X9_at : GoodIn wsX3_gatherReading wsX9_at := goodIn_r _ [16, 17, 18, 26, 27, 28, 29] (by decide +kernel) (by decide +kernel)
set_option maxRecDepth 20000 in
theorem gX3_gatherReading_X9_at : GoodIn wsX3_gatherReading (wsV RX3 20 RX9 yX9_at wsX9_at) := goodIn_app (goodIn_of _ (by decide +kernel)) ggX3_gatherReading_X9_at
set_option maxRecDepth 20000 in
theorem ggX3_gatherReading_X3_markSources : GoodIn wsX3_gatherReading wsX3_markSources := goodIn_r _ [23, 1, 8, 9, 10, 5, 11, 7, 2, 3, 4, 6, 30, 31, 32, 33, 34, 35, 36, 37, 24, 25] (by decide +kernel) (by decide +kernel)
set_option maxRecDepth 20000 in
theorem gX3_gatherReading_X3_markSources : GoodIn wsX3_gatherReading (wsV RX3 50 RX3 yX3_markSources wsX3_markSources) := goodIn_app (goodIn_of _ (by decide +kernel)) ggX3_gatherReading_X3_markSources
theorem dX3_gatherReading_0 : decode cX3_gatherReading 0 = .ok (.iconst 0, 1) := by decide +kernel
theorem dX3_gatherReading_1 : decode cX3_gatherReading 1 = .ok (.istore_n 3, 1) := by decide +kernel
theorem dX3_gatherReading_2 : decode cX3_gatherReading 2 = .ok (.iload_n 3, 1) := by decide +kernel
theorem dX3_gatherReading_3 : decode cX3_gatherReading 3 = .ok (.bipush 20, 2) := by decide +kernel
theorem dX3_gatherReading_5 : decode cX3_gatherReading 5 = .ok (.if_icmp .ge 27, 3) := by decide +kernel
theorem dX3_gatherReading_8 : decode cX3_gatherReading 8 = .ok (.aload_n 0, 1) := by decide +kernel
theorem dX3_gatherReading_9 : decode cX3_gatherReading 9 = .ok (.getfield 14, 3) := by decide +kernel
theorem dX3_gatherReading_12 : decode cX3_gatherReading 12 = .ok (.iload_n 3, 1) := by decide +kernel
theorem dX3_gatherReading_13 : decode cX3_gatherReading 13 = .ok (.iload_n 3, 1) := by decide +kernel
theorem dX3_gatherReading_14 : decode cX3_gatherReading 14 = .ok (.iload_n 2, 1) := by decide +kernel
theorem dX3_gatherReading_15 : decode cX3_gatherReading 15 = .ok (.if_icmp .ne 7, 3) := by decide +kernel
theorem dX3_gatherReading_18 : decode cX3_gatherReading 18 = .ok (.lconst 1, 1) := by decide +kernel
theorem dX3_gatherReading_19 : decode cX3_gatherReading 19 = .ok (.goto 4, 3) := by decide +kernel
theorem dX3_gatherReading_22 : decode cX3_gatherReading 22 = .ok (.lconst 0, 1) := by decide +kernel
theorem dX3_gatherReading_23 : decode cX3_gatherReading 23 = .ok (.invokevirtual 42, 3) := by decide +kernel
theorem dX3_gatherReading_26 : decode cX3_gatherReading 26 = .ok (.iinc 3 1, 3) := by decide +kernel
theorem dX3_gatherReading_29 : decode cX3_gatherReading 29 = .ok (.goto (-27), 3) := by decide +kernel
theorem dX3_gatherReading_32 : decode cX3_gatherReading 32 = .ok (.iconst 0, 1) := by decide +kernel
theorem dX3_gatherReading_33 : decode cX3_gatherReading 33 = .ok (.istore_n 3, 1) := by decide +kernel
theorem dX3_gatherReading_34 : decode cX3_gatherReading 34 = .ok (.iload_n 2, 1) := by decide +kernel
theorem dX3_gatherReading_35 : decode cX3_gatherReading 35 = .ok (.istore 4, 2) := by decide +kernel
theorem dX3_gatherReading_37 : decode cX3_gatherReading 37 = .ok (.iload 4, 2) := by decide +kernel
theorem dX3_gatherReading_39 : decode cX3_gatherReading 39 = .ok (.ifCond .lt 35, 3) := by decide +kernel
theorem dX3_gatherReading_42 : decode cX3_gatherReading 42 = .ok (.aload_n 0, 1) := by decide +kernel
theorem dX3_gatherReading_43 : decode cX3_gatherReading 43 = .ok (.getfield 14, 3) := by decide +kernel
theorem dX3_gatherReading_46 : decode cX3_gatherReading 46 = .ok (.iload 4, 2) := by decide +kernel
theorem dX3_gatherReading_48 : decode cX3_gatherReading 48 = .ok (.invokevirtual 32, 3) := by decide +kernel
theorem dX3_gatherReading_51 : decode cX3_gatherReading 51 = .ok (.iconst 1, 1) := by decide +kernel
theorem dX3_gatherReading_52 : decode cX3_gatherReading 52 = .ok (.if_icmp .ne 16, 3) := by decide +kernel
theorem dX3_gatherReading_55 : decode cX3_gatherReading 55 = .ok (.aload_n 0, 1) := by decide +kernel
theorem dX3_gatherReading_56 : decode cX3_gatherReading 56 = .ok (.aload_n 1, 1) := by decide +kernel
theorem dX3_gatherReading_57 : decode cX3_gatherReading 57 = .ok (.iload 4, 2) := by decide +kernel
theorem dX3_gatherReading_59 : decode cX3_gatherReading 59 = .ok (.invokevirtual 20, 3) := by decide +kernel
theorem dX3_gatherReading_62 : decode cX3_gatherReading 62 = .ok (.invokevirtual 50, 3) := by decide +kernel
theorem dX3_gatherReading_65 : decode cX3_gatherReading 65 = .ok (.iinc 3 1, 3) := by decide +kernel
theorem dX3_gatherReading_68 : decode cX3_gatherReading 68 = .ok (.iinc 4 (-1), 3) := by decide +kernel
theorem dX3_gatherReading_71 : decode cX3_gatherReading 71 = .ok (.goto (-34), 3) := by decide +kernel
theorem dX3_gatherReading_74 : decode cX3_gatherReading 74 = .ok (.iload_n 3, 1) := by decide +kernel
theorem dX3_gatherReading_75 : decode cX3_gatherReading 75 = .ok (.ireturn, 1) := by decide +kernel
set_option maxRecDepth 20000 in
theorem ggX3_markSources_X7_number : GoodIn wsX3_markSources wsX7_number := goodIn_r _ [6, 7, 21] (by decide +kernel) (by decide +kernel)
set_option maxRecDepth 20000 in
theorem gX3_markSources_X7_number : GoodIn wsX3_markSources (wsV RX3 32 RX7 yX7_number wsX7_number) := goodIn_app (goodIn_of _ (by decide +kernel)) ggX3_markSources_X7_number
set_option maxRecDepth 20000 in
theorem ggX3_markSources_X7_put : GoodIn wsX3_markSources wsX7_put := goodIn_r _ [11, 7, 21] (by decide +kernel) (by decide +kernel)
set_option maxRecDepth 20000 in
theorem gX3_markSources_X7_put : GoodIn wsX3_markSources (wsV RX3 42 RX7 yX7_put wsX7_put) := goodIn_app (goodIn_of _ (by decide +kernel)) ggX3_markSources_X7_put
theorem dX3_markSources_0 : decode cX3_markSources 0 = .ok (.iconst 0, 1) := by decide +kernel
theorem dX3_markSources_1 : decode cX3_markSources 1 = .ok (.istore_n 2, 1) := by decide +kernel
theorem dX3_markSources_2 : decode cX3_markSources 2 = .ok (.iload_n 2, 1) := by decide +kernel
theorem dX3_markSources_3 : decode cX3_markSources 3 = .ok (.aload_n 1, 1) := by decide +kernel
theorem dX3_markSources_4 : decode cX3_markSources 4 = .ok (.getfield 46, 3) := by decide +kernel
theorem dX3_markSources_7 : decode cX3_markSources 7 = .ok (.if_icmp .ge 25, 3) := by decide +kernel
theorem dX3_markSources_10 : decode cX3_markSources 10 = .ok (.aload_n 0, 1) := by decide +kernel
theorem dX3_markSources_11 : decode cX3_markSources 11 = .ok (.getfield 14, 3) := by decide +kernel
theorem dX3_markSources_14 : decode cX3_markSources 14 = .ok (.aload_n 1, 1) := by decide +kernel
theorem dX3_markSources_15 : decode cX3_markSources 15 = .ok (.getfield 54, 3) := by decide +kernel
theorem dX3_markSources_18 : decode cX3_markSources 18 = .ok (.iload_n 2, 1) := by decide +kernel
theorem dX3_markSources_19 : decode cX3_markSources 19 = .ok (.invokevirtual 32, 3) := by decide +kernel
theorem dX3_markSources_22 : decode cX3_markSources 22 = .ok (.lconst 1, 1) := by decide +kernel
theorem dX3_markSources_23 : decode cX3_markSources 23 = .ok (.invokevirtual 42, 3) := by decide +kernel
theorem dX3_markSources_26 : decode cX3_markSources 26 = .ok (.iinc 2 1, 3) := by decide +kernel
theorem dX3_markSources_29 : decode cX3_markSources 29 = .ok (.goto (-27), 3) := by decide +kernel
theorem dX3_markSources_32 : decode cX3_markSources 32 = .ok (.return_, 1) := by decide +kernel
set_option maxRecDepth 20000 in
theorem ggX3_readIn_X7_number : GoodIn wsX3_readIn wsX7_number := goodIn_r _ [6, 7, 9] (by decide +kernel) (by decide +kernel)
set_option maxRecDepth 20000 in
theorem gX3_readIn_X7_number : GoodIn wsX3_readIn (wsV RX3 32 RX7 yX7_number wsX7_number) := goodIn_app (goodIn_of _ (by decide +kernel)) ggX3_readIn_X7_number
theorem dX3_readIn_0 : decode cX3_readIn 0 = .ok (.iload_n 1, 1) := by decide +kernel
theorem dX3_readIn_1 : decode cX3_readIn 1 = .ok (.istore_n 2, 1) := by decide +kernel
theorem dX3_readIn_2 : decode cX3_readIn 2 = .ok (.iconst 0, 1) := by decide +kernel
theorem dX3_readIn_3 : decode cX3_readIn 3 = .ok (.istore_n 3, 1) := by decide +kernel
theorem dX3_readIn_4 : decode cX3_readIn 4 = .ok (.iload_n 3, 1) := by decide +kernel
theorem dX3_readIn_5 : decode cX3_readIn 5 = .ok (.bipush 20, 2) := by decide +kernel
theorem dX3_readIn_7 : decode cX3_readIn 7 = .ok (.if_icmp .ge 30, 3) := by decide +kernel
theorem dX3_readIn_10 : decode cX3_readIn 10 = .ok (.aload_n 0, 1) := by decide +kernel
theorem dX3_readIn_11 : decode cX3_readIn 11 = .ok (.getfield 14, 3) := by decide +kernel
theorem dX3_readIn_14 : decode cX3_readIn 14 = .ok (.iload_n 3, 1) := by decide +kernel
theorem dX3_readIn_15 : decode cX3_readIn 15 = .ok (.invokevirtual 32, 3) := by decide +kernel
theorem dX3_readIn_18 : decode cX3_readIn 18 = .ok (.iconst 1, 1) := by decide +kernel
theorem dX3_readIn_19 : decode cX3_readIn 19 = .ok (.if_icmp .ne 12, 3) := by decide +kernel
theorem dX3_readIn_22 : decode cX3_readIn 22 = .ok (.iload_n 2, 1) := by decide +kernel
theorem dX3_readIn_23 : decode cX3_readIn 23 = .ok (.ifCond .ne 5, 3) := by decide +kernel
theorem dX3_readIn_26 : decode cX3_readIn 26 = .ok (.iload_n 3, 1) := by decide +kernel
theorem dX3_readIn_27 : decode cX3_readIn 27 = .ok (.ireturn, 1) := by decide +kernel
theorem dX3_readIn_28 : decode cX3_readIn 28 = .ok (.iinc 2 (-1), 3) := by decide +kernel
theorem dX3_readIn_31 : decode cX3_readIn 31 = .ok (.iinc 3 1, 3) := by decide +kernel
theorem dX3_readIn_34 : decode cX3_readIn 34 = .ok (.goto (-30), 3) := by decide +kernel
theorem dX3_readIn_37 : decode cX3_readIn 37 = .ok (.iconst (-1), 1) := by decide +kernel
theorem dX3_readIn_38 : decode cX3_readIn 38 = .ok (.ireturn, 1) := by decide +kernel
set_option maxRecDepth 20000 in
theorem ggX4_init_X7_init : GoodIn wsX4_init wsX7_init := goodIn_r _ [13, 14, 2, 3, 15, 16, 17, 18, 19, 20, 21] (by decide +kernel) (by decide +kernel)
set_option maxRecDepth 20000 in
theorem gX4_init_X7_init : GoodIn wsX4_init (wsX7_init) := ggX4_init_X7_init
theorem dX4_init_0 : decode cX4_init 0 = .ok (.aload_n 0, 1) := by decide +kernel
theorem dX4_init_1 : decode cX4_init 1 = .ok (.invokespecial 3, 3) := by decide +kernel
theorem dX4_init_4 : decode cX4_init 4 = .ok (.aload_n 0, 1) := by decide +kernel
theorem dX4_init_5 : decode cX4_init 5 = .ok (.new 9, 3) := by decide +kernel
theorem dX4_init_8 : decode cX4_init 8 = .ok (.dup, 1) := by decide +kernel
theorem dX4_init_9 : decode cX4_init 9 = .ok (.bipush 60, 2) := by decide +kernel
theorem dX4_init_11 : decode cX4_init 11 = .ok (.invokespecial 11, 3) := by decide +kernel
theorem dX4_init_14 : decode cX4_init 14 = .ok (.putfield 14, 3) := by decide +kernel
theorem dX4_init_17 : decode cX4_init 17 = .ok (.aload_n 0, 1) := by decide +kernel
theorem dX4_init_18 : decode cX4_init 18 = .ok (.new 9, 3) := by decide +kernel
theorem dX4_init_21 : decode cX4_init 21 = .ok (.dup, 1) := by decide +kernel
theorem dX4_init_22 : decode cX4_init 22 = .ok (.bipush 16, 2) := by decide +kernel
theorem dX4_init_24 : decode cX4_init 24 = .ok (.invokespecial 11, 3) := by decide +kernel
theorem dX4_init_27 : decode cX4_init 27 = .ok (.putfield 20, 3) := by decide +kernel
theorem dX4_init_30 : decode cX4_init 30 = .ok (.aload_n 0, 1) := by decide +kernel
theorem dX4_init_31 : decode cX4_init 31 = .ok (.new 9, 3) := by decide +kernel
theorem dX4_init_34 : decode cX4_init 34 = .ok (.dup, 1) := by decide +kernel
theorem dX4_init_35 : decode cX4_init 35 = .ok (.bipush 16, 2) := by decide +kernel
theorem dX4_init_37 : decode cX4_init 37 = .ok (.invokespecial 11, 3) := by decide +kernel
theorem dX4_init_40 : decode cX4_init 40 = .ok (.putfield 23, 3) := by decide +kernel
theorem dX4_init_43 : decode cX4_init 43 = .ok (.aload_n 0, 1) := by decide +kernel
theorem dX4_init_44 : decode cX4_init 44 = .ok (.new 9, 3) := by decide +kernel
theorem dX4_init_47 : decode cX4_init 47 = .ok (.dup, 1) := by decide +kernel
theorem dX4_init_48 : decode cX4_init 48 = .ok (.bipush 16, 2) := by decide +kernel
theorem dX4_init_50 : decode cX4_init 50 = .ok (.invokespecial 11, 3) := by decide +kernel
theorem dX4_init_53 : decode cX4_init 53 = .ok (.putfield 26, 3) := by decide +kernel
theorem dX4_init_56 : decode cX4_init 56 = .ok (.return_, 1) := by decide +kernel
set_option maxRecDepth 20000 in
theorem ggX4_copy_X7_copy : GoodIn wsX4_copy wsX7_copy := goodIn_r _ [13, 14, 15, 16, 17, 18, 27] (by decide +kernel) (by decide +kernel)
set_option maxRecDepth 20000 in
theorem gX4_copy_X7_copy : GoodIn wsX4_copy (wsV RX4 42 RX7 yX7_copy wsX7_copy) := goodIn_app (goodIn_of _ (by decide +kernel)) ggX4_copy_X7_copy
theorem dX4_copy_0 : decode cX4_copy 0 = .ok (.aload_n 0, 1) := by decide +kernel
theorem dX4_copy_1 : decode cX4_copy 1 = .ok (.aload_n 1, 1) := by decide +kernel
theorem dX4_copy_2 : decode cX4_copy 2 = .ok (.getfield 29, 3) := by decide +kernel
theorem dX4_copy_5 : decode cX4_copy 5 = .ok (.putfield 29, 3) := by decide +kernel
theorem dX4_copy_8 : decode cX4_copy 8 = .ok (.aload_n 0, 1) := by decide +kernel
theorem dX4_copy_9 : decode cX4_copy 9 = .ok (.aload_n 1, 1) := by decide +kernel
theorem dX4_copy_10 : decode cX4_copy 10 = .ok (.getfield 33, 3) := by decide +kernel
theorem dX4_copy_13 : decode cX4_copy 13 = .ok (.putfield 33, 3) := by decide +kernel
theorem dX4_copy_16 : decode cX4_copy 16 = .ok (.aload_n 0, 1) := by decide +kernel
theorem dX4_copy_17 : decode cX4_copy 17 = .ok (.aload_n 1, 1) := by decide +kernel
theorem dX4_copy_18 : decode cX4_copy 18 = .ok (.getfield 36, 3) := by decide +kernel
theorem dX4_copy_21 : decode cX4_copy 21 = .ok (.putfield 36, 3) := by decide +kernel
theorem dX4_copy_24 : decode cX4_copy 24 = .ok (.aload_n 0, 1) := by decide +kernel
theorem dX4_copy_25 : decode cX4_copy 25 = .ok (.aload_n 1, 1) := by decide +kernel
theorem dX4_copy_26 : decode cX4_copy 26 = .ok (.getfield 39, 3) := by decide +kernel
theorem dX4_copy_29 : decode cX4_copy 29 = .ok (.putfield 39, 3) := by decide +kernel
theorem dX4_copy_32 : decode cX4_copy 32 = .ok (.aload_n 0, 1) := by decide +kernel
theorem dX4_copy_33 : decode cX4_copy 33 = .ok (.getfield 14, 3) := by decide +kernel
theorem dX4_copy_36 : decode cX4_copy 36 = .ok (.aload_n 1, 1) := by decide +kernel
theorem dX4_copy_37 : decode cX4_copy 37 = .ok (.getfield 14, 3) := by decide +kernel
theorem dX4_copy_40 : decode cX4_copy 40 = .ok (.aload_n 0, 1) := by decide +kernel
theorem dX4_copy_41 : decode cX4_copy 41 = .ok (.getfield 36, 3) := by decide +kernel
theorem dX4_copy_44 : decode cX4_copy 44 = .ok (.invokevirtual 42, 3) := by decide +kernel
theorem dX4_copy_47 : decode cX4_copy 47 = .ok (.aload_n 0, 1) := by decide +kernel
theorem dX4_copy_48 : decode cX4_copy 48 = .ok (.getfield 20, 3) := by decide +kernel
theorem dX4_copy_51 : decode cX4_copy 51 = .ok (.aload_n 1, 1) := by decide +kernel
theorem dX4_copy_52 : decode cX4_copy 52 = .ok (.getfield 20, 3) := by decide +kernel
theorem dX4_copy_55 : decode cX4_copy 55 = .ok (.aload_n 0, 1) := by decide +kernel
theorem dX4_copy_56 : decode cX4_copy 56 = .ok (.getfield 39, 3) := by decide +kernel
theorem dX4_copy_59 : decode cX4_copy 59 = .ok (.invokevirtual 42, 3) := by decide +kernel
theorem dX4_copy_62 : decode cX4_copy 62 = .ok (.aload_n 0, 1) := by decide +kernel
theorem dX4_copy_63 : decode cX4_copy 63 = .ok (.getfield 23, 3) := by decide +kernel
theorem dX4_copy_66 : decode cX4_copy 66 = .ok (.aload_n 1, 1) := by decide +kernel
theorem dX4_copy_67 : decode cX4_copy 67 = .ok (.getfield 23, 3) := by decide +kernel
theorem dX4_copy_70 : decode cX4_copy 70 = .ok (.aload_n 0, 1) := by decide +kernel
theorem dX4_copy_71 : decode cX4_copy 71 = .ok (.getfield 39, 3) := by decide +kernel
theorem dX4_copy_74 : decode cX4_copy 74 = .ok (.invokevirtual 42, 3) := by decide +kernel
theorem dX4_copy_77 : decode cX4_copy 77 = .ok (.aload_n 0, 1) := by decide +kernel
theorem dX4_copy_78 : decode cX4_copy 78 = .ok (.getfield 26, 3) := by decide +kernel
theorem dX4_copy_81 : decode cX4_copy 81 = .ok (.aload_n 1, 1) := by decide +kernel
theorem dX4_copy_82 : decode cX4_copy 82 = .ok (.getfield 26, 3) := by decide +kernel
theorem dX4_copy_85 : decode cX4_copy 85 = .ok (.aload_n 0, 1) := by decide +kernel
theorem dX4_copy_86 : decode cX4_copy 86 = .ok (.getfield 39, 3) := by decide +kernel
theorem dX4_copy_89 : decode cX4_copy 89 = .ok (.invokevirtual 42, 3) := by decide +kernel
theorem dX4_copy_92 : decode cX4_copy 92 = .ok (.return_, 1) := by decide +kernel
theorem dX4_empty_0 : decode cX4_empty 0 = .ok (.aload_n 0, 1) := by decide +kernel
theorem dX4_empty_1 : decode cX4_empty 1 = .ok (.iconst 0, 1) := by decide +kernel
theorem dX4_empty_2 : decode cX4_empty 2 = .ok (.putfield 36, 3) := by decide +kernel
theorem dX4_empty_5 : decode cX4_empty 5 = .ok (.aload_n 0, 1) := by decide +kernel
theorem dX4_empty_6 : decode cX4_empty 6 = .ok (.iconst 0, 1) := by decide +kernel
theorem dX4_empty_7 : decode cX4_empty 7 = .ok (.putfield 39, 3) := by decide +kernel
theorem dX4_empty_10 : decode cX4_empty 10 = .ok (.return_, 1) := by decide +kernel
set_option maxRecDepth 20000 in
theorem ggX4_addWord_X7_put : GoodIn wsX4_addWord wsX7_put := goodIn_r _ [7, 8, 17] (by decide +kernel) (by decide +kernel)
set_option maxRecDepth 20000 in
theorem gX4_addWord_X7_put : GoodIn wsX4_addWord (wsV RX4 46 RX7 yX7_put wsX7_put) := goodIn_app (goodIn_of _ (by decide +kernel)) ggX4_addWord_X7_put
theorem dX4_addWord_0 : decode cX4_addWord 0 = .ok (.aload_n 0, 1) := by decide +kernel
theorem dX4_addWord_1 : decode cX4_addWord 1 = .ok (.getfield 14, 3) := by decide +kernel
theorem dX4_addWord_4 : decode cX4_addWord 4 = .ok (.aload_n 0, 1) := by decide +kernel
theorem dX4_addWord_5 : decode cX4_addWord 5 = .ok (.getfield 36, 3) := by decide +kernel
theorem dX4_addWord_8 : decode cX4_addWord 8 = .ok (.lload_n 1, 1) := by decide +kernel
theorem dX4_addWord_9 : decode cX4_addWord 9 = .ok (.invokevirtual 46, 3) := by decide +kernel
theorem dX4_addWord_12 : decode cX4_addWord 12 = .ok (.aload_n 0, 1) := by decide +kernel
theorem dX4_addWord_13 : decode cX4_addWord 13 = .ok (.dup, 1) := by decide +kernel
theorem dX4_addWord_14 : decode cX4_addWord 14 = .ok (.getfield 36, 3) := by decide +kernel
theorem dX4_addWord_17 : decode cX4_addWord 17 = .ok (.iconst 1, 1) := by decide +kernel
theorem dX4_addWord_18 : decode cX4_addWord 18 = .ok (.iadd, 1) := by decide +kernel
theorem dX4_addWord_19 : decode cX4_addWord 19 = .ok (.putfield 36, 3) := by decide +kernel
theorem dX4_addWord_22 : decode cX4_addWord 22 = .ok (.return_, 1) := by decide +kernel
set_option maxRecDepth 20000 in
theorem ggX4_addQuotation_X7_put : GoodIn wsX4_addQuotation wsX7_put := goodIn_r _ [10, 11, 20] (by decide +kernel) (by decide +kernel)
set_option maxRecDepth 20000 in
theorem gX4_addQuotation_X7_put : GoodIn wsX4_addQuotation (wsV RX4 46 RX7 yX7_put wsX7_put) := goodIn_app (goodIn_of _ (by decide +kernel)) ggX4_addQuotation_X7_put
theorem dX4_addQuotation_0 : decode cX4_addQuotation 0 = .ok (.aload_n 0, 1) := by decide +kernel
theorem dX4_addQuotation_1 : decode cX4_addQuotation 1 = .ok (.getfield 20, 3) := by decide +kernel
theorem dX4_addQuotation_4 : decode cX4_addQuotation 4 = .ok (.aload_n 0, 1) := by decide +kernel
theorem dX4_addQuotation_5 : decode cX4_addQuotation 5 = .ok (.getfield 39, 3) := by decide +kernel
theorem dX4_addQuotation_8 : decode cX4_addQuotation 8 = .ok (.iload_n 1, 1) := by decide +kernel
theorem dX4_addQuotation_9 : decode cX4_addQuotation 9 = .ok (.i2l, 1) := by decide +kernel
theorem dX4_addQuotation_10 : decode cX4_addQuotation 10 = .ok (.invokevirtual 46, 3) := by decide +kernel
theorem dX4_addQuotation_13 : decode cX4_addQuotation 13 = .ok (.aload_n 0, 1) := by decide +kernel
theorem dX4_addQuotation_14 : decode cX4_addQuotation 14 = .ok (.getfield 23, 3) := by decide +kernel
theorem dX4_addQuotation_17 : decode cX4_addQuotation 17 = .ok (.aload_n 0, 1) := by decide +kernel
theorem dX4_addQuotation_18 : decode cX4_addQuotation 18 = .ok (.getfield 39, 3) := by decide +kernel
theorem dX4_addQuotation_21 : decode cX4_addQuotation 21 = .ok (.iload_n 2, 1) := by decide +kernel
theorem dX4_addQuotation_22 : decode cX4_addQuotation 22 = .ok (.i2l, 1) := by decide +kernel
theorem dX4_addQuotation_23 : decode cX4_addQuotation 23 = .ok (.invokevirtual 46, 3) := by decide +kernel
theorem dX4_addQuotation_26 : decode cX4_addQuotation 26 = .ok (.aload_n 0, 1) := by decide +kernel
theorem dX4_addQuotation_27 : decode cX4_addQuotation 27 = .ok (.getfield 26, 3) := by decide +kernel
theorem dX4_addQuotation_30 : decode cX4_addQuotation 30 = .ok (.aload_n 0, 1) := by decide +kernel
theorem dX4_addQuotation_31 : decode cX4_addQuotation 31 = .ok (.getfield 39, 3) := by decide +kernel
theorem dX4_addQuotation_34 : decode cX4_addQuotation 34 = .ok (.aload_n 0, 1) := by decide +kernel
theorem dX4_addQuotation_35 : decode cX4_addQuotation 35 = .ok (.getfield 36, 3) := by decide +kernel
theorem dX4_addQuotation_38 : decode cX4_addQuotation 38 = .ok (.iload_n 2, 1) := by decide +kernel
theorem dX4_addQuotation_39 : decode cX4_addQuotation 39 = .ok (.isub, 1) := by decide +kernel
theorem dX4_addQuotation_40 : decode cX4_addQuotation 40 = .ok (.i2l, 1) := by decide +kernel
theorem dX4_addQuotation_41 : decode cX4_addQuotation 41 = .ok (.invokevirtual 46, 3) := by decide +kernel
theorem dX4_addQuotation_44 : decode cX4_addQuotation 44 = .ok (.aload_n 0, 1) := by decide +kernel
theorem dX4_addQuotation_45 : decode cX4_addQuotation 45 = .ok (.dup, 1) := by decide +kernel
theorem dX4_addQuotation_46 : decode cX4_addQuotation 46 = .ok (.getfield 39, 3) := by decide +kernel
theorem dX4_addQuotation_49 : decode cX4_addQuotation 49 = .ok (.iconst 1, 1) := by decide +kernel
theorem dX4_addQuotation_50 : decode cX4_addQuotation 50 = .ok (.iadd, 1) := by decide +kernel
theorem dX4_addQuotation_51 : decode cX4_addQuotation 51 = .ok (.putfield 39, 3) := by decide +kernel
theorem dX4_addQuotation_54 : decode cX4_addQuotation 54 = .ok (.return_, 1) := by decide +kernel
theorem dX4_pageCount_0 : decode cX4_pageCount 0 = .ok (.aload_n 0, 1) := by decide +kernel
theorem dX4_pageCount_1 : decode cX4_pageCount 1 = .ok (.getfield 36, 3) := by decide +kernel
theorem dX4_pageCount_4 : decode cX4_pageCount 4 = .ok (.bipush 8, 2) := by decide +kernel
theorem dX4_pageCount_6 : decode cX4_pageCount 6 = .ok (.iadd, 1) := by decide +kernel
theorem dX4_pageCount_7 : decode cX4_pageCount 7 = .ok (.iconst 1, 1) := by decide +kernel
theorem dX4_pageCount_8 : decode cX4_pageCount 8 = .ok (.isub, 1) := by decide +kernel
theorem dX4_pageCount_9 : decode cX4_pageCount 9 = .ok (.bipush 8, 2) := by decide +kernel
theorem dX4_pageCount_11 : decode cX4_pageCount 11 = .ok (.idiv, 1) := by decide +kernel
theorem dX4_pageCount_12 : decode cX4_pageCount 12 = .ok (.ireturn, 1) := by decide +kernel
set_option maxRecDepth 20000 in
theorem ggX4_quotes_X7_number : GoodIn wsX4_quotes wsX7_number := goodIn_r _ [7, 8, 17] (by decide +kernel) (by decide +kernel)
set_option maxRecDepth 20000 in
theorem gX4_quotes_X7_number : GoodIn wsX4_quotes (wsV RX4 50 RX7 yX7_number wsX7_number) := goodIn_app (goodIn_of _ (by decide +kernel)) ggX4_quotes_X7_number
theorem dX4_quotes_0 : decode cX4_quotes 0 = .ok (.iconst 0, 1) := by decide +kernel
theorem dX4_quotes_1 : decode cX4_quotes 1 = .ok (.istore_n 2, 1) := by decide +kernel
theorem dX4_quotes_2 : decode cX4_quotes 2 = .ok (.iload_n 2, 1) := by decide +kernel
theorem dX4_quotes_3 : decode cX4_quotes 3 = .ok (.aload_n 0, 1) := by decide +kernel
theorem dX4_quotes_4 : decode cX4_quotes 4 = .ok (.getfield 39, 3) := by decide +kernel
theorem dX4_quotes_7 : decode cX4_quotes 7 = .ok (.if_icmp .ge 23, 3) := by decide +kernel
theorem dX4_quotes_10 : decode cX4_quotes 10 = .ok (.aload_n 0, 1) := by decide +kernel
theorem dX4_quotes_11 : decode cX4_quotes 11 = .ok (.getfield 20, 3) := by decide +kernel
theorem dX4_quotes_14 : decode cX4_quotes 14 = .ok (.iload_n 2, 1) := by decide +kernel
theorem dX4_quotes_15 : decode cX4_quotes 15 = .ok (.invokevirtual 50, 3) := by decide +kernel
theorem dX4_quotes_18 : decode cX4_quotes 18 = .ok (.iload_n 1, 1) := by decide +kernel
theorem dX4_quotes_19 : decode cX4_quotes 19 = .ok (.if_icmp .ne 5, 3) := by decide +kernel
theorem dX4_quotes_22 : decode cX4_quotes 22 = .ok (.iconst 1, 1) := by decide +kernel
theorem dX4_quotes_23 : decode cX4_quotes 23 = .ok (.ireturn, 1) := by decide +kernel
theorem dX4_quotes_24 : decode cX4_quotes 24 = .ok (.iinc 2 1, 3) := by decide +kernel
theorem dX4_quotes_27 : decode cX4_quotes 27 = .ok (.goto (-25), 3) := by decide +kernel
theorem dX4_quotes_30 : decode cX4_quotes 30 = .ok (.iconst 0, 1) := by decide +kernel
theorem dX4_quotes_31 : decode cX4_quotes 31 = .ok (.ireturn, 1) := by decide +kernel
set_option maxRecDepth 20000 in
theorem ggX4_isWithin_X7_number : GoodIn wsX4_isWithin wsX7_number := goodIn_r _ [7, 8, 17] (by decide +kernel) (by decide +kernel)
set_option maxRecDepth 20000 in
theorem gX4_isWithin_X7_number : GoodIn wsX4_isWithin (wsV RX4 50 RX7 yX7_number wsX7_number) := goodIn_app (goodIn_of _ (by decide +kernel)) ggX4_isWithin_X7_number
theorem dX4_isWithin_0 : decode cX4_isWithin 0 = .ok (.aload_n 0, 1) := by decide +kernel
theorem dX4_isWithin_1 : decode cX4_isWithin 1 = .ok (.getfield 23, 3) := by decide +kernel
theorem dX4_isWithin_4 : decode cX4_isWithin 4 = .ok (.iload_n 1, 1) := by decide +kernel
theorem dX4_isWithin_5 : decode cX4_isWithin 5 = .ok (.invokevirtual 50, 3) := by decide +kernel
theorem dX4_isWithin_8 : decode cX4_isWithin 8 = .ok (.istore 4, 2) := by decide +kernel
theorem dX4_isWithin_10 : decode cX4_isWithin 10 = .ok (.iload_n 2, 1) := by decide +kernel
theorem dX4_isWithin_11 : decode cX4_isWithin 11 = .ok (.iload 4, 2) := by decide +kernel
theorem dX4_isWithin_13 : decode cX4_isWithin 13 = .ok (.if_icmp .lt 24, 3) := by decide +kernel
theorem dX4_isWithin_16 : decode cX4_isWithin 16 = .ok (.iload_n 2, 1) := by decide +kernel
theorem dX4_isWithin_17 : decode cX4_isWithin 17 = .ok (.iload_n 3, 1) := by decide +kernel
theorem dX4_isWithin_18 : decode cX4_isWithin 18 = .ok (.iadd, 1) := by decide +kernel
theorem dX4_isWithin_19 : decode cX4_isWithin 19 = .ok (.iload 4, 2) := by decide +kernel
theorem dX4_isWithin_21 : decode cX4_isWithin 21 = .ok (.aload_n 0, 1) := by decide +kernel
theorem dX4_isWithin_22 : decode cX4_isWithin 22 = .ok (.getfield 26, 3) := by decide +kernel
theorem dX4_isWithin_25 : decode cX4_isWithin 25 = .ok (.iload_n 1, 1) := by decide +kernel
theorem dX4_isWithin_26 : decode cX4_isWithin 26 = .ok (.invokevirtual 50, 3) := by decide +kernel
theorem dX4_isWithin_29 : decode cX4_isWithin 29 = .ok (.iadd, 1) := by decide +kernel
theorem dX4_isWithin_30 : decode cX4_isWithin 30 = .ok (.if_icmp .gt 7, 3) := by decide +kernel
theorem dX4_isWithin_33 : decode cX4_isWithin 33 = .ok (.iconst 1, 1) := by decide +kernel
theorem dX4_isWithin_34 : decode cX4_isWithin 34 = .ok (.goto 4, 3) := by decide +kernel
theorem dX4_isWithin_37 : decode cX4_isWithin 37 = .ok (.iconst 0, 1) := by decide +kernel
theorem dX4_isWithin_38 : decode cX4_isWithin 38 = .ok (.ireturn, 1) := by decide +kernel
set_option maxRecDepth 20000 in
theorem ggX4_quotationAround_X4_isWithin : GoodIn wsX4_quotationAround wsX4_isWithin := goodIn_r _ [6, 7, 8, 9, 10, 11, 12, 13, 14, 15, 16, 17, 18, 19, 20, 21, 22, 23] (by decide +kernel) (by decide +kernel)
set_option maxRecDepth 20000 in
theorem gX4_quotationAround_X4_isWithin : GoodIn wsX4_quotationAround (wsV RX4 54 RX4 yX4_isWithin wsX4_isWithin) := goodIn_app (goodIn_of _ (by decide +kernel)) ggX4_quotationAround_X4_isWithin
theorem dX4_quotationAround_0 : decode cX4_quotationAround 0 = .ok (.iconst 0, 1) := by decide +kernel
theorem dX4_quotationAround_1 : decode cX4_quotationAround 1 = .ok (.istore_n 3, 1) := by decide +kernel
theorem dX4_quotationAround_2 : decode cX4_quotationAround 2 = .ok (.iload_n 3, 1) := by decide +kernel
theorem dX4_quotationAround_3 : decode cX4_quotationAround 3 = .ok (.aload_n 0, 1) := by decide +kernel
theorem dX4_quotationAround_4 : decode cX4_quotationAround 4 = .ok (.getfield 39, 3) := by decide +kernel
theorem dX4_quotationAround_7 : decode cX4_quotationAround 7 = .ok (.if_icmp .ge 21, 3) := by decide +kernel
theorem dX4_quotationAround_10 : decode cX4_quotationAround 10 = .ok (.aload_n 0, 1) := by decide +kernel
theorem dX4_quotationAround_11 : decode cX4_quotationAround 11 = .ok (.iload_n 3, 1) := by decide +kernel
theorem dX4_quotationAround_12 : decode cX4_quotationAround 12 = .ok (.iload_n 1, 1) := by decide +kernel
theorem dX4_quotationAround_13 : decode cX4_quotationAround 13 = .ok (.iload_n 2, 1) := by decide +kernel
theorem dX4_quotationAround_14 : decode cX4_quotationAround 14 = .ok (.invokevirtual 54, 3) := by decide +kernel
theorem dX4_quotationAround_17 : decode cX4_quotationAround 17 = .ok (.ifCond .eq 5, 3) := by decide +kernel
theorem dX4_quotationAround_20 : decode cX4_quotationAround 20 = .ok (.iload_n 3, 1) := by decide +kernel
theorem dX4_quotationAround_21 : decode cX4_quotationAround 21 = .ok (.ireturn, 1) := by decide +kernel
theorem dX4_quotationAround_22 : decode cX4_quotationAround 22 = .ok (.iinc 3 1, 3) := by decide +kernel
theorem dX4_quotationAround_25 : decode cX4_quotationAround 25 = .ok (.goto (-23), 3) := by decide +kernel
theorem dX4_quotationAround_28 : decode cX4_quotationAround 28 = .ok (.iconst (-1), 1) := by decide +kernel
theorem dX4_quotationAround_29 : decode cX4_quotationAround 29 = .ok (.ireturn, 1) := by decide +kernel
set_option maxRecDepth 20000 in
theorem ggX4_growth_X7_number : GoodIn wsX4_growth wsX7_number := goodIn_r _ [6, 7, 16] (by decide +kernel) (by decide +kernel)
set_option maxRecDepth 20000 in
theorem gX4_growth_X7_number : GoodIn wsX4_growth (wsV RX4 50 RX7 yX7_number wsX7_number) := goodIn_app (goodIn_of _ (by decide +kernel)) ggX4_growth_X7_number
theorem dX4_growth_0 : decode cX4_growth 0 = .ok (.iload_n 2, 1) := by decide +kernel
theorem dX4_growth_1 : decode cX4_growth 1 = .ok (.aload_n 0, 1) := by decide +kernel
theorem dX4_growth_2 : decode cX4_growth 2 = .ok (.getfield 26, 3) := by decide +kernel
theorem dX4_growth_5 : decode cX4_growth 5 = .ok (.iload_n 1, 1) := by decide +kernel
theorem dX4_growth_6 : decode cX4_growth 6 = .ok (.invokevirtual 50, 3) := by decide +kernel
theorem dX4_growth_9 : decode cX4_growth 9 = .ok (.isub, 1) := by decide +kernel
theorem dX4_growth_10 : decode cX4_growth 10 = .ok (.ireturn, 1) := by decide +kernel
set_option maxRecDepth 20000 in
theorem ggX4_replace_X7_number : GoodIn wsX4_replace wsX7_number := goodIn_r _ [10, 11, 41] (by decide +kernel) (by decide +kernel)
set_option maxRecDepth 20000 in
theorem gX4_replace_X7_number : GoodIn wsX4_replace (wsV RX4 50 RX7 yX7_number wsX7_number) := goodIn_app (goodIn_of _ (by decide +kernel)) ggX4_replace_X7_number
set_option maxRecDepth 20000 in
theorem ggX4_replace_X4_growth : GoodIn wsX4_replace wsX4_growth := goodIn_r _ [16, 2, 6, 7, 8, 9, 10, 11, 33, 34, 35, 36, 37, 38, 39, 40, 41] (by decide +kernel) (by decide +kernel)
set_option maxRecDepth 20000 in
theorem gX4_replace_X4_growth : GoodIn wsX4_replace (wsV RX4 58 RX4 yX4_growth wsX4_growth) := goodIn_app (goodIn_of _ (by decide +kernel)) ggX4_replace_X4_growth
set_option maxRecDepth 20000 in
theorem ggX4_replace_X7_move : GoodIn wsX4_replace wsX7_move := goodIn_r _ [20, 11, 21, 22, 23, 24, 41] (by decide +kernel) (by decide +kernel)
set_option maxRecDepth 20000 in
theorem gX4_replace_X7_move : GoodIn wsX4_replace (wsV RX4 62 RX7 yX7_move wsX7_move) := goodIn_app (goodIn_of _ (by decide +kernel)) ggX4_replace_X7_move
set_option maxRecDepth 20000 in
theorem ggX4_replace_X7_at : GoodIn wsX4_replace wsX7_at := goodIn_r _ [28, 11, 41] (by decide +kernel) (by decide +kernel)
set_option maxRecDepth 20000 in
theorem gX4_replace_X7_at : GoodIn wsX4_replace (wsV RX4 66 RX7 yX7_at wsX7_at) := goodIn_app (goodIn_of _ (by decide +kernel)) ggX4_replace_X7_at
set_option maxRecDepth 20000 in
theorem ggX4_replace_X7_put : GoodIn wsX4_replace wsX7_put := goodIn_r _ [32, 11, 41] (by decide +kernel) (by decide +kernel)
set_option maxRecDepth 20000 in
theorem gX4_replace_X7_put : GoodIn wsX4_replace (wsV RX4 46 RX7 yX7_put wsX7_put) := goodIn_app (goodIn_of _ (by decide +kernel)) ggX4_replace_X7_put
theorem dX4_replace_0 : decode cX4_replace 0 = .ok (.aload_n 0, 1) := by decide +kernel
theorem dX4_replace_1 : decode cX4_replace 1 = .ok (.getfield 23, 3) := by decide +kernel
theorem dX4_replace_4 : decode cX4_replace 4 = .ok (.iload_n 1, 1) := by decide +kernel
theorem dX4_replace_5 : decode cX4_replace 5 = .ok (.invokevirtual 50, 3) := by decide +kernel
theorem dX4_replace_8 : decode cX4_replace 8 = .ok (.istore 5, 2) := by decide +kernel
theorem dX4_replace_10 : decode cX4_replace 10 = .ok (.iload 5, 2) := by decide +kernel
theorem dX4_replace_12 : decode cX4_replace 12 = .ok (.aload_n 0, 1) := by decide +kernel
theorem dX4_replace_13 : decode cX4_replace 13 = .ok (.getfield 26, 3) := by decide +kernel
theorem dX4_replace_16 : decode cX4_replace 16 = .ok (.iload_n 1, 1) := by decide +kernel
theorem dX4_replace_17 : decode cX4_replace 17 = .ok (.invokevirtual 50, 3) := by decide +kernel
theorem dX4_replace_20 : decode cX4_replace 20 = .ok (.iadd, 1) := by decide +kernel
theorem dX4_replace_21 : decode cX4_replace 21 = .ok (.istore 6, 2) := by decide +kernel
theorem dX4_replace_23 : decode cX4_replace 23 = .ok (.aload_n 0, 1) := by decide +kernel
theorem dX4_replace_24 : decode cX4_replace 24 = .ok (.iload_n 1, 1) := by decide +kernel
theorem dX4_replace_25 : decode cX4_replace 25 = .ok (.iload 4, 2) := by decide +kernel
theorem dX4_replace_27 : decode cX4_replace 27 = .ok (.invokevirtual 58, 3) := by decide +kernel
theorem dX4_replace_30 : decode cX4_replace 30 = .ok (.istore 7, 2) := by decide +kernel
theorem dX4_replace_32 : decode cX4_replace 32 = .ok (.aload_n 0, 1) := by decide +kernel
theorem dX4_replace_33 : decode cX4_replace 33 = .ok (.getfield 14, 3) := by decide +kernel
theorem dX4_replace_36 : decode cX4_replace 36 = .ok (.iload 6, 2) := by decide +kernel
theorem dX4_replace_38 : decode cX4_replace 38 = .ok (.iload 6, 2) := by decide +kernel
theorem dX4_replace_40 : decode cX4_replace 40 = .ok (.iload 7, 2) := by decide +kernel
theorem dX4_replace_42 : decode cX4_replace 42 = .ok (.iadd, 1) := by decide +kernel
theorem dX4_replace_43 : decode cX4_replace 43 = .ok (.aload_n 0, 1) := by decide +kernel
theorem dX4_replace_44 : decode cX4_replace 44 = .ok (.getfield 36, 3) := by decide +kernel
theorem dX4_replace_47 : decode cX4_replace 47 = .ok (.iload 6, 2) := by decide +kernel
theorem dX4_replace_49 : decode cX4_replace 49 = .ok (.isub, 1) := by decide +kernel
theorem dX4_replace_50 : decode cX4_replace 50 = .ok (.invokevirtual 62, 3) := by decide +kernel
theorem dX4_replace_53 : decode cX4_replace 53 = .ok (.iconst 0, 1) := by decide +kernel
theorem dX4_replace_54 : decode cX4_replace 54 = .ok (.istore 8, 2) := by decide +kernel
theorem dX4_replace_56 : decode cX4_replace 56 = .ok (.iload 8, 2) := by decide +kernel
theorem dX4_replace_58 : decode cX4_replace 58 = .ok (.iload 4, 2) := by decide +kernel
theorem dX4_replace_60 : decode cX4_replace 60 = .ok (.if_icmp .ge 32, 3) := by decide +kernel
theorem dX4_replace_63 : decode cX4_replace 63 = .ok (.aload_n 0, 1) := by decide +kernel
theorem dX4_replace_64 : decode cX4_replace 64 = .ok (.getfield 14, 3) := by decide +kernel
theorem dX4_replace_67 : decode cX4_replace 67 = .ok (.iload 5, 2) := by decide +kernel
theorem dX4_replace_69 : decode cX4_replace 69 = .ok (.iload 8, 2) := by decide +kernel
theorem dX4_replace_71 : decode cX4_replace 71 = .ok (.iadd, 1) := by decide +kernel
theorem dX4_replace_72 : decode cX4_replace 72 = .ok (.aload_n 2, 1) := by decide +kernel
theorem dX4_replace_73 : decode cX4_replace 73 = .ok (.getfield 14, 3) := by decide +kernel
theorem dX4_replace_76 : decode cX4_replace 76 = .ok (.iload_n 3, 1) := by decide +kernel
theorem dX4_replace_77 : decode cX4_replace 77 = .ok (.iload 8, 2) := by decide +kernel
theorem dX4_replace_79 : decode cX4_replace 79 = .ok (.iadd, 1) := by decide +kernel
theorem dX4_replace_80 : decode cX4_replace 80 = .ok (.invokevirtual 66, 3) := by decide +kernel
theorem dX4_replace_83 : decode cX4_replace 83 = .ok (.invokevirtual 46, 3) := by decide +kernel
theorem dX4_replace_86 : decode cX4_replace 86 = .ok (.iinc 8 1, 3) := by decide +kernel
theorem dX4_replace_89 : decode cX4_replace 89 = .ok (.goto (-33), 3) := by decide +kernel
theorem dX4_replace_92 : decode cX4_replace 92 = .ok (.aload_n 0, 1) := by decide +kernel
theorem dX4_replace_93 : decode cX4_replace 93 = .ok (.dup, 1) := by decide +kernel
theorem dX4_replace_94 : decode cX4_replace 94 = .ok (.getfield 36, 3) := by decide +kernel
theorem dX4_replace_97 : decode cX4_replace 97 = .ok (.iload 7, 2) := by decide +kernel
theorem dX4_replace_99 : decode cX4_replace 99 = .ok (.iadd, 1) := by decide +kernel
theorem dX4_replace_100 : decode cX4_replace 100 = .ok (.putfield 36, 3) := by decide +kernel
theorem dX4_replace_103 : decode cX4_replace 103 = .ok (.aload_n 0, 1) := by decide +kernel
theorem dX4_replace_104 : decode cX4_replace 104 = .ok (.getfield 26, 3) := by decide +kernel
theorem dX4_replace_107 : decode cX4_replace 107 = .ok (.iload_n 1, 1) := by decide +kernel
theorem dX4_replace_108 : decode cX4_replace 108 = .ok (.iload 4, 2) := by decide +kernel
theorem dX4_replace_110 : decode cX4_replace 110 = .ok (.i2l, 1) := by decide +kernel
theorem dX4_replace_111 : decode cX4_replace 111 = .ok (.invokevirtual 46, 3) := by decide +kernel
theorem dX4_replace_114 : decode cX4_replace 114 = .ok (.iload_n 1, 1) := by decide +kernel
theorem dX4_replace_115 : decode cX4_replace 115 = .ok (.iconst 1, 1) := by decide +kernel
theorem dX4_replace_116 : decode cX4_replace 116 = .ok (.iadd, 1) := by decide +kernel
theorem dX4_replace_117 : decode cX4_replace 117 = .ok (.istore 8, 2) := by decide +kernel
theorem dX4_replace_119 : decode cX4_replace 119 = .ok (.iload 8, 2) := by decide +kernel
theorem dX4_replace_121 : decode cX4_replace 121 = .ok (.aload_n 0, 1) := by decide +kernel
theorem dX4_replace_122 : decode cX4_replace 122 = .ok (.getfield 39, 3) := by decide +kernel
theorem dX4_replace_125 : decode cX4_replace 125 = .ok (.if_icmp .ge 31, 3) := by decide +kernel
theorem dX4_replace_128 : decode cX4_replace 128 = .ok (.aload_n 0, 1) := by decide +kernel
theorem dX4_replace_129 : decode cX4_replace 129 = .ok (.getfield 23, 3) := by decide +kernel
theorem dX4_replace_132 : decode cX4_replace 132 = .ok (.iload 8, 2) := by decide +kernel
theorem dX4_replace_134 : decode cX4_replace 134 = .ok (.aload_n 0, 1) := by decide +kernel
theorem dX4_replace_135 : decode cX4_replace 135 = .ok (.getfield 23, 3) := by decide +kernel
theorem dX4_replace_138 : decode cX4_replace 138 = .ok (.iload 8, 2) := by decide +kernel
theorem dX4_replace_140 : decode cX4_replace 140 = .ok (.invokevirtual 50, 3) := by decide +kernel
theorem dX4_replace_143 : decode cX4_replace 143 = .ok (.iload 7, 2) := by decide +kernel
theorem dX4_replace_145 : decode cX4_replace 145 = .ok (.iadd, 1) := by decide +kernel
theorem dX4_replace_146 : decode cX4_replace 146 = .ok (.i2l, 1) := by decide +kernel
theorem dX4_replace_147 : decode cX4_replace 147 = .ok (.invokevirtual 46, 3) := by decide +kernel
theorem dX4_replace_150 : decode cX4_replace 150 = .ok (.iinc 8 1, 3) := by decide +kernel
theorem dX4_replace_153 : decode cX4_replace 153 = .ok (.goto (-34), 3) := by decide +kernel
theorem dX4_replace_156 : decode cX4_replace 156 = .ok (.return_, 1) := by decide +kernel
set_option maxRecDepth 20000 in
theorem ggX5_init_X8_init : GoodIn wsX5_init wsX8_init := goodIn_r _ [9, 10, 2, 3, 11, 12, 13, 14, 15, 16, 17, 18, 19, 20, 21, 22, 23, 24, 32, 25, 26, 27, 28] (by decide +kernel) (by decide +kernel)
set_option maxRecDepth 20000 in
theorem gX5_init_X8_init_n11 : GoodIn wsX5_init (wsX8_init) := ggX5_init_X8_init
theorem dX5_init_0 : decode cX5_init 0 = .ok (.aload_n 0, 1) := by decide +kernel
theorem dX5_init_1 : decode cX5_init 1 = .ok (.invokespecial 3, 3) := by decide +kernel
theorem dX5_init_4 : decode cX5_init 4 = .ok (.aload_n 0, 1) := by decide +kernel
theorem dX5_init_5 : decode cX5_init 5 = .ok (.new 9, 3) := by decide +kernel
theorem dX5_init_8 : decode cX5_init 8 = .ok (.dup, 1) := by decide +kernel
theorem dX5_init_9 : decode cX5_init 9 = .ok (.invokespecial 11, 3) := by decide +kernel
theorem dX5_init_12 : decode cX5_init 12 = .ok (.putfield 12, 3) := by decide +kernel
theorem dX5_init_15 : decode cX5_init 15 = .ok (.return_, 1) := by decide +kernel
set_option maxRecDepth 20000 in
theorem ggX5_find_X9_at : GoodIn wsX5_find wsX9_at := goodIn_r _ [6, 7, 8, 60, 61, 62, 63] (by decide +kernel) (by decide +kernel)
set_option maxRecDepth 20000 in
theorem gX5_find_X9_at : GoodIn wsX5_find (wsV RX5 18 RX9 yX9_at wsX9_at) := goodIn_app (goodIn_of _ (by decide +kernel)) ggX5_find_X9_at
set_option maxRecDepth 20000 in
theorem ggX5_find_X7_number : GoodIn wsX5_find wsX7_number := goodIn_r _ [13, 14, 64] (by decide +kernel) (by decide +kernel)
set_option maxRecDepth 20000 in
theorem gX5_find_X7_number : GoodIn wsX5_find (wsV RX5 30 RX7 yX7_number wsX7_number) := goodIn_app (goodIn_of _ (by decide +kernel)) ggX5_find_X7_number
set_option maxRecDepth 20000 in
theorem ggX5_find_X8_byTable : GoodIn wsX5_find wsX8_byTable := goodIn_r _ [19, 20, 21, 10, 11, 12, 13, 14, 22, 23, 24, 25, 26, 27, 28, 29, 30, 31, 32, 18, 33, 34, 35, 36, 37, 38, 39, 40, 41, 42, 43, 44, 48, 49, 50, 51, 52, 53, 54, 55, 56, 57, 58, 59, 64] (by decide +kernel) (by decide +kernel)
set_option maxRecDepth 20000 in
theorem gX5_find_X8_byTable : GoodIn wsX5_find (wsV RX5 36 RX8 yX8_byTable wsX8_byTable) := goodIn_app (goodIn_of _ (by decide +kernel)) ggX5_find_X8_byTable
theorem dX5_find_0 : decode cX5_find 0 = .ok (.aload_n 1, 1) := by decide +kernel
theorem dX5_find_1 : decode cX5_find 1 = .ok (.iload_n 2, 1) := by decide +kernel
theorem dX5_find_2 : decode cX5_find 2 = .ok (.invokevirtual 18, 3) := by decide +kernel
theorem dX5_find_5 : decode cX5_find 5 = .ok (.astore 4, 2) := by decide +kernel
theorem dX5_find_7 : decode cX5_find 7 = .ok (.aload_n 0, 1) := by decide +kernel
theorem dX5_find_8 : decode cX5_find 8 = .ok (.getfield 12, 3) := by decide +kernel
theorem dX5_find_11 : decode cX5_find 11 = .ok (.aload 4, 2) := by decide +kernel
theorem dX5_find_13 : decode cX5_find 13 = .ok (.iload_n 3, 1) := by decide +kernel
theorem dX5_find_14 : decode cX5_find 14 = .ok (.aload_n 1, 1) := by decide +kernel
theorem dX5_find_15 : decode cX5_find 15 = .ok (.aload 4, 2) := by decide +kernel
theorem dX5_find_17 : decode cX5_find 17 = .ok (.getfield 24, 3) := by decide +kernel
theorem dX5_find_20 : decode cX5_find 20 = .ok (.iload_n 3, 1) := by decide +kernel
theorem dX5_find_21 : decode cX5_find 21 = .ok (.invokevirtual 30, 3) := by decide +kernel
theorem dX5_find_24 : decode cX5_find 24 = .ok (.invokevirtual 18, 3) := by decide +kernel
theorem dX5_find_27 : decode cX5_find 27 = .ok (.invokevirtual 36, 3) := by decide +kernel
theorem dX5_find_30 : decode cX5_find 30 = .ok (.aload_n 0, 1) := by decide +kernel
theorem dX5_find_31 : decode cX5_find 31 = .ok (.getfield 12, 3) := by decide +kernel
theorem dX5_find_34 : decode cX5_find 34 = .ok (.getfield 40, 3) := by decide +kernel
theorem dX5_find_37 : decode cX5_find 37 = .ok (.ireturn, 1) := by decide +kernel
set_option maxRecDepth 20000 in
theorem ggX5_findByPassages_X9_at : GoodIn wsX5_findByPassages wsX9_at := goodIn_r _ [6, 7, 8, 53, 54, 55, 56] (by decide +kernel) (by decide +kernel)
set_option maxRecDepth 20000 in
theorem gX5_findByPassages_X9_at : GoodIn wsX5_findByPassages (wsV RX5 18 RX9 yX9_at wsX9_at) := goodIn_app (goodIn_of _ (by decide +kernel)) ggX5_findByPassages_X9_at
set_option maxRecDepth 20000 in
theorem ggX5_findByPassages_X7_number : GoodIn wsX5_findByPassages wsX7_number := goodIn_r _ [13, 14, 57] (by decide +kernel) (by decide +kernel)
set_option maxRecDepth 20000 in
theorem gX5_findByPassages_X7_number : GoodIn wsX5_findByPassages (wsV RX5 30 RX7 yX7_number wsX7_number) := goodIn_app (goodIn_of _ (by decide +kernel)) ggX5_findByPassages_X7_number
set_option maxRecDepth 20000 in
theorem ggX5_findByPassages_X8_byPassages : GoodIn wsX5_findByPassages wsX8_byPassages := goodIn_r _ [19, 20, 21, 22, 23, 24, 10, 11, 12, 13, 14, 25, 26, 27, 18, 28, 29, 30, 31, 32, 33, 34, 35, 36, 37, 38, 39, 40, 41, 42, 43, 44, 45, 46, 47, 48, 49, 57, 58, 59, 60, 61] (by decide +kernel) (by decide +kernel)
set_option maxRecDepth 20000 in
theorem gX5_findByPassages_X8_byPassages : GoodIn wsX5_findByPassages (wsV RX5 44 RX8 yX8_byPassages wsX8_byPassages) := goodIn_app (goodIn_of _ (by decide +kernel)) ggX5_findByPassages_X8_byPassages
theorem dX5_findByPassages_0 : decode cX5_findByPassages 0 = .ok (.aload_n 1, 1) := by decide +kernel
theorem dX5_findByPassages_1 : decode cX5_findByPassages 1 = .ok (.iload_n 2, 1) := by decide +kernel
theorem dX5_findByPassages_2 : decode cX5_findByPassages 2 = .ok (.invokevirtual 18, 3) := by decide +kernel
theorem dX5_findByPassages_5 : decode cX5_findByPassages 5 = .ok (.astore 4, 2) := by decide +kernel
theorem dX5_findByPassages_7 : decode cX5_findByPassages 7 = .ok (.aload_n 1, 1) := by decide +kernel
theorem dX5_findByPassages_8 : decode cX5_findByPassages 8 = .ok (.aload 4, 2) := by decide +kernel
theorem dX5_findByPassages_10 : decode cX5_findByPassages 10 = .ok (.getfield 24, 3) := by decide +kernel
theorem dX5_findByPassages_13 : decode cX5_findByPassages 13 = .ok (.iload_n 3, 1) := by decide +kernel
theorem dX5_findByPassages_14 : decode cX5_findByPassages 14 = .ok (.invokevirtual 30, 3) := by decide +kernel
theorem dX5_findByPassages_17 : decode cX5_findByPassages 17 = .ok (.invokevirtual 18, 3) := by decide +kernel
theorem dX5_findByPassages_20 : decode cX5_findByPassages 20 = .ok (.astore 5, 2) := by decide +kernel
theorem dX5_findByPassages_22 : decode cX5_findByPassages 22 = .ok (.aload_n 0, 1) := by decide +kernel
theorem dX5_findByPassages_23 : decode cX5_findByPassages 23 = .ok (.getfield 12, 3) := by decide +kernel
theorem dX5_findByPassages_26 : decode cX5_findByPassages 26 = .ok (.aload 4, 2) := by decide +kernel
theorem dX5_findByPassages_28 : decode cX5_findByPassages 28 = .ok (.iload_n 3, 1) := by decide +kernel
theorem dX5_findByPassages_29 : decode cX5_findByPassages 29 = .ok (.aload 5, 2) := by decide +kernel
theorem dX5_findByPassages_31 : decode cX5_findByPassages 31 = .ok (.invokevirtual 44, 3) := by decide +kernel
theorem dX5_findByPassages_34 : decode cX5_findByPassages 34 = .ok (.ireturn, 1) := by decide +kernel
set_option maxRecDepth 20000 in
theorem ggX5_findAtOrigin_X9_at : GoodIn wsX5_findAtOrigin wsX9_at := goodIn_r _ [7, 8, 9, 52, 53, 54, 55] (by decide +kernel) (by decide +kernel)
set_option maxRecDepth 20000 in
theorem gX5_findAtOrigin_X9_at : GoodIn wsX5_findAtOrigin (wsV RX5 18 RX9 yX9_at wsX9_at) := goodIn_app (goodIn_of _ (by decide +kernel)) ggX5_findAtOrigin_X9_at
set_option maxRecDepth 20000 in
theorem ggX5_findAtOrigin_X8_byTable : GoodIn wsX5_findAtOrigin wsX8_byTable := goodIn_r _ [14, 15, 16, 17, 18, 19, 20, 21, 22, 23, 24, 25, 26, 27, 28, 29, 30, 31, 32, 13, 33, 34, 35, 36, 37, 38, 39, 40, 41, 42, 43, 44, 56, 57, 58, 59, 60, 61, 62, 63, 48, 49, 50, 51, 64] (by decide +kernel) (by decide +kernel)
set_option maxRecDepth 20000 in
theorem gX5_findAtOrigin_X8_byTable : GoodIn wsX5_findAtOrigin (wsV RX5 36 RX8 yX8_byTable wsX8_byTable) := goodIn_app (goodIn_of _ (by decide +kernel)) ggX5_findAtOrigin_X8_byTable
theorem dX5_findAtOrigin_0 : decode cX5_findAtOrigin 0 = .ok (.aload_n 0, 1) := by decide +kernel
theorem dX5_findAtOrigin_1 : decode cX5_findAtOrigin 1 = .ok (.getfield 12, 3) := by decide +kernel
theorem dX5_findAtOrigin_4 : decode cX5_findAtOrigin 4 = .ok (.aload_n 1, 1) := by decide +kernel
theorem dX5_findAtOrigin_5 : decode cX5_findAtOrigin 5 = .ok (.iload_n 2, 1) := by decide +kernel
theorem dX5_findAtOrigin_6 : decode cX5_findAtOrigin 6 = .ok (.invokevirtual 18, 3) := by decide +kernel
theorem dX5_findAtOrigin_9 : decode cX5_findAtOrigin 9 = .ok (.iload_n 3, 1) := by decide +kernel
theorem dX5_findAtOrigin_10 : decode cX5_findAtOrigin 10 = .ok (.aload_n 1, 1) := by decide +kernel
theorem dX5_findAtOrigin_11 : decode cX5_findAtOrigin 11 = .ok (.aload_n 0, 1) := by decide +kernel
theorem dX5_findAtOrigin_12 : decode cX5_findAtOrigin 12 = .ok (.getfield 48, 3) := by decide +kernel
theorem dX5_findAtOrigin_15 : decode cX5_findAtOrigin 15 = .ok (.invokevirtual 18, 3) := by decide +kernel
theorem dX5_findAtOrigin_18 : decode cX5_findAtOrigin 18 = .ok (.invokevirtual 36, 3) := by decide +kernel
theorem dX5_findAtOrigin_21 : decode cX5_findAtOrigin 21 = .ok (.aload_n 0, 1) := by decide +kernel
theorem dX5_findAtOrigin_22 : decode cX5_findAtOrigin 22 = .ok (.getfield 12, 3) := by decide +kernel
theorem dX5_findAtOrigin_25 : decode cX5_findAtOrigin 25 = .ok (.getfield 40, 3) := by decide +kernel
theorem dX5_findAtOrigin_28 : decode cX5_findAtOrigin 28 = .ok (.ireturn, 1) := by decide +kernel
set_option maxRecDepth 20000 in
theorem ggX5_parent_X5_find : GoodIn wsX5_parent wsX5_find := goodIn_r _ [6, 1, 7, 8, 9, 10, 11, 12, 13, 14, 15, 16, 17, 18, 19, 20, 21, 22, 23, 24, 25, 26, 27, 28, 29, 30, 31, 32, 33, 34, 35, 36, 37, 38, 39, 40, 41, 42, 43, 44, 45, 46, 47, 48, 49, 71, 72, 73, 63, 64, 65, 66, 67, 68, 69, 70, 74, 75, 76, 77, 78, 79, 80, 81, 82] (by decide +kernel) (by decide +kernel)
set_option maxRecDepth 20000 in
theorem gX5_parent_X5_find : GoodIn wsX5_parent (wsV RX5 51 RX5 yX5_find wsX5_find) := goodIn_app (goodIn_of _ (by decide +kernel)) ggX5_parent_X5_find
set_option maxRecDepth 20000 in
theorem ggX5_parent_X9_at : GoodIn wsX5_parent wsX9_at := goodIn_r _ [11, 12, 13, 78, 79, 80, 81] (by decide +kernel) (by decide +kernel)
set_option maxRecDepth 20000 in
theorem gX5_parent_X9_at : GoodIn wsX5_parent (wsV RX5 18 RX9 yX9_at wsX9_at) := goodIn_app (goodIn_of _ (by decide +kernel)) ggX5_parent_X9_at
set_option maxRecDepth 20000 in
theorem ggX5_parent_X7_number : GoodIn wsX5_parent wsX7_number := goodIn_r _ [18, 19, 82] (by decide +kernel) (by decide +kernel)
set_option maxRecDepth 20000 in
theorem gX5_parent_X7_number : GoodIn wsX5_parent (wsV RX5 30 RX7 yX7_number wsX7_number) := goodIn_app (goodIn_of _ (by decide +kernel)) ggX5_parent_X7_number
set_option maxRecDepth 20000 in
theorem ggX5_parent_X4_quotationAround : GoodIn wsX5_parent wsX4_quotationAround := goodIn_r _ [54, 55, 56, 57, 58, 53, 59, 60, 61, 62, 15, 16, 17, 18, 19, 63, 64, 65, 66, 67, 68, 69, 70, 82] (by decide +kernel) (by decide +kernel)
set_option maxRecDepth 20000 in
theorem gX5_parent_X4_quotationAround : GoodIn wsX5_parent (wsV RX5 61 RX4 yX4_quotationAround wsX4_quotationAround) := goodIn_app (goodIn_of _ (by decide +kernel)) ggX5_parent_X4_quotationAround
theorem dX5_parent_0 : decode cX5_parent 0 = .ok (.aload_n 0, 1) := by decide +kernel
theorem dX5_parent_1 : decode cX5_parent 1 = .ok (.aload_n 1, 1) := by decide +kernel
theorem dX5_parent_2 : decode cX5_parent 2 = .ok (.iload_n 2, 1) := by decide +kernel
theorem dX5_parent_3 : decode cX5_parent 3 = .ok (.iload_n 3, 1) := by decide +kernel
theorem dX5_parent_4 : decode cX5_parent 4 = .ok (.invokevirtual 51, 3) := by decide +kernel
theorem dX5_parent_7 : decode cX5_parent 7 = .ok (.pop, 1) := by decide +kernel
theorem dX5_parent_8 : decode cX5_parent 8 = .ok (.aload_n 1, 1) := by decide +kernel
theorem dX5_parent_9 : decode cX5_parent 9 = .ok (.aload_n 1, 1) := by decide +kernel
theorem dX5_parent_10 : decode cX5_parent 10 = .ok (.iload_n 2, 1) := by decide +kernel
theorem dX5_parent_11 : decode cX5_parent 11 = .ok (.invokevirtual 18, 3) := by decide +kernel
theorem dX5_parent_14 : decode cX5_parent 14 = .ok (.getfield 24, 3) := by decide +kernel
theorem dX5_parent_17 : decode cX5_parent 17 = .ok (.iload_n 3, 1) := by decide +kernel
theorem dX5_parent_18 : decode cX5_parent 18 = .ok (.invokevirtual 30, 3) := by decide +kernel
theorem dX5_parent_21 : decode cX5_parent 21 = .ok (.invokevirtual 18, 3) := by decide +kernel
theorem dX5_parent_24 : decode cX5_parent 24 = .ok (.astore 4, 2) := by decide +kernel
theorem dX5_parent_26 : decode cX5_parent 26 = .ok (.aload 4, 2) := by decide +kernel
theorem dX5_parent_28 : decode cX5_parent 28 = .ok (.aload_n 0, 1) := by decide +kernel
theorem dX5_parent_29 : decode cX5_parent 29 = .ok (.getfield 12, 3) := by decide +kernel
theorem dX5_parent_32 : decode cX5_parent 32 = .ok (.getfield 55, 3) := by decide +kernel
theorem dX5_parent_35 : decode cX5_parent 35 = .ok (.aload_n 0, 1) := by decide +kernel
theorem dX5_parent_36 : decode cX5_parent 36 = .ok (.getfield 12, 3) := by decide +kernel
theorem dX5_parent_39 : decode cX5_parent 39 = .ok (.getfield 58, 3) := by decide +kernel
theorem dX5_parent_42 : decode cX5_parent 42 = .ok (.invokevirtual 61, 3) := by decide +kernel
theorem dX5_parent_45 : decode cX5_parent 45 = .ok (.ireturn, 1) := by decide +kernel
set_option maxRecDepth 20000 in
theorem ggX5_trace_X9_at : GoodIn wsX5_trace wsX9_at := goodIn_r _ [7, 8, 9, 80, 81, 82, 83] (by decide +kernel) (by decide +kernel)
set_option maxRecDepth 20000 in
theorem gX5_trace_X9_at : GoodIn wsX5_trace (wsV RX5 18 RX9 yX9_at wsX9_at) := goodIn_app (goodIn_of _ (by decide +kernel)) ggX5_trace_X9_at
set_option maxRecDepth 20000 in
theorem ggX5_trace_X7_number : GoodIn wsX5_trace wsX7_number := goodIn_r _ [14, 15, 84] (by decide +kernel) (by decide +kernel)
set_option maxRecDepth 20000 in
theorem gX5_trace_X7_number : GoodIn wsX5_trace (wsV RX5 30 RX7 yX7_number wsX7_number) := goodIn_app (goodIn_of _ (by decide +kernel)) ggX5_trace_X7_number
set_option maxRecDepth 20000 in
theorem ggX5_trace_X5_parent : GoodIn wsX5_trace wsX5_parent := goodIn_r _ [20, 21, 22, 23, 24, 19, 25, 3, 4, 5, 6, 7, 8, 9, 10, 11, 12, 13, 14, 15, 26, 27, 28, 29, 30, 31, 32, 33, 34, 35, 36, 37, 38, 39, 40, 41, 42, 43, 44, 45, 46, 47, 48, 49, 50, 51, 52, 53, 54, 55, 56, 57, 58, 59, 60, 61, 62, 63, 64, 65, 66, 67, 68, 72, 73, 74, 75, 76, 77, 78, 79, 69, 70, 71, 85, 86, 87, 88, 80, 81, 82, 83, 84] (by decide +kernel) (by decide +kernel)
set_option maxRecDepth 20000 in
theorem gX5_trace_X5_parent : GoodIn wsX5_trace (wsV RX5 68 RX5 yX5_parent wsX5_parent) := goodIn_app (goodIn_of _ (by decide +kernel)) ggX5_trace_X5_parent
theorem dX5_trace_0 : decode cX5_trace 0 = .ok (.iload_n 2, 1) := by decide +kernel
theorem dX5_trace_1 : decode cX5_trace 1 = .ok (.istore 4, 2) := by decide +kernel
theorem dX5_trace_3 : decode cX5_trace 3 = .ok (.iload_n 3, 1) := by decide +kernel
theorem dX5_trace_4 : decode cX5_trace 4 = .ok (.istore 5, 2) := by decide +kernel
theorem dX5_trace_6 : decode cX5_trace 6 = .ok (.aload_n 0, 1) := by decide +kernel
theorem dX5_trace_7 : decode cX5_trace 7 = .ok (.iconst 0, 1) := by decide +kernel
theorem dX5_trace_8 : decode cX5_trace 8 = .ok (.putfield 65, 3) := by decide +kernel
theorem dX5_trace_11 : decode cX5_trace 11 = .ok (.iload 5, 2) := by decide +kernel
theorem dX5_trace_13 : decode cX5_trace 13 = .ok (.iconst (-1), 1) := by decide +kernel
theorem dX5_trace_14 : decode cX5_trace 14 = .ok (.if_icmp .eq 60, 3) := by decide +kernel
theorem dX5_trace_17 : decode cX5_trace 17 = .ok (.aload_n 0, 1) := by decide +kernel
theorem dX5_trace_18 : decode cX5_trace 18 = .ok (.getfield 65, 3) := by decide +kernel
theorem dX5_trace_21 : decode cX5_trace 21 = .ok (.bipush 20, 2) := by decide +kernel
theorem dX5_trace_23 : decode cX5_trace 23 = .ok (.if_icmp .ge 51, 3) := by decide +kernel
theorem dX5_trace_26 : decode cX5_trace 26 = .ok (.aload_n 0, 1) := by decide +kernel
theorem dX5_trace_27 : decode cX5_trace 27 = .ok (.aload_n 1, 1) := by decide +kernel
theorem dX5_trace_28 : decode cX5_trace 28 = .ok (.iload 4, 2) := by decide +kernel
theorem dX5_trace_30 : decode cX5_trace 30 = .ok (.invokevirtual 18, 3) := by decide +kernel
theorem dX5_trace_33 : decode cX5_trace 33 = .ok (.getfield 24, 3) := by decide +kernel
theorem dX5_trace_36 : decode cX5_trace 36 = .ok (.iload 5, 2) := by decide +kernel
theorem dX5_trace_38 : decode cX5_trace 38 = .ok (.invokevirtual 30, 3) := by decide +kernel
theorem dX5_trace_41 : decode cX5_trace 41 = .ok (.putfield 48, 3) := by decide +kernel
theorem dX5_trace_44 : decode cX5_trace 44 = .ok (.aload_n 0, 1) := by decide +kernel
theorem dX5_trace_45 : decode cX5_trace 45 = .ok (.aload_n 1, 1) := by decide +kernel
theorem dX5_trace_46 : decode cX5_trace 46 = .ok (.iload 4, 2) := by decide +kernel
theorem dX5_trace_48 : decode cX5_trace 48 = .ok (.iload 5, 2) := by decide +kernel
theorem dX5_trace_50 : decode cX5_trace 50 = .ok (.invokevirtual 68, 3) := by decide +kernel
theorem dX5_trace_53 : decode cX5_trace 53 = .ok (.istore 5, 2) := by decide +kernel
theorem dX5_trace_55 : decode cX5_trace 55 = .ok (.aload_n 0, 1) := by decide +kernel
theorem dX5_trace_56 : decode cX5_trace 56 = .ok (.getfield 48, 3) := by decide +kernel
theorem dX5_trace_59 : decode cX5_trace 59 = .ok (.istore 4, 2) := by decide +kernel
theorem dX5_trace_61 : decode cX5_trace 61 = .ok (.aload_n 0, 1) := by decide +kernel
theorem dX5_trace_62 : decode cX5_trace 62 = .ok (.dup, 1) := by decide +kernel
theorem dX5_trace_63 : decode cX5_trace 63 = .ok (.getfield 65, 3) := by decide +kernel
theorem dX5_trace_66 : decode cX5_trace 66 = .ok (.iconst 1, 1) := by decide +kernel
theorem dX5_trace_67 : decode cX5_trace 67 = .ok (.iadd, 1) := by decide +kernel
theorem dX5_trace_68 : decode cX5_trace 68 = .ok (.putfield 65, 3) := by decide +kernel
theorem dX5_trace_71 : decode cX5_trace 71 = .ok (.goto (-60), 3) := by decide +kernel
theorem dX5_trace_74 : decode cX5_trace 74 = .ok (.return_, 1) := by decide +kernel
set_option maxRecDepth 20000 in
theorem ggX5_children_X9_at : GoodIn wsX5_children wsX9_at := goodIn_r _ [6, 7, 8, 58, 59, 60, 61] (by decide +kernel) (by decide +kernel)
set_option maxRecDepth 20000 in
theorem gX5_children_X9_at : GoodIn wsX5_children (wsV RX5 18 RX9 yX9_at wsX9_at) := goodIn_app (goodIn_of _ (by decide +kernel)) ggX5_children_X9_at
set_option maxRecDepth 20000 in
theorem ggX5_children_X7_number : GoodIn wsX5_children wsX7_number := goodIn_r _ [13, 14, 77] (by decide +kernel) (by decide +kernel)
set_option maxRecDepth 20000 in
theorem gX5_children_X7_number : GoodIn wsX5_children (wsV RX5 30 RX7 yX7_number wsX7_number) := goodIn_app (goodIn_of _ (by decide +kernel)) ggX5_children_X7_number
set_option maxRecDepth 20000 in
theorem ggX5_children_X5_find : GoodIn wsX5_children wsX5_find := goodIn_r _ [19, 1, 2, 3, 4, 5, 6, 7, 8, 9, 10, 11, 12, 13, 14, 20, 21, 22, 23, 24, 25, 26, 27, 28, 29, 30, 31, 32, 33, 34, 35, 36, 37, 38, 39, 40, 41, 42, 43, 44, 45, 46, 47, 48, 49, 70, 71, 72, 62, 63, 64, 65, 66, 67, 68, 69, 73, 74, 75, 76, 58, 59, 60, 61, 77] (by decide +kernel) (by decide +kernel)
set_option maxRecDepth 20000 in
theorem gX5_children_X5_find : GoodIn wsX5_children (wsV RX5 51 RX5 yX5_find wsX5_find) := goodIn_app (goodIn_of _ (by decide +kernel)) ggX5_children_X5_find
set_option maxRecDepth 20000 in
theorem ggX5_children_X4_isWithin : GoodIn wsX5_children wsX4_isWithin := goodIn_r _ [54, 55, 56, 57, 10, 11, 12, 13, 14, 62, 63, 64, 65, 66, 67, 68, 69, 77] (by decide +kernel) (by decide +kernel)
set_option maxRecDepth 20000 in
theorem gX5_children_X4_isWithin : GoodIn wsX5_children (wsV RX5 77 RX4 yX4_isWithin wsX4_isWithin) := goodIn_app (goodIn_of _ (by decide +kernel)) ggX5_children_X4_isWithin
theorem dX5_children_0 : decode cX5_children 0 = .ok (.aload_n 1, 1) := by decide +kernel
theorem dX5_children_1 : decode cX5_children 1 = .ok (.iload_n 2, 1) := by decide +kernel
theorem dX5_children_2 : decode cX5_children 2 = .ok (.invokevirtual 18, 3) := by decide +kernel
theorem dX5_children_5 : decode cX5_children 5 = .ok (.astore 4, 2) := by decide +kernel
theorem dX5_children_7 : decode cX5_children 7 = .ok (.iconst 0, 1) := by decide +kernel
theorem dX5_children_8 : decode cX5_children 8 = .ok (.istore 5, 2) := by decide +kernel
theorem dX5_children_10 : decode cX5_children 10 = .ok (.iload_n 2, 1) := by decide +kernel
theorem dX5_children_11 : decode cX5_children 11 = .ok (.iconst 1, 1) := by decide +kernel
theorem dX5_children_12 : decode cX5_children 12 = .ok (.iadd, 1) := by decide +kernel
theorem dX5_children_13 : decode cX5_children 13 = .ok (.istore 6, 2) := by decide +kernel
theorem dX5_children_15 : decode cX5_children 15 = .ok (.iload 6, 2) := by decide +kernel
theorem dX5_children_17 : decode cX5_children 17 = .ok (.aload_n 1, 1) := by decide +kernel
theorem dX5_children_18 : decode cX5_children 18 = .ok (.getfield 71, 3) := by decide +kernel
theorem dX5_children_21 : decode cX5_children 21 = .ok (.if_icmp .ge 93, 3) := by decide +kernel
theorem dX5_children_24 : decode cX5_children 24 = .ok (.aload_n 1, 1) := by decide +kernel
theorem dX5_children_25 : decode cX5_children 25 = .ok (.iload 6, 2) := by decide +kernel
theorem dX5_children_27 : decode cX5_children 27 = .ok (.invokevirtual 18, 3) := by decide +kernel
theorem dX5_children_30 : decode cX5_children 30 = .ok (.astore 7, 2) := by decide +kernel
theorem dX5_children_32 : decode cX5_children 32 = .ok (.iconst 0, 1) := by decide +kernel
theorem dX5_children_33 : decode cX5_children 33 = .ok (.istore 8, 2) := by decide +kernel
theorem dX5_children_35 : decode cX5_children 35 = .ok (.iload 8, 2) := by decide +kernel
theorem dX5_children_37 : decode cX5_children 37 = .ok (.aload 7, 2) := by decide +kernel
theorem dX5_children_39 : decode cX5_children 39 = .ok (.getfield 74, 3) := by decide +kernel
theorem dX5_children_42 : decode cX5_children 42 = .ok (.if_icmp .ge 66, 3) := by decide +kernel
theorem dX5_children_45 : decode cX5_children 45 = .ok (.aload 7, 2) := by decide +kernel
theorem dX5_children_47 : decode cX5_children 47 = .ok (.getfield 24, 3) := by decide +kernel
theorem dX5_children_50 : decode cX5_children 50 = .ok (.iload 8, 2) := by decide +kernel
theorem dX5_children_52 : decode cX5_children 52 = .ok (.invokevirtual 30, 3) := by decide +kernel
theorem dX5_children_55 : decode cX5_children 55 = .ok (.iload_n 2, 1) := by decide +kernel
theorem dX5_children_56 : decode cX5_children 56 = .ok (.if_icmp .ne 46, 3) := by decide +kernel
theorem dX5_children_59 : decode cX5_children 59 = .ok (.aload_n 0, 1) := by decide +kernel
theorem dX5_children_60 : decode cX5_children 60 = .ok (.aload_n 1, 1) := by decide +kernel
theorem dX5_children_61 : decode cX5_children 61 = .ok (.iload 6, 2) := by decide +kernel
theorem dX5_children_63 : decode cX5_children 63 = .ok (.iload 8, 2) := by decide +kernel
theorem dX5_children_65 : decode cX5_children 65 = .ok (.invokevirtual 51, 3) := by decide +kernel
theorem dX5_children_68 : decode cX5_children 68 = .ok (.pop, 1) := by decide +kernel
theorem dX5_children_69 : decode cX5_children 69 = .ok (.iload 5, 2) := by decide +kernel
theorem dX5_children_71 : decode cX5_children 71 = .ok (.aload 4, 2) := by decide +kernel
theorem dX5_children_73 : decode cX5_children 73 = .ok (.iload_n 3, 1) := by decide +kernel
theorem dX5_children_74 : decode cX5_children 74 = .ok (.aload_n 0, 1) := by decide +kernel
theorem dX5_children_75 : decode cX5_children 75 = .ok (.getfield 12, 3) := by decide +kernel
theorem dX5_children_78 : decode cX5_children 78 = .ok (.getfield 55, 3) := by decide +kernel
theorem dX5_children_81 : decode cX5_children 81 = .ok (.aload_n 0, 1) := by decide +kernel
theorem dX5_children_82 : decode cX5_children 82 = .ok (.getfield 12, 3) := by decide +kernel
theorem dX5_children_85 : decode cX5_children 85 = .ok (.getfield 58, 3) := by decide +kernel
theorem dX5_children_88 : decode cX5_children 88 = .ok (.invokevirtual 77, 3) := by decide +kernel
theorem dX5_children_91 : decode cX5_children 91 = .ok (.ifCond .eq 7, 3) := by decide +kernel
theorem dX5_children_94 : decode cX5_children 94 = .ok (.iconst 1, 1) := by decide +kernel
theorem dX5_children_95 : decode cX5_children 95 = .ok (.goto 4, 3) := by decide +kernel
theorem dX5_children_98 : decode cX5_children 98 = .ok (.iconst 0, 1) := by decide +kernel
theorem dX5_children_99 : decode cX5_children 99 = .ok (.iadd, 1) := by decide +kernel
theorem dX5_children_100 : decode cX5_children 100 = .ok (.istore 5, 2) := by decide +kernel
theorem dX5_children_102 : decode cX5_children 102 = .ok (.iinc 8 1, 3) := by decide +kernel
theorem dX5_children_105 : decode cX5_children 105 = .ok (.goto (-70), 3) := by decide +kernel
theorem dX5_children_108 : decode cX5_children 108 = .ok (.iinc 6 1, 3) := by decide +kernel
theorem dX5_children_111 : decode cX5_children 111 = .ok (.goto (-96), 3) := by decide +kernel
theorem dX5_children_114 : decode cX5_children 114 = .ok (.iload 5, 2) := by decide +kernel
theorem dX5_children_116 : decode cX5_children 116 = .ok (.ireturn, 1) := by decide +kernel
set_option maxRecDepth 20000 in
theorem ggX5_isRoomFor_X9_at : GoodIn wsX5_isRoomFor wsX9_at := goodIn_r _ [6, 7, 8, 36, 37, 38, 39] (by decide +kernel) (by decide +kernel)
set_option maxRecDepth 20000 in
theorem gX5_isRoomFor_X9_at : GoodIn wsX5_isRoomFor (wsV RX5 18 RX9 yX9_at wsX9_at) := goodIn_app (goodIn_of _ (by decide +kernel)) ggX5_isRoomFor_X9_at
set_option maxRecDepth 20000 in
theorem ggX5_isRoomFor_X4_growth : GoodIn wsX5_isRoomFor wsX4_growth := goodIn_r _ [13, 14, 15, 16, 17, 18, 19, 20, 21, 22, 23, 24, 25, 26, 27, 28, 40] (by decide +kernel) (by decide +kernel)
set_option maxRecDepth 20000 in
theorem gX5_isRoomFor_X4_growth : GoodIn wsX5_isRoomFor (wsV RX5 84 RX4 yX4_growth wsX4_growth) := goodIn_app (goodIn_of _ (by decide +kernel)) ggX5_isRoomFor_X4_growth
theorem dX5_isRoomFor_0 : decode cX5_isRoomFor 0 = .ok (.aload_n 1, 1) := by decide +kernel
theorem dX5_isRoomFor_1 : decode cX5_isRoomFor 1 = .ok (.iload_n 2, 1) := by decide +kernel
theorem dX5_isRoomFor_2 : decode cX5_isRoomFor 2 = .ok (.invokevirtual 18, 3) := by decide +kernel
theorem dX5_isRoomFor_5 : decode cX5_isRoomFor 5 = .ok (.astore 4, 2) := by decide +kernel
theorem dX5_isRoomFor_7 : decode cX5_isRoomFor 7 = .ok (.aload 4, 2) := by decide +kernel
theorem dX5_isRoomFor_9 : decode cX5_isRoomFor 9 = .ok (.getfield 81, 3) := by decide +kernel
theorem dX5_isRoomFor_12 : decode cX5_isRoomFor 12 = .ok (.aload 4, 2) := by decide +kernel
theorem dX5_isRoomFor_14 : decode cX5_isRoomFor 14 = .ok (.iload_n 3, 1) := by decide +kernel
theorem dX5_isRoomFor_15 : decode cX5_isRoomFor 15 = .ok (.aload_n 0, 1) := by decide +kernel
theorem dX5_isRoomFor_16 : decode cX5_isRoomFor 16 = .ok (.getfield 12, 3) := by decide +kernel
theorem dX5_isRoomFor_19 : decode cX5_isRoomFor 19 = .ok (.getfield 58, 3) := by decide +kernel
theorem dX5_isRoomFor_22 : decode cX5_isRoomFor 22 = .ok (.invokevirtual 84, 3) := by decide +kernel
theorem dX5_isRoomFor_25 : decode cX5_isRoomFor 25 = .ok (.iadd, 1) := by decide +kernel
theorem dX5_isRoomFor_26 : decode cX5_isRoomFor 26 = .ok (.bipush 60, 2) := by decide +kernel
theorem dX5_isRoomFor_28 : decode cX5_isRoomFor 28 = .ok (.if_icmp .gt 7, 3) := by decide +kernel
theorem dX5_isRoomFor_31 : decode cX5_isRoomFor 31 = .ok (.iconst 1, 1) := by decide +kernel
theorem dX5_isRoomFor_32 : decode cX5_isRoomFor 32 = .ok (.goto 4, 3) := by decide +kernel
theorem dX5_isRoomFor_35 : decode cX5_isRoomFor 35 = .ok (.iconst 0, 1) := by decide +kernel
theorem dX5_isRoomFor_36 : decode cX5_isRoomFor 36 = .ok (.ireturn, 1) := by decide +kernel
set_option maxRecDepth 20000 in
theorem ggX5_putRight_X9_at : GoodIn wsX5_putRight wsX9_at := goodIn_r _ [6, 7, 8, 61, 62, 63, 64] (by decide +kernel) (by decide +kernel)
set_option maxRecDepth 20000 in
theorem gX5_putRight_X9_at : GoodIn wsX5_putRight (wsV RX5 18 RX9 yX9_at wsX9_at) := goodIn_app (goodIn_of _ (by decide +kernel)) ggX5_putRight_X9_at
set_option maxRecDepth 20000 in
theorem ggX5_putRight_X7_number : GoodIn wsX5_putRight wsX7_number := goodIn_r _ [13, 14, 65] (by decide +kernel) (by decide +kernel)
set_option maxRecDepth 20000 in
theorem gX5_putRight_X7_number : GoodIn wsX5_putRight (wsV RX5 30 RX7 yX7_number wsX7_number) := goodIn_app (goodIn_of _ (by decide +kernel)) ggX5_putRight_X7_number
set_option maxRecDepth 20000 in
theorem ggX5_putRight_X4_replace : GoodIn wsX5_putRight wsX4_replace := goodIn_r _ [19, 20, 21, 22, 23, 24, 25, 10, 11, 12, 13, 14, 26, 27, 28, 18, 29, 30, 31, 32, 33, 34, 35, 36, 37, 38, 39, 40, 41, 42, 43, 44, 45, 46, 47, 48, 49, 50, 51, 52, 53, 65] (by decide +kernel) (by decide +kernel)
set_option maxRecDepth 20000 in
theorem gX5_putRight_X4_replace : GoodIn wsX5_putRight (wsV RX5 87 RX4 yX4_replace wsX4_replace) := goodIn_app (goodIn_of _ (by decide +kernel)) ggX5_putRight_X4_replace
theorem dX5_putRight_0 : decode cX5_putRight 0 = .ok (.aload_n 1, 1) := by decide +kernel
theorem dX5_putRight_1 : decode cX5_putRight 1 = .ok (.iload_n 2, 1) := by decide +kernel
theorem dX5_putRight_2 : decode cX5_putRight 2 = .ok (.invokevirtual 18, 3) := by decide +kernel
theorem dX5_putRight_5 : decode cX5_putRight 5 = .ok (.astore 4, 2) := by decide +kernel
theorem dX5_putRight_7 : decode cX5_putRight 7 = .ok (.aload_n 1, 1) := by decide +kernel
theorem dX5_putRight_8 : decode cX5_putRight 8 = .ok (.aload 4, 2) := by decide +kernel
theorem dX5_putRight_10 : decode cX5_putRight 10 = .ok (.getfield 24, 3) := by decide +kernel
theorem dX5_putRight_13 : decode cX5_putRight 13 = .ok (.iload_n 3, 1) := by decide +kernel
theorem dX5_putRight_14 : decode cX5_putRight 14 = .ok (.invokevirtual 30, 3) := by decide +kernel
theorem dX5_putRight_17 : decode cX5_putRight 17 = .ok (.invokevirtual 18, 3) := by decide +kernel
theorem dX5_putRight_20 : decode cX5_putRight 20 = .ok (.astore 5, 2) := by decide +kernel
theorem dX5_putRight_22 : decode cX5_putRight 22 = .ok (.aload 4, 2) := by decide +kernel
theorem dX5_putRight_24 : decode cX5_putRight 24 = .ok (.iload_n 3, 1) := by decide +kernel
theorem dX5_putRight_25 : decode cX5_putRight 25 = .ok (.aload 5, 2) := by decide +kernel
theorem dX5_putRight_27 : decode cX5_putRight 27 = .ok (.aload_n 0, 1) := by decide +kernel
theorem dX5_putRight_28 : decode cX5_putRight 28 = .ok (.getfield 12, 3) := by decide +kernel
theorem dX5_putRight_31 : decode cX5_putRight 31 = .ok (.getfield 55, 3) := by decide +kernel
theorem dX5_putRight_34 : decode cX5_putRight 34 = .ok (.aload_n 0, 1) := by decide +kernel
theorem dX5_putRight_35 : decode cX5_putRight 35 = .ok (.getfield 12, 3) := by decide +kernel
theorem dX5_putRight_38 : decode cX5_putRight 38 = .ok (.getfield 58, 3) := by decide +kernel
theorem dX5_putRight_41 : decode cX5_putRight 41 = .ok (.invokevirtual 87, 3) := by decide +kernel
theorem dX5_putRight_44 : decode cX5_putRight 44 = .ok (.return_, 1) := by decide +kernel
set_option maxRecDepth 20000 in
theorem ggX5_putAllRight_X9_at : GoodIn wsX5_putAllRight wsX9_at := goodIn_r _ [5, 6, 7, 92, 93, 94, 95] (by decide +kernel) (by decide +kernel)
set_option maxRecDepth 20000 in
theorem gX5_putAllRight_X9_at : GoodIn wsX5_putAllRight (wsV RX5 18 RX9 yX9_at wsX9_at) := goodIn_app (goodIn_of _ (by decide +kernel)) ggX5_putAllRight_X9_at
set_option maxRecDepth 20000 in
theorem ggX5_putAllRight_X5_find : GoodIn wsX5_putAllRight wsX5_find := goodIn_r _ [12, 13, 1, 2, 3, 4, 5, 6, 7, 14, 15, 16, 17, 18, 19, 20, 21, 22, 23, 24, 25, 26, 27, 28, 29, 30, 31, 32, 33, 34, 35, 36, 37, 38, 39, 40, 41, 42, 43, 44, 45, 46, 47, 48, 49, 96, 97, 98, 84, 85, 86, 87, 88, 89, 90, 91, 99, 100, 101, 102, 92, 93, 94, 95, 103] (by decide +kernel) (by decide +kernel)
set_option maxRecDepth 20000 in
theorem gX5_putAllRight_X5_find : GoodIn wsX5_putAllRight (wsV RX5 51 RX5 yX5_find wsX5_find) := goodIn_app (goodIn_of _ (by decide +kernel)) ggX5_putAllRight_X5_find
set_option maxRecDepth 20000 in
theorem ggX5_putAllRight_X5_isRoomFor : GoodIn wsX5_putAllRight wsX5_isRoomFor := goodIn_r _ [53, 13, 1, 2, 3, 4, 5, 6, 7, 54, 55, 56, 57, 58, 59, 60, 15, 16, 17, 18, 19, 84, 85, 86, 87, 88, 89, 90, 91, 96, 97, 98, 99, 100, 101, 102, 92, 93, 94, 95, 103] (by decide +kernel) (by decide +kernel)
set_option maxRecDepth 20000 in
theorem gX5_putAllRight_X5_isRoomFor : GoodIn wsX5_putAllRight (wsV RX5 91 RX5 yX5_isRoomFor wsX5_isRoomFor) := goodIn_app (goodIn_of _ (by decide +kernel)) ggX5_putAllRight_X5_isRoomFor
set_option maxRecDepth 20000 in
theorem ggX5_putAllRight_X5_putRight : GoodIn wsX5_putAllRight wsX5_putRight := goodIn_r _ [64, 13, 1, 2, 3, 4, 5, 6, 7, 14, 15, 16, 17, 18, 19, 65, 66, 67, 57, 68, 69, 59, 70, 71, 72, 60, 73, 55, 56, 58, 74, 75, 76, 77, 78, 79, 80, 81, 82, 32, 33, 34, 83, 28, 29, 30, 84, 85, 86, 87, 88, 89, 90, 91, 96, 97, 98, 99, 100, 101, 102, 92, 93, 94, 95, 103] (by decide +kernel) (by decide +kernel)
set_option maxRecDepth 20000 in
theorem gX5_putAllRight_X5_putRight : GoodIn wsX5_putAllRight (wsV RX5 95 RX5 yX5_putRight wsX5_putRight) := goodIn_app (goodIn_of _ (by decide +kernel)) ggX5_putAllRight_X5_putRight
theorem dX5_putAllRight_0 : decode cX5_putAllRight 0 = .ok (.aload_n 1, 1) := by decide +kernel
theorem dX5_putAllRight_1 : decode cX5_putAllRight 1 = .ok (.iload_n 2, 1) := by decide +kernel
theorem dX5_putAllRight_2 : decode cX5_putAllRight 2 = .ok (.invokevirtual 18, 3) := by decide +kernel
theorem dX5_putAllRight_5 : decode cX5_putAllRight 5 = .ok (.getfield 74, 3) := by decide +kernel
theorem dX5_putAllRight_8 : decode cX5_putAllRight 8 = .ok (.istore_n 3, 1) := by decide +kernel
theorem dX5_putAllRight_9 : decode cX5_putAllRight 9 = .ok (.iconst 0, 1) := by decide +kernel
theorem dX5_putAllRight_10 : decode cX5_putAllRight 10 = .ok (.istore 4, 2) := by decide +kernel
theorem dX5_putAllRight_12 : decode cX5_putAllRight 12 = .ok (.iconst 0, 1) := by decide +kernel
theorem dX5_putAllRight_13 : decode cX5_putAllRight 13 = .ok (.istore 5, 2) := by decide +kernel
theorem dX5_putAllRight_15 : decode cX5_putAllRight 15 = .ok (.iload 5, 2) := by decide +kernel
theorem dX5_putAllRight_17 : decode cX5_putAllRight 17 = .ok (.iload_n 3, 1) := by decide +kernel
theorem dX5_putAllRight_18 : decode cX5_putAllRight 18 = .ok (.if_icmp .ge 42, 3) := by decide +kernel
theorem dX5_putAllRight_21 : decode cX5_putAllRight 21 = .ok (.aload_n 0, 1) := by decide +kernel
theorem dX5_putAllRight_22 : decode cX5_putAllRight 22 = .ok (.aload_n 1, 1) := by decide +kernel
theorem dX5_putAllRight_23 : decode cX5_putAllRight 23 = .ok (.iload_n 2, 1) := by decide +kernel
theorem dX5_putAllRight_24 : decode cX5_putAllRight 24 = .ok (.iload 5, 2) := by decide +kernel
theorem dX5_putAllRight_26 : decode cX5_putAllRight 26 = .ok (.invokevirtual 51, 3) := by decide +kernel
theorem dX5_putAllRight_29 : decode cX5_putAllRight 29 = .ok (.ifCond .le 25, 3) := by decide +kernel
theorem dX5_putAllRight_32 : decode cX5_putAllRight 32 = .ok (.aload_n 0, 1) := by decide +kernel
theorem dX5_putAllRight_33 : decode cX5_putAllRight 33 = .ok (.aload_n 1, 1) := by decide +kernel
theorem dX5_putAllRight_34 : decode cX5_putAllRight 34 = .ok (.iload_n 2, 1) := by decide +kernel
theorem dX5_putAllRight_35 : decode cX5_putAllRight 35 = .ok (.iload 5, 2) := by decide +kernel
theorem dX5_putAllRight_37 : decode cX5_putAllRight 37 = .ok (.invokevirtual 91, 3) := by decide +kernel
theorem dX5_putAllRight_40 : decode cX5_putAllRight 40 = .ok (.ifCond .eq 14, 3) := by decide +kernel
theorem dX5_putAllRight_43 : decode cX5_putAllRight 43 = .ok (.aload_n 0, 1) := by decide +kernel
theorem dX5_putAllRight_44 : decode cX5_putAllRight 44 = .ok (.aload_n 1, 1) := by decide +kernel
theorem dX5_putAllRight_45 : decode cX5_putAllRight 45 = .ok (.iload_n 2, 1) := by decide +kernel
theorem dX5_putAllRight_46 : decode cX5_putAllRight 46 = .ok (.iload 5, 2) := by decide +kernel
theorem dX5_putAllRight_48 : decode cX5_putAllRight 48 = .ok (.invokevirtual 95, 3) := by decide +kernel
theorem dX5_putAllRight_51 : decode cX5_putAllRight 51 = .ok (.iinc 4 1, 3) := by decide +kernel
theorem dX5_putAllRight_54 : decode cX5_putAllRight 54 = .ok (.iinc 5 1, 3) := by decide +kernel
theorem dX5_putAllRight_57 : decode cX5_putAllRight 57 = .ok (.goto (-42), 3) := by decide +kernel
theorem dX5_putAllRight_60 : decode cX5_putAllRight 60 = .ok (.iload 4, 2) := by decide +kernel
theorem dX5_putAllRight_62 : decode cX5_putAllRight 62 = .ok (.ireturn, 1) := by decide +kernel
set_option maxRecDepth 20000 in
theorem ggX5_changesWritten_X9_at : GoodIn wsX5_changesWritten wsX9_at := goodIn_r _ [5, 6, 7, 54, 55, 56, 57] (by decide +kernel) (by decide +kernel)
set_option maxRecDepth 20000 in
theorem gX5_changesWritten_X9_at : GoodIn wsX5_changesWritten (wsV RX5 18 RX9 yX9_at wsX9_at) := goodIn_app (goodIn_of _ (by decide +kernel)) ggX5_changesWritten_X9_at
set_option maxRecDepth 20000 in
theorem ggX5_changesWritten_X5_changesIn : GoodIn wsX5_changesWritten wsX5_changesIn := goodIn_r _ [12, 1, 2, 3, 4, 5, 6, 7, 13, 14, 15, 16, 17, 18, 19, 20, 21, 11, 22, 23, 24, 25, 26, 27, 28, 29, 30, 31, 32, 33, 34, 35, 36, 37, 38, 39, 40, 41, 42, 43, 44, 45, 46, 47, 48, 49, 50, 51, 52, 53, 58, 59, 60, 61, 62, 63, 64, 65, 54, 55, 56, 57, 66, 67, 68, 69, 70, 71, 72, 73] (by decide +kernel) (by decide +kernel)
set_option maxRecDepth 20000 in
theorem gX5_changesWritten_X5_changesIn : GoodIn wsX5_changesWritten (wsV RX5 102 RX5 yX5_changesIn wsX5_changesIn) := goodIn_app (goodIn_of _ (by decide +kernel)) ggX5_changesWritten_X5_changesIn
theorem dX5_changesWritten_0 : decode cX5_changesWritten 0 = .ok (.iconst 0, 1) := by decide +kernel
theorem dX5_changesWritten_1 : decode cX5_changesWritten 1 = .ok (.istore 4, 2) := by decide +kernel
theorem dX5_changesWritten_3 : decode cX5_changesWritten 3 = .ok (.iconst 0, 1) := by decide +kernel
theorem dX5_changesWritten_4 : decode cX5_changesWritten 4 = .ok (.istore 5, 2) := by decide +kernel
theorem dX5_changesWritten_6 : decode cX5_changesWritten 6 = .ok (.iload 5, 2) := by decide +kernel
theorem dX5_changesWritten_8 : decode cX5_changesWritten 8 = .ok (.aload_n 1, 1) := by decide +kernel
theorem dX5_changesWritten_9 : decode cX5_changesWritten 9 = .ok (.getfield 71, 3) := by decide +kernel
theorem dX5_changesWritten_12 : decode cX5_changesWritten 12 = .ok (.if_icmp .ge 35, 3) := by decide +kernel
theorem dX5_changesWritten_15 : decode cX5_changesWritten 15 = .ok (.aload_n 1, 1) := by decide +kernel
theorem dX5_changesWritten_16 : decode cX5_changesWritten 16 = .ok (.iload 5, 2) := by decide +kernel
theorem dX5_changesWritten_18 : decode cX5_changesWritten 18 = .ok (.invokevirtual 18, 3) := by decide +kernel
theorem dX5_changesWritten_21 : decode cX5_changesWritten 21 = .ok (.getfield 99, 3) := by decide +kernel
theorem dX5_changesWritten_24 : decode cX5_changesWritten 24 = .ok (.iload_n 2, 1) := by decide +kernel
theorem dX5_changesWritten_25 : decode cX5_changesWritten 25 = .ok (.if_icmp .ne 16, 3) := by decide +kernel
theorem dX5_changesWritten_28 : decode cX5_changesWritten 28 = .ok (.iload 4, 2) := by decide +kernel
theorem dX5_changesWritten_30 : decode cX5_changesWritten 30 = .ok (.aload_n 0, 1) := by decide +kernel
theorem dX5_changesWritten_31 : decode cX5_changesWritten 31 = .ok (.aload_n 1, 1) := by decide +kernel
theorem dX5_changesWritten_32 : decode cX5_changesWritten 32 = .ok (.iload 5, 2) := by decide +kernel
theorem dX5_changesWritten_34 : decode cX5_changesWritten 34 = .ok (.iload_n 3, 1) := by decide +kernel
theorem dX5_changesWritten_35 : decode cX5_changesWritten 35 = .ok (.invokevirtual 102, 3) := by decide +kernel
theorem dX5_changesWritten_38 : decode cX5_changesWritten 38 = .ok (.iadd, 1) := by decide +kernel
theorem dX5_changesWritten_39 : decode cX5_changesWritten 39 = .ok (.istore 4, 2) := by decide +kernel
theorem dX5_changesWritten_41 : decode cX5_changesWritten 41 = .ok (.iinc 5 1, 3) := by decide +kernel
theorem dX5_changesWritten_44 : decode cX5_changesWritten 44 = .ok (.goto (-38), 3) := by decide +kernel
theorem dX5_changesWritten_47 : decode cX5_changesWritten 47 = .ok (.iload 4, 2) := by decide +kernel
theorem dX5_changesWritten_49 : decode cX5_changesWritten 49 = .ok (.ireturn, 1) := by decide +kernel
set_option maxRecDepth 20000 in
theorem ggX5_changesIn_X9_at : GoodIn wsX5_changesIn wsX9_at := goodIn_r _ [5, 6, 7, 58, 59, 60, 61] (by decide +kernel) (by decide +kernel)
set_option maxRecDepth 20000 in
theorem gX5_changesIn_X9_at : GoodIn wsX5_changesIn (wsV RX5 18 RX9 yX9_at wsX9_at) := goodIn_app (goodIn_of _ (by decide +kernel)) ggX5_changesIn_X9_at
set_option maxRecDepth 20000 in
theorem ggX5_changesIn_X7_number : GoodIn wsX5_changesIn wsX7_number := goodIn_r _ [12, 13, 62] (by decide +kernel) (by decide +kernel)
set_option maxRecDepth 20000 in
theorem gX5_changesIn_X7_number : GoodIn wsX5_changesIn (wsV RX5 30 RX7 yX7_number wsX7_number) := goodIn_app (goodIn_of _ (by decide +kernel)) ggX5_changesIn_X7_number
set_option maxRecDepth 20000 in
theorem ggX5_changesIn_X5_find : GoodIn wsX5_changesIn wsX5_find := goodIn_r _ [18, 19, 1, 2, 3, 4, 5, 6, 7, 8, 9, 10, 11, 12, 13, 20, 21, 22, 23, 24, 25, 26, 27, 28, 29, 30, 31, 32, 33, 34, 35, 36, 37, 38, 39, 40, 41, 42, 43, 44, 45, 46, 47, 48, 49, 63, 64, 65, 50, 51, 52, 53, 54, 55, 56, 57, 66, 67, 68, 69, 58, 59, 60, 61, 62] (by decide +kernel) (by decide +kernel)
set_option maxRecDepth 20000 in
theorem gX5_changesIn_X5_find : GoodIn wsX5_changesIn (wsV RX5 51 RX5 yX5_find wsX5_find) := goodIn_app (goodIn_of _ (by decide +kernel)) ggX5_changesIn_X5_find
theorem dX5_changesIn_0 : decode cX5_changesIn 0 = .ok (.aload_n 1, 1) := by decide +kernel
theorem dX5_changesIn_1 : decode cX5_changesIn 1 = .ok (.iload_n 2, 1) := by decide +kernel
theorem dX5_changesIn_2 : decode cX5_changesIn 2 = .ok (.invokevirtual 18, 3) := by decide +kernel
theorem dX5_changesIn_5 : decode cX5_changesIn 5 = .ok (.astore 4, 2) := by decide +kernel
theorem dX5_changesIn_7 : decode cX5_changesIn 7 = .ok (.iconst 0, 1) := by decide +kernel
theorem dX5_changesIn_8 : decode cX5_changesIn 8 = .ok (.istore 5, 2) := by decide +kernel
theorem dX5_changesIn_10 : decode cX5_changesIn 10 = .ok (.iconst 0, 1) := by decide +kernel
theorem dX5_changesIn_11 : decode cX5_changesIn 11 = .ok (.istore 6, 2) := by decide +kernel
theorem dX5_changesIn_13 : decode cX5_changesIn 13 = .ok (.iload 6, 2) := by decide +kernel
theorem dX5_changesIn_15 : decode cX5_changesIn 15 = .ok (.aload 4, 2) := by decide +kernel
theorem dX5_changesIn_17 : decode cX5_changesIn 17 = .ok (.getfield 74, 3) := by decide +kernel
theorem dX5_changesIn_20 : decode cX5_changesIn 20 = .ok (.if_icmp .ge 52, 3) := by decide +kernel
theorem dX5_changesIn_23 : decode cX5_changesIn 23 = .ok (.aload_n 1, 1) := by decide +kernel
theorem dX5_changesIn_24 : decode cX5_changesIn 24 = .ok (.aload 4, 2) := by decide +kernel
theorem dX5_changesIn_26 : decode cX5_changesIn 26 = .ok (.getfield 24, 3) := by decide +kernel
theorem dX5_changesIn_29 : decode cX5_changesIn 29 = .ok (.iload 6, 2) := by decide +kernel
theorem dX5_changesIn_31 : decode cX5_changesIn 31 = .ok (.invokevirtual 30, 3) := by decide +kernel
theorem dX5_changesIn_34 : decode cX5_changesIn 34 = .ok (.invokevirtual 18, 3) := by decide +kernel
theorem dX5_changesIn_37 : decode cX5_changesIn 37 = .ok (.getfield 99, 3) := by decide +kernel
theorem dX5_changesIn_40 : decode cX5_changesIn 40 = .ok (.istore 7, 2) := by decide +kernel
theorem dX5_changesIn_42 : decode cX5_changesIn 42 = .ok (.iload_n 3, 1) := by decide +kernel
theorem dX5_changesIn_43 : decode cX5_changesIn 43 = .ok (.iconst (-1), 1) := by decide +kernel
theorem dX5_changesIn_44 : decode cX5_changesIn 44 = .ok (.if_icmp .eq 9, 3) := by decide +kernel
theorem dX5_changesIn_47 : decode cX5_changesIn 47 = .ok (.iload_n 3, 1) := by decide +kernel
theorem dX5_changesIn_48 : decode cX5_changesIn 48 = .ok (.iload 7, 2) := by decide +kernel
theorem dX5_changesIn_50 : decode cX5_changesIn 50 = .ok (.if_icmp .ne 16, 3) := by decide +kernel
theorem dX5_changesIn_53 : decode cX5_changesIn 53 = .ok (.iload 5, 2) := by decide +kernel
theorem dX5_changesIn_55 : decode cX5_changesIn 55 = .ok (.aload_n 0, 1) := by decide +kernel
theorem dX5_changesIn_56 : decode cX5_changesIn 56 = .ok (.aload_n 1, 1) := by decide +kernel
theorem dX5_changesIn_57 : decode cX5_changesIn 57 = .ok (.iload_n 2, 1) := by decide +kernel
theorem dX5_changesIn_58 : decode cX5_changesIn 58 = .ok (.iload 6, 2) := by decide +kernel
theorem dX5_changesIn_60 : decode cX5_changesIn 60 = .ok (.invokevirtual 51, 3) := by decide +kernel
theorem dX5_changesIn_63 : decode cX5_changesIn 63 = .ok (.iadd, 1) := by decide +kernel
theorem dX5_changesIn_64 : decode cX5_changesIn 64 = .ok (.istore 5, 2) := by decide +kernel
theorem dX5_changesIn_66 : decode cX5_changesIn 66 = .ok (.iinc 6 1, 3) := by decide +kernel
theorem dX5_changesIn_69 : decode cX5_changesIn 69 = .ok (.goto (-56), 3) := by decide +kernel
theorem dX5_changesIn_72 : decode cX5_changesIn 72 = .ok (.iload 5, 2) := by decide +kernel
theorem dX5_changesIn_74 : decode cX5_changesIn 74 = .ok (.ireturn, 1) := by decide +kernel
set_option maxRecDepth 20000 in
theorem ggX5_changesSuffered_X9_at : GoodIn wsX5_changesSuffered wsX9_at := goodIn_r _ [5, 6, 7, 50, 51, 52, 53] (by decide +kernel) (by decide +kernel)
set_option maxRecDepth 20000 in
theorem gX5_changesSuffered_X9_at : GoodIn wsX5_changesSuffered (wsV RX5 18 RX9 yX9_at wsX9_at) := goodIn_app (goodIn_of _ (by decide +kernel)) ggX5_changesSuffered_X9_at
set_option maxRecDepth 20000 in
theorem ggX5_changesSuffered_X7_number : GoodIn wsX5_changesSuffered wsX7_number := goodIn_r _ [12, 13, 62] (by decide +kernel) (by decide +kernel)
set_option maxRecDepth 20000 in
theorem gX5_changesSuffered_X7_number : GoodIn wsX5_changesSuffered (wsV RX5 30 RX7 yX7_number wsX7_number) := goodIn_app (goodIn_of _ (by decide +kernel)) ggX5_changesSuffered_X7_number
set_option maxRecDepth 20000 in
theorem ggX5_changesSuffered_X5_find : GoodIn wsX5_changesSuffered wsX5_find := goodIn_r _ [18, 19, 1, 2, 3, 4, 5, 6, 7, 8, 9, 10, 11, 12, 13, 20, 21, 22, 23, 24, 25, 26, 27, 28, 29, 30, 31, 32, 33, 34, 35, 36, 37, 38, 39, 40, 41, 42, 43, 44, 45, 46, 47, 48, 49, 63, 64, 65, 54, 55, 56, 57, 58, 59, 60, 61, 66, 67, 68, 69, 50, 51, 52, 53, 62] (by decide +kernel) (by decide +kernel)
set_option maxRecDepth 20000 in
theorem gX5_changesSuffered_X5_find : GoodIn wsX5_changesSuffered (wsV RX5 51 RX5 yX5_find wsX5_find) := goodIn_app (goodIn_of _ (by decide +kernel)) ggX5_changesSuffered_X5_find
theorem dX5_changesSuffered_0 : decode cX5_changesSuffered 0 = .ok (.iconst 0, 1) := by decide +kernel
theorem dX5_changesSuffered_1 : decode cX5_changesSuffered 1 = .ok (.istore_n 3, 1) := by decide +kernel
theorem dX5_changesSuffered_2 : decode cX5_changesSuffered 2 = .ok (.iload_n 2, 1) := by decide +kernel
theorem dX5_changesSuffered_3 : decode cX5_changesSuffered 3 = .ok (.iconst 1, 1) := by decide +kernel
theorem dX5_changesSuffered_4 : decode cX5_changesSuffered 4 = .ok (.iadd, 1) := by decide +kernel
theorem dX5_changesSuffered_5 : decode cX5_changesSuffered 5 = .ok (.istore 4, 2) := by decide +kernel
theorem dX5_changesSuffered_7 : decode cX5_changesSuffered 7 = .ok (.iload 4, 2) := by decide +kernel
theorem dX5_changesSuffered_9 : decode cX5_changesSuffered 9 = .ok (.aload_n 1, 1) := by decide +kernel
theorem dX5_changesSuffered_10 : decode cX5_changesSuffered 10 = .ok (.getfield 71, 3) := by decide +kernel
theorem dX5_changesSuffered_13 : decode cX5_changesSuffered 13 = .ok (.if_icmp .ge 62, 3) := by decide +kernel
theorem dX5_changesSuffered_16 : decode cX5_changesSuffered 16 = .ok (.aload_n 1, 1) := by decide +kernel
theorem dX5_changesSuffered_17 : decode cX5_changesSuffered 17 = .ok (.iload 4, 2) := by decide +kernel
theorem dX5_changesSuffered_19 : decode cX5_changesSuffered 19 = .ok (.invokevirtual 18, 3) := by decide +kernel
theorem dX5_changesSuffered_22 : decode cX5_changesSuffered 22 = .ok (.astore 5, 2) := by decide +kernel
theorem dX5_changesSuffered_24 : decode cX5_changesSuffered 24 = .ok (.iconst 0, 1) := by decide +kernel
theorem dX5_changesSuffered_25 : decode cX5_changesSuffered 25 = .ok (.istore 6, 2) := by decide +kernel
theorem dX5_changesSuffered_27 : decode cX5_changesSuffered 27 = .ok (.iload 6, 2) := by decide +kernel
theorem dX5_changesSuffered_29 : decode cX5_changesSuffered 29 = .ok (.aload 5, 2) := by decide +kernel
theorem dX5_changesSuffered_31 : decode cX5_changesSuffered 31 = .ok (.getfield 74, 3) := by decide +kernel
theorem dX5_changesSuffered_34 : decode cX5_changesSuffered 34 = .ok (.if_icmp .ge 35, 3) := by decide +kernel
theorem dX5_changesSuffered_37 : decode cX5_changesSuffered 37 = .ok (.aload 5, 2) := by decide +kernel
theorem dX5_changesSuffered_39 : decode cX5_changesSuffered 39 = .ok (.getfield 24, 3) := by decide +kernel
theorem dX5_changesSuffered_42 : decode cX5_changesSuffered 42 = .ok (.iload 6, 2) := by decide +kernel
theorem dX5_changesSuffered_44 : decode cX5_changesSuffered 44 = .ok (.invokevirtual 30, 3) := by decide +kernel
theorem dX5_changesSuffered_47 : decode cX5_changesSuffered 47 = .ok (.iload_n 2, 1) := by decide +kernel
theorem dX5_changesSuffered_48 : decode cX5_changesSuffered 48 = .ok (.if_icmp .ne 15, 3) := by decide +kernel
theorem dX5_changesSuffered_51 : decode cX5_changesSuffered 51 = .ok (.iload_n 3, 1) := by decide +kernel
theorem dX5_changesSuffered_52 : decode cX5_changesSuffered 52 = .ok (.aload_n 0, 1) := by decide +kernel
theorem dX5_changesSuffered_53 : decode cX5_changesSuffered 53 = .ok (.aload_n 1, 1) := by decide +kernel
theorem dX5_changesSuffered_54 : decode cX5_changesSuffered 54 = .ok (.iload 4, 2) := by decide +kernel
theorem dX5_changesSuffered_56 : decode cX5_changesSuffered 56 = .ok (.iload 6, 2) := by decide +kernel
theorem dX5_changesSuffered_58 : decode cX5_changesSuffered 58 = .ok (.invokevirtual 51, 3) := by decide +kernel
theorem dX5_changesSuffered_61 : decode cX5_changesSuffered 61 = .ok (.iadd, 1) := by decide +kernel
theorem dX5_changesSuffered_62 : decode cX5_changesSuffered 62 = .ok (.istore_n 3, 1) := by decide +kernel
theorem dX5_changesSuffered_63 : decode cX5_changesSuffered 63 = .ok (.iinc 6 1, 3) := by decide +kernel
theorem dX5_changesSuffered_66 : decode cX5_changesSuffered 66 = .ok (.goto (-39), 3) := by decide +kernel
theorem dX5_changesSuffered_69 : decode cX5_changesSuffered 69 = .ok (.iinc 4 1, 3) := by decide +kernel
theorem dX5_changesSuffered_72 : decode cX5_changesSuffered 72 = .ok (.goto (-65), 3) := by decide +kernel
theorem dX5_changesSuffered_75 : decode cX5_changesSuffered 75 = .ok (.iload_n 3, 1) := by decide +kernel
theorem dX5_changesSuffered_76 : decode cX5_changesSuffered 76 = .ok (.ireturn, 1) := by decide +kernel
set_option maxRecDepth 20000 in
theorem ggX5_faithfulIn_X9_at : GoodIn wsX5_faithfulIn wsX9_at := goodIn_r _ [5, 6, 7, 58, 59, 60, 61] (by decide +kernel) (by decide +kernel)
set_option maxRecDepth 20000 in
theorem gX5_faithfulIn_X9_at : GoodIn wsX5_faithfulIn (wsV RX5 18 RX9 yX9_at wsX9_at) := goodIn_app (goodIn_of _ (by decide +kernel)) ggX5_faithfulIn_X9_at
set_option maxRecDepth 20000 in
theorem ggX5_faithfulIn_X5_find : GoodIn wsX5_faithfulIn wsX5_find := goodIn_r _ [12, 13, 1, 2, 3, 4, 5, 6, 7, 14, 15, 16, 17, 18, 19, 20, 21, 22, 23, 24, 25, 26, 27, 28, 29, 30, 31, 32, 33, 34, 35, 36, 37, 38, 39, 40, 41, 42, 43, 44, 45, 46, 47, 48, 49, 62, 63, 64, 50, 51, 52, 53, 54, 55, 56, 57, 65, 66, 67, 68, 58, 59, 60, 61, 69] (by decide +kernel) (by decide +kernel)
set_option maxRecDepth 20000 in
theorem gX5_faithfulIn_X5_find : GoodIn wsX5_faithfulIn (wsV RX5 51 RX5 yX5_find wsX5_find) := goodIn_app (goodIn_of _ (by decide +kernel)) ggX5_faithfulIn_X5_find
theorem dX5_faithfulIn_0 : decode cX5_faithfulIn 0 = .ok (.aload_n 1, 1) := by decide +kernel
theorem dX5_faithfulIn_1 : decode cX5_faithfulIn 1 = .ok (.iload_n 2, 1) := by decide +kernel
theorem dX5_faithfulIn_2 : decode cX5_faithfulIn 2 = .ok (.invokevirtual 18, 3) := by decide +kernel
theorem dX5_faithfulIn_5 : decode cX5_faithfulIn 5 = .ok (.getfield 74, 3) := by decide +kernel
theorem dX5_faithfulIn_8 : decode cX5_faithfulIn 8 = .ok (.istore_n 3, 1) := by decide +kernel
theorem dX5_faithfulIn_9 : decode cX5_faithfulIn 9 = .ok (.iconst 0, 1) := by decide +kernel
theorem dX5_faithfulIn_10 : decode cX5_faithfulIn 10 = .ok (.istore 4, 2) := by decide +kernel
theorem dX5_faithfulIn_12 : decode cX5_faithfulIn 12 = .ok (.iconst 0, 1) := by decide +kernel
theorem dX5_faithfulIn_13 : decode cX5_faithfulIn 13 = .ok (.istore 5, 2) := by decide +kernel
theorem dX5_faithfulIn_15 : decode cX5_faithfulIn 15 = .ok (.iload 5, 2) := by decide +kernel
theorem dX5_faithfulIn_17 : decode cX5_faithfulIn 17 = .ok (.iload_n 3, 1) := by decide +kernel
theorem dX5_faithfulIn_18 : decode cX5_faithfulIn 18 = .ok (.if_icmp .ge 30, 3) := by decide +kernel
theorem dX5_faithfulIn_21 : decode cX5_faithfulIn 21 = .ok (.iload 4, 2) := by decide +kernel
theorem dX5_faithfulIn_23 : decode cX5_faithfulIn 23 = .ok (.aload_n 0, 1) := by decide +kernel
theorem dX5_faithfulIn_24 : decode cX5_faithfulIn 24 = .ok (.aload_n 1, 1) := by decide +kernel
theorem dX5_faithfulIn_25 : decode cX5_faithfulIn 25 = .ok (.iload_n 2, 1) := by decide +kernel
theorem dX5_faithfulIn_26 : decode cX5_faithfulIn 26 = .ok (.iload 5, 2) := by decide +kernel
theorem dX5_faithfulIn_28 : decode cX5_faithfulIn 28 = .ok (.invokevirtual 51, 3) := by decide +kernel
theorem dX5_faithfulIn_31 : decode cX5_faithfulIn 31 = .ok (.ifCond .ne 7, 3) := by decide +kernel
theorem dX5_faithfulIn_34 : decode cX5_faithfulIn 34 = .ok (.iconst 1, 1) := by decide +kernel
theorem dX5_faithfulIn_35 : decode cX5_faithfulIn 35 = .ok (.goto 4, 3) := by decide +kernel
theorem dX5_faithfulIn_38 : decode cX5_faithfulIn 38 = .ok (.iconst 0, 1) := by decide +kernel
theorem dX5_faithfulIn_39 : decode cX5_faithfulIn 39 = .ok (.iadd, 1) := by decide +kernel
theorem dX5_faithfulIn_40 : decode cX5_faithfulIn 40 = .ok (.istore 4, 2) := by decide +kernel
theorem dX5_faithfulIn_42 : decode cX5_faithfulIn 42 = .ok (.iinc 5 1, 3) := by decide +kernel
theorem dX5_faithfulIn_45 : decode cX5_faithfulIn 45 = .ok (.goto (-30), 3) := by decide +kernel
theorem dX5_faithfulIn_48 : decode cX5_faithfulIn 48 = .ok (.iload 4, 2) := by decide +kernel
theorem dX5_faithfulIn_50 : decode cX5_faithfulIn 50 = .ok (.ireturn, 1) := by decide +kernel
set_option maxRecDepth 20000 in
theorem ggX6_init_X4_init : GoodIn wsX6_init wsX4_init := goodIn_r _ [9, 10, 2, 3, 11, 12, 13, 14, 15, 16, 17, 18, 19, 20, 21, 22, 23, 24, 25, 26, 27, 41, 28, 29, 30, 31, 32, 33, 34, 35] (by decide +kernel) (by decide +kernel)
set_option maxRecDepth 20000 in
theorem gX6_init_X4_init_n11 : GoodIn wsX6_init (wsX4_init) := ggX6_init_X4_init
theorem dX6_init_0 : decode cX6_init 0 = .ok (.aload_n 0, 1) := by decide +kernel
theorem dX6_init_1 : decode cX6_init 1 = .ok (.invokespecial 3, 3) := by decide +kernel
theorem dX6_init_4 : decode cX6_init 4 = .ok (.aload_n 0, 1) := by decide +kernel
theorem dX6_init_5 : decode cX6_init 5 = .ok (.new 9, 3) := by decide +kernel
theorem dX6_init_8 : decode cX6_init 8 = .ok (.dup, 1) := by decide +kernel
theorem dX6_init_9 : decode cX6_init 9 = .ok (.invokespecial 11, 3) := by decide +kernel
theorem dX6_init_12 : decode cX6_init 12 = .ok (.putfield 12, 3) := by decide +kernel
theorem dX6_init_15 : decode cX6_init 15 = .ok (.return_, 1) := by decide +kernel
set_option maxRecDepth 20000 in
theorem ggX6_read_X4_empty : GoodIn wsX6_read wsX4_empty := goodIn_r _ [8, 9, 10, 75, 76, 77, 78, 79, 80, 81, 82] (by decide +kernel) (by decide +kernel)
set_option maxRecDepth 20000 in
theorem gX6_read_X4_empty : GoodIn wsX6_read (wsV RX6 18 RX4 yX4_empty wsX4_empty) := goodIn_app (goodIn_of _ (by decide +kernel)) ggX6_read_X4_empty
set_option maxRecDepth 20000 in
theorem ggX6_read_X7_number : GoodIn wsX6_read wsX7_number := goodIn_r _ [15, 16, 83] (by decide +kernel) (by decide +kernel)
set_option maxRecDepth 20000 in
theorem gX6_read_X7_number : GoodIn wsX6_read (wsV RX6 37 RX7 yX7_number wsX7_number) := goodIn_app (goodIn_of _ (by decide +kernel)) ggX6_read_X7_number
set_option maxRecDepth 20000 in
theorem ggX6_read_X6_placeAfter : GoodIn wsX6_read wsX6_placeAfter := goodIn_r _ [21, 3, 22, 23, 24, 20, 25, 1, 26, 27, 28, 29, 30, 31, 32, 33, 34, 35, 36, 37, 7, 38, 39, 9, 40, 41, 42, 14, 43, 16, 44, 45, 46, 47, 48, 49, 50, 51, 52, 53, 54, 55, 56, 57, 58, 59, 60, 61, 10, 62, 63, 64, 65, 66, 67, 68, 69, 70, 71, 72, 75, 76, 77, 78, 79, 80, 81, 82, 83] (by decide +kernel) (by decide +kernel)
set_option maxRecDepth 20000 in
theorem gX6_read_X6_placeAfter : GoodIn wsX6_read (wsV RX6 43 RX6 yX6_placeAfter wsX6_placeAfter) := goodIn_app (goodIn_of _ (by decide +kernel)) ggX6_read_X6_placeAfter
theorem dX6_read_0 : decode cX6_read 0 = .ok (.aload_n 0, 1) := by decide +kernel
theorem dX6_read_1 : decode cX6_read 1 = .ok (.getfield 12, 3) := by decide +kernel
theorem dX6_read_4 : decode cX6_read 4 = .ok (.invokevirtual 18, 3) := by decide +kernel
theorem dX6_read_7 : decode cX6_read 7 = .ok (.aload_n 0, 1) := by decide +kernel
theorem dX6_read_8 : decode cX6_read 8 = .ok (.iconst 0, 1) := by decide +kernel
theorem dX6_read_9 : decode cX6_read 9 = .ok (.putfield 21, 3) := by decide +kernel
theorem dX6_read_12 : decode cX6_read 12 = .ok (.aload_n 0, 1) := by decide +kernel
theorem dX6_read_13 : decode cX6_read 13 = .ok (.iconst 1, 1) := by decide +kernel
theorem dX6_read_14 : decode cX6_read 14 = .ok (.putfield 25, 3) := by decide +kernel
theorem dX6_read_17 : decode cX6_read 17 = .ok (.aload_n 0, 1) := by decide +kernel
theorem dX6_read_18 : decode cX6_read 18 = .ok (.getfield 21, 3) := by decide +kernel
theorem dX6_read_21 : decode cX6_read 21 = .ok (.aload_n 1, 1) := by decide +kernel
theorem dX6_read_22 : decode cX6_read 22 = .ok (.getfield 28, 3) := by decide +kernel
theorem dX6_read_25 : decode cX6_read 25 = .ok (.if_icmp .ge 42, 3) := by decide +kernel
theorem dX6_read_28 : decode cX6_read 28 = .ok (.aload_n 0, 1) := by decide +kernel
theorem dX6_read_29 : decode cX6_read 29 = .ok (.aload_n 1, 1) := by decide +kernel
theorem dX6_read_30 : decode cX6_read 30 = .ok (.getfield 33, 3) := by decide +kernel
theorem dX6_read_33 : decode cX6_read 33 = .ok (.aload_n 0, 1) := by decide +kernel
theorem dX6_read_34 : decode cX6_read 34 = .ok (.getfield 21, 3) := by decide +kernel
theorem dX6_read_37 : decode cX6_read 37 = .ok (.invokevirtual 37, 3) := by decide +kernel
theorem dX6_read_40 : decode cX6_read 40 = .ok (.invokevirtual 43, 3) := by decide +kernel
theorem dX6_read_43 : decode cX6_read 43 = .ok (.istore_n 2, 1) := by decide +kernel
theorem dX6_read_44 : decode cX6_read 44 = .ok (.iload_n 2, 1) := by decide +kernel
theorem dX6_read_45 : decode cX6_read 45 = .ok (.ifCond .ne 4, 3) := by decide +kernel
theorem dX6_read_48 : decode cX6_read 48 = .ok (.return_, 1) := by decide +kernel
theorem dX6_read_49 : decode cX6_read 49 = .ok (.aload_n 0, 1) := by decide +kernel
theorem dX6_read_50 : decode cX6_read 50 = .ok (.iload_n 2, 1) := by decide +kernel
theorem dX6_read_51 : decode cX6_read 51 = .ok (.putfield 25, 3) := by decide +kernel
theorem dX6_read_54 : decode cX6_read 54 = .ok (.aload_n 0, 1) := by decide +kernel
theorem dX6_read_55 : decode cX6_read 55 = .ok (.dup, 1) := by decide +kernel
theorem dX6_read_56 : decode cX6_read 56 = .ok (.getfield 21, 3) := by decide +kernel
theorem dX6_read_59 : decode cX6_read 59 = .ok (.iconst 1, 1) := by decide +kernel
theorem dX6_read_60 : decode cX6_read 60 = .ok (.iadd, 1) := by decide +kernel
theorem dX6_read_61 : decode cX6_read 61 = .ok (.putfield 21, 3) := by decide +kernel
theorem dX6_read_64 : decode cX6_read 64 = .ok (.goto (-47), 3) := by decide +kernel
theorem dX6_read_67 : decode cX6_read 67 = .ok (.return_, 1) := by decide +kernel
theorem dX6_isAtEndOfText_0 : decode cX6_isAtEndOfText 0 = .ok (.aload_n 0, 1) := by decide +kernel
theorem dX6_isAtEndOfText_1 : decode cX6_isAtEndOfText 1 = .ok (.getfield 21, 3) := by decide +kernel
theorem dX6_isAtEndOfText_4 : decode cX6_isAtEndOfText 4 = .ok (.aload_n 1, 1) := by decide +kernel
theorem dX6_isAtEndOfText_5 : decode cX6_isAtEndOfText 5 = .ok (.getfield 28, 3) := by decide +kernel
theorem dX6_isAtEndOfText_8 : decode cX6_isAtEndOfText 8 = .ok (.if_icmp .ne 33, 3) := by decide +kernel
theorem dX6_isAtEndOfText_11 : decode cX6_isAtEndOfText 11 = .ok (.aload_n 0, 1) := by decide +kernel
theorem dX6_isAtEndOfText_12 : decode cX6_isAtEndOfText 12 = .ok (.getfield 25, 3) := by decide +kernel
theorem dX6_isAtEndOfText_15 : decode cX6_isAtEndOfText 15 = .ok (.iconst 2, 1) := by decide +kernel
theorem dX6_isAtEndOfText_16 : decode cX6_isAtEndOfText 16 = .ok (.if_icmp .eq 21, 3) := by decide +kernel
theorem dX6_isAtEndOfText_19 : decode cX6_isAtEndOfText 19 = .ok (.aload_n 0, 1) := by decide +kernel
theorem dX6_isAtEndOfText_20 : decode cX6_isAtEndOfText 20 = .ok (.getfield 25, 3) := by decide +kernel
theorem dX6_isAtEndOfText_23 : decode cX6_isAtEndOfText 23 = .ok (.bipush 7, 2) := by decide +kernel
theorem dX6_isAtEndOfText_25 : decode cX6_isAtEndOfText 25 = .ok (.if_icmp .eq 12, 3) := by decide +kernel
theorem dX6_isAtEndOfText_28 : decode cX6_isAtEndOfText 28 = .ok (.aload_n 0, 1) := by decide +kernel
theorem dX6_isAtEndOfText_29 : decode cX6_isAtEndOfText 29 = .ok (.getfield 25, 3) := by decide +kernel
theorem dX6_isAtEndOfText_32 : decode cX6_isAtEndOfText 32 = .ok (.bipush 8, 2) := by decide +kernel
theorem dX6_isAtEndOfText_34 : decode cX6_isAtEndOfText 34 = .ok (.if_icmp .ne 7, 3) := by decide +kernel
theorem dX6_isAtEndOfText_37 : decode cX6_isAtEndOfText 37 = .ok (.iconst 1, 1) := by decide +kernel
theorem dX6_isAtEndOfText_38 : decode cX6_isAtEndOfText 38 = .ok (.goto 4, 3) := by decide +kernel
theorem dX6_isAtEndOfText_41 : decode cX6_isAtEndOfText 41 = .ok (.iconst 0, 1) := by decide +kernel
theorem dX6_isAtEndOfText_42 : decode cX6_isAtEndOfText 42 = .ok (.ireturn, 1) := by decide +kernel
set_option maxRecDepth 20000 in
theorem ggX6_placeAfter_X6_afterOpening : GoodIn wsX6_placeAfter wsX6_afterOpening := goodIn_r _ [6, 7, 8, 55, 56, 57, 58, 59, 60, 61, 62, 63, 64, 65, 66, 67] (by decide +kernel) (by decide +kernel)
set_option maxRecDepth 20000 in
theorem gX6_placeAfter_X6_afterOpening : GoodIn wsX6_placeAfter (wsV RX6 46 RX6 yX6_afterOpening wsX6_afterOpening) := goodIn_app (goodIn_of _ (by decide +kernel)) ggX6_placeAfter_X6_afterOpening
set_option maxRecDepth 20000 in
theorem ggX6_placeAfter_X6_afterFirstLetter : GoodIn wsX6_placeAfter wsX6_afterFirstLetter := goodIn_r _ [12, 7, 13, 14, 15, 16, 17, 18, 19, 20, 21, 22, 23, 24, 25, 26, 27, 28, 29, 55, 56, 57, 58, 59, 60, 61, 62, 63, 64, 65, 66, 67, 68] (by decide +kernel) (by decide +kernel)
set_option maxRecDepth 20000 in
theorem gX6_placeAfter_X6_afterFirstLetter : GoodIn wsX6_placeAfter (wsV RX6 50 RX6 yX6_afterFirstLetter wsX6_afterFirstLetter) := goodIn_app (goodIn_of _ (by decide +kernel)) ggX6_placeAfter_X6_afterFirstLetter
set_option maxRecDepth 20000 in
theorem ggX6_placeAfter_X6_afterLetter : GoodIn wsX6_placeAfter wsX6_afterLetter := goodIn_r _ [33, 13, 7, 1, 34, 35, 36, 27, 37, 29, 14, 15, 16, 38, 25, 26, 28, 55, 56, 57, 58, 59, 60, 61, 62, 63, 64, 65, 66, 67, 68] (by decide +kernel) (by decide +kernel)
set_option maxRecDepth 20000 in
theorem gX6_placeAfter_X6_afterLetter : GoodIn wsX6_placeAfter (wsV RX6 54 RX6 yX6_afterLetter wsX6_afterLetter) := goodIn_app (goodIn_of _ (by decide +kernel)) ggX6_placeAfter_X6_afterLetter
set_option maxRecDepth 20000 in
theorem ggX6_placeAfter_X6_afterFirstDigit : GoodIn wsX6_placeAfter wsX6_afterFirstDigit := goodIn_r _ [42, 7, 8, 43, 44, 45, 20, 46, 47, 48, 49, 50, 23, 24, 25, 26, 27, 28, 29, 55, 56, 57, 58, 59, 60, 61, 62, 63, 64, 65, 66, 67, 68] (by decide +kernel) (by decide +kernel)
set_option maxRecDepth 20000 in
theorem gX6_placeAfter_X6_afterFirstDigit : GoodIn wsX6_placeAfter (wsV RX6 57 RX6 yX6_afterFirstDigit wsX6_afterFirstDigit) := goodIn_app (goodIn_of _ (by decide +kernel)) ggX6_placeAfter_X6_afterFirstDigit
set_option maxRecDepth 20000 in
theorem ggX6_placeAfter_X6_afterSecondDigit : GoodIn wsX6_placeAfter wsX6_afterSecondDigit := goodIn_r _ [54, 7, 38, 25, 26, 27, 28, 29, 55, 56, 57, 58, 59, 60, 61, 62, 63, 64, 65, 66, 67, 68] (by decide +kernel) (by decide +kernel)
set_option maxRecDepth 20000 in
theorem gX6_placeAfter_X6_afterSecondDigit : GoodIn wsX6_placeAfter (wsV RX6 60 RX6 yX6_afterSecondDigit wsX6_afterSecondDigit) := goodIn_app (goodIn_of _ (by decide +kernel)) ggX6_placeAfter_X6_afterSecondDigit
theorem dX6_placeAfter_0 : decode cX6_placeAfter 0 = .ok (.aload_n 0, 1) := by decide +kernel
theorem dX6_placeAfter_1 : decode cX6_placeAfter 1 = .ok (.getfield 25, 3) := by decide +kernel
theorem dX6_placeAfter_4 : decode cX6_placeAfter 4 = .ok (.tableswitch 162 1 8 #[48, 68, 84, 91, 115, 128, 134, 150], 48) := by decide +kernel
theorem dX6_placeAfter_52 : decode cX6_placeAfter 52 = .ok (.iload_n 1, 1) := by decide +kernel
theorem dX6_placeAfter_53 : decode cX6_placeAfter 53 = .ok (.bipush 34, 2) := by decide +kernel
theorem dX6_placeAfter_55 : decode cX6_placeAfter 55 = .ok (.if_icmp .ne 10, 3) := by decide +kernel
theorem dX6_placeAfter_58 : decode cX6_placeAfter 58 = .ok (.aload_n 0, 1) := by decide +kernel
theorem dX6_placeAfter_59 : decode cX6_placeAfter 59 = .ok (.invokevirtual 46, 3) := by decide +kernel
theorem dX6_placeAfter_62 : decode cX6_placeAfter 62 = .ok (.goto 9, 3) := by decide +kernel
theorem dX6_placeAfter_65 : decode cX6_placeAfter 65 = .ok (.aload_n 0, 1) := by decide +kernel
theorem dX6_placeAfter_66 : decode cX6_placeAfter 66 = .ok (.iload_n 1, 1) := by decide +kernel
theorem dX6_placeAfter_67 : decode cX6_placeAfter 67 = .ok (.iconst 2, 1) := by decide +kernel
theorem dX6_placeAfter_68 : decode cX6_placeAfter 68 = .ok (.invokevirtual 50, 3) := by decide +kernel
theorem dX6_placeAfter_71 : decode cX6_placeAfter 71 = .ok (.ireturn, 1) := by decide +kernel
theorem dX6_placeAfter_72 : decode cX6_placeAfter 72 = .ok (.iload_n 1, 1) := by decide +kernel
theorem dX6_placeAfter_73 : decode cX6_placeAfter 73 = .ok (.bipush 32, 2) := by decide +kernel
theorem dX6_placeAfter_75 : decode cX6_placeAfter 75 = .ok (.if_icmp .ne 7, 3) := by decide +kernel
theorem dX6_placeAfter_78 : decode cX6_placeAfter 78 = .ok (.iconst 1, 1) := by decide +kernel
theorem dX6_placeAfter_79 : decode cX6_placeAfter 79 = .ok (.goto 8, 3) := by decide +kernel
theorem dX6_placeAfter_82 : decode cX6_placeAfter 82 = .ok (.aload_n 0, 1) := by decide +kernel
theorem dX6_placeAfter_83 : decode cX6_placeAfter 83 = .ok (.iload_n 1, 1) := by decide +kernel
theorem dX6_placeAfter_84 : decode cX6_placeAfter 84 = .ok (.invokevirtual 54, 3) := by decide +kernel
theorem dX6_placeAfter_87 : decode cX6_placeAfter 87 = .ok (.ireturn, 1) := by decide +kernel
theorem dX6_placeAfter_88 : decode cX6_placeAfter 88 = .ok (.aload_n 0, 1) := by decide +kernel
theorem dX6_placeAfter_89 : decode cX6_placeAfter 89 = .ok (.iload_n 1, 1) := by decide +kernel
theorem dX6_placeAfter_90 : decode cX6_placeAfter 90 = .ok (.iconst 4, 1) := by decide +kernel
theorem dX6_placeAfter_91 : decode cX6_placeAfter 91 = .ok (.invokevirtual 50, 3) := by decide +kernel
theorem dX6_placeAfter_94 : decode cX6_placeAfter 94 = .ok (.ireturn, 1) := by decide +kernel
theorem dX6_placeAfter_95 : decode cX6_placeAfter 95 = .ok (.iload_n 1, 1) := by decide +kernel
theorem dX6_placeAfter_96 : decode cX6_placeAfter 96 = .ok (.bipush 34, 2) := by decide +kernel
theorem dX6_placeAfter_98 : decode cX6_placeAfter 98 = .ok (.if_icmp .ne 5, 3) := by decide +kernel
theorem dX6_placeAfter_101 : decode cX6_placeAfter 101 = .ok (.iconst 5, 1) := by decide +kernel
theorem dX6_placeAfter_102 : decode cX6_placeAfter 102 = .ok (.ireturn, 1) := by decide +kernel
theorem dX6_placeAfter_103 : decode cX6_placeAfter 103 = .ok (.iload_n 1, 1) := by decide +kernel
theorem dX6_placeAfter_104 : decode cX6_placeAfter 104 = .ok (.bipush 32, 2) := by decide +kernel
theorem dX6_placeAfter_106 : decode cX6_placeAfter 106 = .ok (.if_icmp .ne 7, 3) := by decide +kernel
theorem dX6_placeAfter_109 : decode cX6_placeAfter 109 = .ok (.iconst 3, 1) := by decide +kernel
theorem dX6_placeAfter_110 : decode cX6_placeAfter 110 = .ok (.goto 8, 3) := by decide +kernel
theorem dX6_placeAfter_113 : decode cX6_placeAfter 113 = .ok (.aload_n 0, 1) := by decide +kernel
theorem dX6_placeAfter_114 : decode cX6_placeAfter 114 = .ok (.iload_n 1, 1) := by decide +kernel
theorem dX6_placeAfter_115 : decode cX6_placeAfter 115 = .ok (.invokevirtual 54, 3) := by decide +kernel
theorem dX6_placeAfter_118 : decode cX6_placeAfter 118 = .ok (.ireturn, 1) := by decide +kernel
theorem dX6_placeAfter_119 : decode cX6_placeAfter 119 = .ok (.iload_n 1, 1) := by decide +kernel
theorem dX6_placeAfter_120 : decode cX6_placeAfter 120 = .ok (.bipush 64, 2) := by decide +kernel
theorem dX6_placeAfter_122 : decode cX6_placeAfter 122 = .ok (.if_icmp .ne 8, 3) := by decide +kernel
theorem dX6_placeAfter_125 : decode cX6_placeAfter 125 = .ok (.bipush 6, 2) := by decide +kernel
theorem dX6_placeAfter_127 : decode cX6_placeAfter 127 = .ok (.goto 4, 3) := by decide +kernel
theorem dX6_placeAfter_130 : decode cX6_placeAfter 130 = .ok (.iconst 0, 1) := by decide +kernel
theorem dX6_placeAfter_131 : decode cX6_placeAfter 131 = .ok (.ireturn, 1) := by decide +kernel
theorem dX6_placeAfter_132 : decode cX6_placeAfter 132 = .ok (.aload_n 0, 1) := by decide +kernel
theorem dX6_placeAfter_133 : decode cX6_placeAfter 133 = .ok (.iload_n 1, 1) := by decide +kernel
theorem dX6_placeAfter_134 : decode cX6_placeAfter 134 = .ok (.invokevirtual 57, 3) := by decide +kernel
theorem dX6_placeAfter_137 : decode cX6_placeAfter 137 = .ok (.ireturn, 1) := by decide +kernel
theorem dX6_placeAfter_138 : decode cX6_placeAfter 138 = .ok (.iload_n 1, 1) := by decide +kernel
theorem dX6_placeAfter_139 : decode cX6_placeAfter 139 = .ok (.bipush 32, 2) := by decide +kernel
theorem dX6_placeAfter_141 : decode cX6_placeAfter 141 = .ok (.if_icmp .ne 7, 3) := by decide +kernel
theorem dX6_placeAfter_144 : decode cX6_placeAfter 144 = .ok (.iconst 1, 1) := by decide +kernel
theorem dX6_placeAfter_145 : decode cX6_placeAfter 145 = .ok (.goto 8, 3) := by decide +kernel
theorem dX6_placeAfter_148 : decode cX6_placeAfter 148 = .ok (.aload_n 0, 1) := by decide +kernel
theorem dX6_placeAfter_149 : decode cX6_placeAfter 149 = .ok (.iload_n 1, 1) := by decide +kernel
theorem dX6_placeAfter_150 : decode cX6_placeAfter 150 = .ok (.invokevirtual 60, 3) := by decide +kernel
theorem dX6_placeAfter_153 : decode cX6_placeAfter 153 = .ok (.ireturn, 1) := by decide +kernel
theorem dX6_placeAfter_154 : decode cX6_placeAfter 154 = .ok (.iload_n 1, 1) := by decide +kernel
theorem dX6_placeAfter_155 : decode cX6_placeAfter 155 = .ok (.bipush 32, 2) := by decide +kernel
theorem dX6_placeAfter_157 : decode cX6_placeAfter 157 = .ok (.if_icmp .ne 7, 3) := by decide +kernel
theorem dX6_placeAfter_160 : decode cX6_placeAfter 160 = .ok (.iconst 1, 1) := by decide +kernel
theorem dX6_placeAfter_161 : decode cX6_placeAfter 161 = .ok (.goto 4, 3) := by decide +kernel
theorem dX6_placeAfter_164 : decode cX6_placeAfter 164 = .ok (.iconst 0, 1) := by decide +kernel
theorem dX6_placeAfter_165 : decode cX6_placeAfter 165 = .ok (.ireturn, 1) := by decide +kernel
theorem dX6_placeAfter_166 : decode cX6_placeAfter 166 = .ok (.iconst 0, 1) := by decide +kernel
theorem dX6_placeAfter_167 : decode cX6_placeAfter 167 = .ok (.ireturn, 1) := by decide +kernel
theorem dX6_afterOpening_0 : decode cX6_afterOpening 0 = .ok (.aload_n 0, 1) := by decide +kernel
theorem dX6_afterOpening_1 : decode cX6_afterOpening 1 = .ok (.aload_n 0, 1) := by decide +kernel
theorem dX6_afterOpening_2 : decode cX6_afterOpening 2 = .ok (.getfield 12, 3) := by decide +kernel
theorem dX6_afterOpening_5 : decode cX6_afterOpening 5 = .ok (.getfield 63, 3) := by decide +kernel
theorem dX6_afterOpening_8 : decode cX6_afterOpening 8 = .ok (.putfield 66, 3) := by decide +kernel
theorem dX6_afterOpening_11 : decode cX6_afterOpening 11 = .ok (.iconst 3, 1) := by decide +kernel
theorem dX6_afterOpening_12 : decode cX6_afterOpening 12 = .ok (.ireturn, 1) := by decide +kernel
set_option maxRecDepth 20000 in
theorem ggX6_afterFirstLetter_X10_withLetter : GoodIn wsX6_afterFirstLetter wsX10_withLetter := goodIn_r _ [5] (by decide +kernel) (by decide +kernel)
set_option maxRecDepth 20000 in
theorem gX6_afterFirstLetter_X10_withLetter_n69 : GoodIn wsX6_afterFirstLetter (wsX10_withLetter) := ggX6_afterFirstLetter_X10_withLetter
set_option maxRecDepth 20000 in
theorem ggX6_afterFirstLetter_X4_addWord : GoodIn wsX6_afterFirstLetter wsX4_addWord := goodIn_r _ [10, 11, 12, 13, 14, 15, 16, 17, 18, 24, 25, 26, 27, 28, 29, 30, 31, 32] (by decide +kernel) (by decide +kernel)
set_option maxRecDepth 20000 in
theorem gX6_afterFirstLetter_X4_addWord : GoodIn wsX6_afterFirstLetter (wsV RX6 73 RX4 yX4_addWord wsX4_addWord) := goodIn_app (goodIn_of _ (by decide +kernel)) ggX6_afterFirstLetter_X4_addWord
theorem dX6_afterFirstLetter_0 : decode cX6_afterFirstLetter 0 = .ok (.iload_n 1, 1) := by decide +kernel
theorem dX6_afterFirstLetter_1 : decode cX6_afterFirstLetter 1 = .ok (.bipush 97, 2) := by decide +kernel
theorem dX6_afterFirstLetter_3 : decode cX6_afterFirstLetter 3 = .ok (.if_icmp .lt 9, 3) := by decide +kernel
theorem dX6_afterFirstLetter_6 : decode cX6_afterFirstLetter 6 = .ok (.iload_n 1, 1) := by decide +kernel
theorem dX6_afterFirstLetter_7 : decode cX6_afterFirstLetter 7 = .ok (.bipush 122, 2) := by decide +kernel
theorem dX6_afterFirstLetter_9 : decode cX6_afterFirstLetter 9 = .ok (.if_icmp .le 5, 3) := by decide +kernel
theorem dX6_afterFirstLetter_12 : decode cX6_afterFirstLetter 12 = .ok (.iconst 0, 1) := by decide +kernel
theorem dX6_afterFirstLetter_13 : decode cX6_afterFirstLetter 13 = .ok (.ireturn, 1) := by decide +kernel
theorem dX6_afterFirstLetter_14 : decode cX6_afterFirstLetter 14 = .ok (.aload_n 0, 1) := by decide +kernel
theorem dX6_afterFirstLetter_15 : decode cX6_afterFirstLetter 15 = .ok (.getfield 12, 3) := by decide +kernel
theorem dX6_afterFirstLetter_18 : decode cX6_afterFirstLetter 18 = .ok (.lconst 0, 1) := by decide +kernel
theorem dX6_afterFirstLetter_19 : decode cX6_afterFirstLetter 19 = .ok (.iconst 0, 1) := by decide +kernel
theorem dX6_afterFirstLetter_20 : decode cX6_afterFirstLetter 20 = .ok (.iload_n 1, 1) := by decide +kernel
theorem dX6_afterFirstLetter_21 : decode cX6_afterFirstLetter 21 = .ok (.invokestatic 69, 3) := by decide +kernel
theorem dX6_afterFirstLetter_24 : decode cX6_afterFirstLetter 24 = .ok (.invokevirtual 73, 3) := by decide +kernel
theorem dX6_afterFirstLetter_27 : decode cX6_afterFirstLetter 27 = .ok (.aload_n 0, 1) := by decide +kernel
theorem dX6_afterFirstLetter_28 : decode cX6_afterFirstLetter 28 = .ok (.iconst 1, 1) := by decide +kernel
theorem dX6_afterFirstLetter_29 : decode cX6_afterFirstLetter 29 = .ok (.putfield 77, 3) := by decide +kernel
theorem dX6_afterFirstLetter_32 : decode cX6_afterFirstLetter 32 = .ok (.iload_n 2, 1) := by decide +kernel
theorem dX6_afterFirstLetter_33 : decode cX6_afterFirstLetter 33 = .ok (.ireturn, 1) := by decide +kernel
set_option maxRecDepth 20000 in
theorem ggX6_afterLetter_X7_at : GoodIn wsX6_afterLetter wsX7_at := goodIn_r _ [8, 9, 30] (by decide +kernel) (by decide +kernel)
set_option maxRecDepth 20000 in
theorem gX6_afterLetter_X7_at : GoodIn wsX6_afterLetter (wsV RX6 83 RX7 yX7_at wsX7_at) := goodIn_app (goodIn_of _ (by decide +kernel)) ggX6_afterLetter_X7_at
set_option maxRecDepth 20000 in
theorem ggX6_afterLetter_X10_withLetter : GoodIn wsX6_afterLetter wsX10_withLetter := goodIn_r _ [12] (by decide +kernel) (by decide +kernel)
set_option maxRecDepth 20000 in
theorem gX6_afterLetter_X10_withLetter_n69 : GoodIn wsX6_afterLetter (wsX10_withLetter) := ggX6_afterLetter_X10_withLetter
set_option maxRecDepth 20000 in
theorem ggX6_afterLetter_X7_put : GoodIn wsX6_afterLetter wsX7_put := goodIn_r _ [16, 9, 30] (by decide +kernel) (by decide +kernel)
set_option maxRecDepth 20000 in
theorem gX6_afterLetter_X7_put : GoodIn wsX6_afterLetter (wsV RX6 87 RX7 yX7_put wsX7_put) := goodIn_app (goodIn_of _ (by decide +kernel)) ggX6_afterLetter_X7_put
theorem dX6_afterLetter_0 : decode cX6_afterLetter 0 = .ok (.iload_n 1, 1) := by decide +kernel
theorem dX6_afterLetter_1 : decode cX6_afterLetter 1 = .ok (.bipush 97, 2) := by decide +kernel
theorem dX6_afterLetter_3 : decode cX6_afterLetter 3 = .ok (.if_icmp .lt 18, 3) := by decide +kernel
theorem dX6_afterLetter_6 : decode cX6_afterLetter 6 = .ok (.iload_n 1, 1) := by decide +kernel
theorem dX6_afterLetter_7 : decode cX6_afterLetter 7 = .ok (.bipush 122, 2) := by decide +kernel
theorem dX6_afterLetter_9 : decode cX6_afterLetter 9 = .ok (.if_icmp .gt 12, 3) := by decide +kernel
theorem dX6_afterLetter_12 : decode cX6_afterLetter 12 = .ok (.aload_n 0, 1) := by decide +kernel
theorem dX6_afterLetter_13 : decode cX6_afterLetter 13 = .ok (.getfield 77, 3) := by decide +kernel
theorem dX6_afterLetter_16 : decode cX6_afterLetter 16 = .ok (.bipush 7, 2) := by decide +kernel
theorem dX6_afterLetter_18 : decode cX6_afterLetter 18 = .ok (.if_icmp .lt 5, 3) := by decide +kernel
theorem dX6_afterLetter_21 : decode cX6_afterLetter 21 = .ok (.iconst 0, 1) := by decide +kernel
theorem dX6_afterLetter_22 : decode cX6_afterLetter 22 = .ok (.ireturn, 1) := by decide +kernel
theorem dX6_afterLetter_23 : decode cX6_afterLetter 23 = .ok (.aload_n 0, 1) := by decide +kernel
theorem dX6_afterLetter_24 : decode cX6_afterLetter 24 = .ok (.getfield 12, 3) := by decide +kernel
theorem dX6_afterLetter_27 : decode cX6_afterLetter 27 = .ok (.getfield 63, 3) := by decide +kernel
theorem dX6_afterLetter_30 : decode cX6_afterLetter 30 = .ok (.iconst 1, 1) := by decide +kernel
theorem dX6_afterLetter_31 : decode cX6_afterLetter 31 = .ok (.isub, 1) := by decide +kernel
theorem dX6_afterLetter_32 : decode cX6_afterLetter 32 = .ok (.istore_n 2, 1) := by decide +kernel
theorem dX6_afterLetter_33 : decode cX6_afterLetter 33 = .ok (.aload_n 0, 1) := by decide +kernel
theorem dX6_afterLetter_34 : decode cX6_afterLetter 34 = .ok (.getfield 12, 3) := by decide +kernel
theorem dX6_afterLetter_37 : decode cX6_afterLetter 37 = .ok (.getfield 80, 3) := by decide +kernel
theorem dX6_afterLetter_40 : decode cX6_afterLetter 40 = .ok (.iload_n 2, 1) := by decide +kernel
theorem dX6_afterLetter_41 : decode cX6_afterLetter 41 = .ok (.aload_n 0, 1) := by decide +kernel
theorem dX6_afterLetter_42 : decode cX6_afterLetter 42 = .ok (.getfield 12, 3) := by decide +kernel
theorem dX6_afterLetter_45 : decode cX6_afterLetter 45 = .ok (.getfield 80, 3) := by decide +kernel
theorem dX6_afterLetter_48 : decode cX6_afterLetter 48 = .ok (.iload_n 2, 1) := by decide +kernel
theorem dX6_afterLetter_49 : decode cX6_afterLetter 49 = .ok (.invokevirtual 83, 3) := by decide +kernel
theorem dX6_afterLetter_52 : decode cX6_afterLetter 52 = .ok (.aload_n 0, 1) := by decide +kernel
theorem dX6_afterLetter_53 : decode cX6_afterLetter 53 = .ok (.getfield 77, 3) := by decide +kernel
theorem dX6_afterLetter_56 : decode cX6_afterLetter 56 = .ok (.iload_n 1, 1) := by decide +kernel
theorem dX6_afterLetter_57 : decode cX6_afterLetter 57 = .ok (.invokestatic 69, 3) := by decide +kernel
theorem dX6_afterLetter_60 : decode cX6_afterLetter 60 = .ok (.invokevirtual 87, 3) := by decide +kernel
theorem dX6_afterLetter_63 : decode cX6_afterLetter 63 = .ok (.aload_n 0, 1) := by decide +kernel
theorem dX6_afterLetter_64 : decode cX6_afterLetter 64 = .ok (.dup, 1) := by decide +kernel
theorem dX6_afterLetter_65 : decode cX6_afterLetter 65 = .ok (.getfield 77, 3) := by decide +kernel
theorem dX6_afterLetter_68 : decode cX6_afterLetter 68 = .ok (.iconst 1, 1) := by decide +kernel
theorem dX6_afterLetter_69 : decode cX6_afterLetter 69 = .ok (.iadd, 1) := by decide +kernel
theorem dX6_afterLetter_70 : decode cX6_afterLetter 70 = .ok (.putfield 77, 3) := by decide +kernel
theorem dX6_afterLetter_73 : decode cX6_afterLetter 73 = .ok (.aload_n 0, 1) := by decide +kernel
theorem dX6_afterLetter_74 : decode cX6_afterLetter 74 = .ok (.getfield 25, 3) := by decide +kernel
theorem dX6_afterLetter_77 : decode cX6_afterLetter 77 = .ok (.ireturn, 1) := by decide +kernel
set_option maxRecDepth 20000 in
theorem ggX6_afterFirstDigit_X4_addQuotation : GoodIn wsX6_afterFirstDigit wsX4_addQuotation := goodIn_r _ [7, 8, 9, 10, 11, 12, 13, 14, 15, 16, 17, 18, 24, 25, 26, 27, 28, 29, 30, 31, 32] (by decide +kernel) (by decide +kernel)
set_option maxRecDepth 20000 in
theorem gX6_afterFirstDigit_X4_addQuotation : GoodIn wsX6_afterFirstDigit (wsV RX6 91 RX4 yX4_addQuotation wsX4_addQuotation) := goodIn_app (goodIn_of _ (by decide +kernel)) ggX6_afterFirstDigit_X4_addQuotation
theorem dX6_afterFirstDigit_0 : decode cX6_afterFirstDigit 0 = .ok (.iload_n 1, 1) := by decide +kernel
theorem dX6_afterFirstDigit_1 : decode cX6_afterFirstDigit 1 = .ok (.bipush 48, 2) := by decide +kernel
theorem dX6_afterFirstDigit_3 : decode cX6_afterFirstDigit 3 = .ok (.if_icmp .lt 9, 3) := by decide +kernel
theorem dX6_afterFirstDigit_6 : decode cX6_afterFirstDigit 6 = .ok (.iload_n 1, 1) := by decide +kernel
theorem dX6_afterFirstDigit_7 : decode cX6_afterFirstDigit 7 = .ok (.bipush 57, 2) := by decide +kernel
theorem dX6_afterFirstDigit_9 : decode cX6_afterFirstDigit 9 = .ok (.if_icmp .le 5, 3) := by decide +kernel
theorem dX6_afterFirstDigit_12 : decode cX6_afterFirstDigit 12 = .ok (.iconst 0, 1) := by decide +kernel
theorem dX6_afterFirstDigit_13 : decode cX6_afterFirstDigit 13 = .ok (.ireturn, 1) := by decide +kernel
theorem dX6_afterFirstDigit_14 : decode cX6_afterFirstDigit 14 = .ok (.aload_n 0, 1) := by decide +kernel
theorem dX6_afterFirstDigit_15 : decode cX6_afterFirstDigit 15 = .ok (.getfield 12, 3) := by decide +kernel
theorem dX6_afterFirstDigit_18 : decode cX6_afterFirstDigit 18 = .ok (.iload_n 1, 1) := by decide +kernel
theorem dX6_afterFirstDigit_19 : decode cX6_afterFirstDigit 19 = .ok (.bipush 48, 2) := by decide +kernel
theorem dX6_afterFirstDigit_21 : decode cX6_afterFirstDigit 21 = .ok (.isub, 1) := by decide +kernel
theorem dX6_afterFirstDigit_22 : decode cX6_afterFirstDigit 22 = .ok (.aload_n 0, 1) := by decide +kernel
theorem dX6_afterFirstDigit_23 : decode cX6_afterFirstDigit 23 = .ok (.getfield 66, 3) := by decide +kernel
theorem dX6_afterFirstDigit_26 : decode cX6_afterFirstDigit 26 = .ok (.invokevirtual 91, 3) := by decide +kernel
theorem dX6_afterFirstDigit_29 : decode cX6_afterFirstDigit 29 = .ok (.iload_n 1, 1) := by decide +kernel
theorem dX6_afterFirstDigit_30 : decode cX6_afterFirstDigit 30 = .ok (.bipush 49, 2) := by decide +kernel
theorem dX6_afterFirstDigit_32 : decode cX6_afterFirstDigit 32 = .ok (.if_icmp .ne 8, 3) := by decide +kernel
theorem dX6_afterFirstDigit_35 : decode cX6_afterFirstDigit 35 = .ok (.bipush 7, 2) := by decide +kernel
theorem dX6_afterFirstDigit_37 : decode cX6_afterFirstDigit 37 = .ok (.goto 5, 3) := by decide +kernel
theorem dX6_afterFirstDigit_40 : decode cX6_afterFirstDigit 40 = .ok (.bipush 8, 2) := by decide +kernel
theorem dX6_afterFirstDigit_42 : decode cX6_afterFirstDigit 42 = .ok (.ireturn, 1) := by decide +kernel
set_option maxRecDepth 20000 in
theorem ggX6_afterSecondDigit_X7_put : GoodIn wsX6_afterSecondDigit wsX7_put := goodIn_r _ [6, 7, 21] (by decide +kernel) (by decide +kernel)
set_option maxRecDepth 20000 in
theorem gX6_afterSecondDigit_X7_put : GoodIn wsX6_afterSecondDigit (wsV RX6 87 RX7 yX7_put wsX7_put) := goodIn_app (goodIn_of _ (by decide +kernel)) ggX6_afterSecondDigit_X7_put
theorem dX6_afterSecondDigit_0 : decode cX6_afterSecondDigit 0 = .ok (.iload_n 1, 1) := by decide +kernel
theorem dX6_afterSecondDigit_1 : decode cX6_afterSecondDigit 1 = .ok (.bipush 48, 2) := by decide +kernel
theorem dX6_afterSecondDigit_3 : decode cX6_afterSecondDigit 3 = .ok (.if_icmp .lt 9, 3) := by decide +kernel
theorem dX6_afterSecondDigit_6 : decode cX6_afterSecondDigit 6 = .ok (.iload_n 1, 1) := by decide +kernel
theorem dX6_afterSecondDigit_7 : decode cX6_afterSecondDigit 7 = .ok (.bipush 57, 2) := by decide +kernel
theorem dX6_afterSecondDigit_9 : decode cX6_afterSecondDigit 9 = .ok (.if_icmp .le 5, 3) := by decide +kernel
theorem dX6_afterSecondDigit_12 : decode cX6_afterSecondDigit 12 = .ok (.iconst 0, 1) := by decide +kernel
theorem dX6_afterSecondDigit_13 : decode cX6_afterSecondDigit 13 = .ok (.ireturn, 1) := by decide +kernel
theorem dX6_afterSecondDigit_14 : decode cX6_afterSecondDigit 14 = .ok (.aload_n 0, 1) := by decide +kernel
theorem dX6_afterSecondDigit_15 : decode cX6_afterSecondDigit 15 = .ok (.getfield 12, 3) := by decide +kernel
theorem dX6_afterSecondDigit_18 : decode cX6_afterSecondDigit 18 = .ok (.getfield 95, 3) := by decide +kernel
theorem dX6_afterSecondDigit_21 : decode cX6_afterSecondDigit 21 = .ok (.aload_n 0, 1) := by decide +kernel
theorem dX6_afterSecondDigit_22 : decode cX6_afterSecondDigit 22 = .ok (.getfield 12, 3) := by decide +kernel
theorem dX6_afterSecondDigit_25 : decode cX6_afterSecondDigit 25 = .ok (.getfield 98, 3) := by decide +kernel
theorem dX6_afterSecondDigit_28 : decode cX6_afterSecondDigit 28 = .ok (.iconst 1, 1) := by decide +kernel
theorem dX6_afterSecondDigit_29 : decode cX6_afterSecondDigit 29 = .ok (.isub, 1) := by decide +kernel
theorem dX6_afterSecondDigit_30 : decode cX6_afterSecondDigit 30 = .ok (.bipush 10, 2) := by decide +kernel
theorem dX6_afterSecondDigit_32 : decode cX6_afterSecondDigit 32 = .ok (.iload_n 1, 1) := by decide +kernel
theorem dX6_afterSecondDigit_33 : decode cX6_afterSecondDigit 33 = .ok (.iadd, 1) := by decide +kernel
theorem dX6_afterSecondDigit_34 : decode cX6_afterSecondDigit 34 = .ok (.bipush 48, 2) := by decide +kernel
theorem dX6_afterSecondDigit_36 : decode cX6_afterSecondDigit 36 = .ok (.isub, 1) := by decide +kernel
theorem dX6_afterSecondDigit_37 : decode cX6_afterSecondDigit 37 = .ok (.i2l, 1) := by decide +kernel
theorem dX6_afterSecondDigit_38 : decode cX6_afterSecondDigit 38 = .ok (.invokevirtual 87, 3) := by decide +kernel
theorem dX6_afterSecondDigit_41 : decode cX6_afterSecondDigit 41 = .ok (.bipush 8, 2) := by decide +kernel
theorem dX6_afterSecondDigit_43 : decode cX6_afterSecondDigit 43 = .ok (.ireturn, 1) := by decide +kernel
theorem dX7_init_0 : decode cX7_init 0 = .ok (.aload_n 0, 1) := by decide +kernel
theorem dX7_init_1 : decode cX7_init 1 = .ok (.invokespecial 1, 3) := by decide +kernel
theorem dX7_init_4 : decode cX7_init 4 = .ok (.aload_n 0, 1) := by decide +kernel
theorem dX7_init_5 : decode cX7_init 5 = .ok (.iload_n 1, 1) := by decide +kernel
theorem dX7_init_6 : decode cX7_init 6 = .ok (.iconst 0, 1) := by decide +kernel
theorem dX7_init_7 : decode cX7_init 7 = .ok (.invokestatic 7, 3) := by decide +kernel
theorem dX7_init_10 : decode cX7_init 10 = .ok (.newarray .long, 2) := by decide +kernel
theorem dX7_init_12 : decode cX7_init 12 = .ok (.putfield 13, 3) := by decide +kernel
theorem dX7_init_15 : decode cX7_init 15 = .ok (.return_, 1) := by decide +kernel
theorem dX7_at_0 : decode cX7_at 0 = .ok (.iload_n 1, 1) := by decide +kernel
theorem dX7_at_1 : decode cX7_at 1 = .ok (.ifCond .lt 21, 3) := by decide +kernel
theorem dX7_at_4 : decode cX7_at 4 = .ok (.iload_n 1, 1) := by decide +kernel
theorem dX7_at_5 : decode cX7_at 5 = .ok (.aload_n 0, 1) := by decide +kernel
theorem dX7_at_6 : decode cX7_at 6 = .ok (.getfield 13, 3) := by decide +kernel
theorem dX7_at_9 : decode cX7_at 9 = .ok (.arraylength, 1) := by decide +kernel
theorem dX7_at_10 : decode cX7_at 10 = .ok (.if_icmp .ge 12, 3) := by decide +kernel
theorem dX7_at_13 : decode cX7_at 13 = .ok (.aload_n 0, 1) := by decide +kernel
theorem dX7_at_14 : decode cX7_at 14 = .ok (.getfield 13, 3) := by decide +kernel
theorem dX7_at_17 : decode cX7_at 17 = .ok (.iload_n 1, 1) := by decide +kernel
theorem dX7_at_18 : decode cX7_at 18 = .ok (.laload, 1) := by decide +kernel
theorem dX7_at_19 : decode cX7_at 19 = .ok (.goto 4, 3) := by decide +kernel
theorem dX7_at_22 : decode cX7_at 22 = .ok (.lconst 0, 1) := by decide +kernel
theorem dX7_at_23 : decode cX7_at 23 = .ok (.lreturn, 1) := by decide +kernel
theorem dX7_number_0 : decode cX7_number 0 = .ok (.iload_n 1, 1) := by decide +kernel
theorem dX7_number_1 : decode cX7_number 1 = .ok (.ifCond .lt 22, 3) := by decide +kernel
theorem dX7_number_4 : decode cX7_number 4 = .ok (.iload_n 1, 1) := by decide +kernel
theorem dX7_number_5 : decode cX7_number 5 = .ok (.aload_n 0, 1) := by decide +kernel
theorem dX7_number_6 : decode cX7_number 6 = .ok (.getfield 13, 3) := by decide +kernel
theorem dX7_number_9 : decode cX7_number 9 = .ok (.arraylength, 1) := by decide +kernel
theorem dX7_number_10 : decode cX7_number 10 = .ok (.if_icmp .ge 13, 3) := by decide +kernel
theorem dX7_number_13 : decode cX7_number 13 = .ok (.aload_n 0, 1) := by decide +kernel
theorem dX7_number_14 : decode cX7_number 14 = .ok (.getfield 13, 3) := by decide +kernel
theorem dX7_number_17 : decode cX7_number 17 = .ok (.iload_n 1, 1) := by decide +kernel
theorem dX7_number_18 : decode cX7_number 18 = .ok (.laload, 1) := by decide +kernel
theorem dX7_number_19 : decode cX7_number 19 = .ok (.l2i, 1) := by decide +kernel
theorem dX7_number_20 : decode cX7_number 20 = .ok (.goto 4, 3) := by decide +kernel
theorem dX7_number_23 : decode cX7_number 23 = .ok (.iconst 0, 1) := by decide +kernel
theorem dX7_number_24 : decode cX7_number 24 = .ok (.ireturn, 1) := by decide +kernel
theorem dX7_put_0 : decode cX7_put 0 = .ok (.iload_n 1, 1) := by decide +kernel
theorem dX7_put_1 : decode cX7_put 1 = .ok (.ifCond .lt 19, 3) := by decide +kernel
theorem dX7_put_4 : decode cX7_put 4 = .ok (.iload_n 1, 1) := by decide +kernel
theorem dX7_put_5 : decode cX7_put 5 = .ok (.aload_n 0, 1) := by decide +kernel
theorem dX7_put_6 : decode cX7_put 6 = .ok (.getfield 13, 3) := by decide +kernel
theorem dX7_put_9 : decode cX7_put 9 = .ok (.arraylength, 1) := by decide +kernel
theorem dX7_put_10 : decode cX7_put 10 = .ok (.if_icmp .ge 10, 3) := by decide +kernel
theorem dX7_put_13 : decode cX7_put 13 = .ok (.aload_n 0, 1) := by decide +kernel
theorem dX7_put_14 : decode cX7_put 14 = .ok (.getfield 13, 3) := by decide +kernel
theorem dX7_put_17 : decode cX7_put 17 = .ok (.iload_n 1, 1) := by decide +kernel
theorem dX7_put_18 : decode cX7_put 18 = .ok (.lload_n 2, 1) := by decide +kernel
theorem dX7_put_19 : decode cX7_put 19 = .ok (.lastore, 1) := by decide +kernel
theorem dX7_put_20 : decode cX7_put 20 = .ok (.return_, 1) := by decide +kernel
theorem dX7_copy_0 : decode cX7_copy 0 = .ok (.iload_n 2, 1) := by decide +kernel
theorem dX7_copy_1 : decode cX7_copy 1 = .ok (.ifCond .le 35, 3) := by decide +kernel
theorem dX7_copy_4 : decode cX7_copy 4 = .ok (.iload_n 2, 1) := by decide +kernel
theorem dX7_copy_5 : decode cX7_copy 5 = .ok (.aload_n 0, 1) := by decide +kernel
theorem dX7_copy_6 : decode cX7_copy 6 = .ok (.getfield 13, 3) := by decide +kernel
theorem dX7_copy_9 : decode cX7_copy 9 = .ok (.arraylength, 1) := by decide +kernel
theorem dX7_copy_10 : decode cX7_copy 10 = .ok (.if_icmp .gt 26, 3) := by decide +kernel
theorem dX7_copy_13 : decode cX7_copy 13 = .ok (.iload_n 2, 1) := by decide +kernel
theorem dX7_copy_14 : decode cX7_copy 14 = .ok (.aload_n 1, 1) := by decide +kernel
theorem dX7_copy_15 : decode cX7_copy 15 = .ok (.getfield 13, 3) := by decide +kernel
theorem dX7_copy_18 : decode cX7_copy 18 = .ok (.arraylength, 1) := by decide +kernel
theorem dX7_copy_19 : decode cX7_copy 19 = .ok (.if_icmp .gt 17, 3) := by decide +kernel
theorem dX7_copy_22 : decode cX7_copy 22 = .ok (.aload_n 1, 1) := by decide +kernel
theorem dX7_copy_23 : decode cX7_copy 23 = .ok (.getfield 13, 3) := by decide +kernel
theorem dX7_copy_26 : decode cX7_copy 26 = .ok (.iconst 0, 1) := by decide +kernel
theorem dX7_copy_27 : decode cX7_copy 27 = .ok (.aload_n 0, 1) := by decide +kernel
theorem dX7_copy_28 : decode cX7_copy 28 = .ok (.getfield 13, 3) := by decide +kernel
theorem dX7_copy_31 : decode cX7_copy 31 = .ok (.iconst 0, 1) := by decide +kernel
theorem dX7_copy_32 : decode cX7_copy 32 = .ok (.iload_n 2, 1) := by decide +kernel
theorem dX7_copy_33 : decode cX7_copy 33 = .ok (.invokestatic 19, 3) := by decide +kernel
theorem dX7_copy_36 : decode cX7_copy 36 = .ok (.return_, 1) := by decide +kernel
theorem dX7_move_0 : decode cX7_move 0 = .ok (.iload_n 1, 1) := by decide +kernel
theorem dX7_move_1 : decode cX7_move 1 = .ok (.ifCond .lt 47, 3) := by decide +kernel
theorem dX7_move_4 : decode cX7_move 4 = .ok (.iload_n 2, 1) := by decide +kernel
theorem dX7_move_5 : decode cX7_move 5 = .ok (.ifCond .lt 43, 3) := by decide +kernel
theorem dX7_move_8 : decode cX7_move 8 = .ok (.iload_n 3, 1) := by decide +kernel
theorem dX7_move_9 : decode cX7_move 9 = .ok (.ifCond .le 39, 3) := by decide +kernel
theorem dX7_move_12 : decode cX7_move 12 = .ok (.iload_n 3, 1) := by decide +kernel
theorem dX7_move_13 : decode cX7_move 13 = .ok (.aload_n 0, 1) := by decide +kernel
theorem dX7_move_14 : decode cX7_move 14 = .ok (.getfield 13, 3) := by decide +kernel
theorem dX7_move_17 : decode cX7_move 17 = .ok (.arraylength, 1) := by decide +kernel
theorem dX7_move_18 : decode cX7_move 18 = .ok (.iload_n 1, 1) := by decide +kernel
theorem dX7_move_19 : decode cX7_move 19 = .ok (.isub, 1) := by decide +kernel
theorem dX7_move_20 : decode cX7_move 20 = .ok (.if_icmp .gt 28, 3) := by decide +kernel
theorem dX7_move_23 : decode cX7_move 23 = .ok (.iload_n 3, 1) := by decide +kernel
theorem dX7_move_24 : decode cX7_move 24 = .ok (.aload_n 0, 1) := by decide +kernel
theorem dX7_move_25 : decode cX7_move 25 = .ok (.getfield 13, 3) := by decide +kernel
theorem dX7_move_28 : decode cX7_move 28 = .ok (.arraylength, 1) := by decide +kernel
theorem dX7_move_29 : decode cX7_move 29 = .ok (.iload_n 2, 1) := by decide +kernel
theorem dX7_move_30 : decode cX7_move 30 = .ok (.isub, 1) := by decide +kernel
theorem dX7_move_31 : decode cX7_move 31 = .ok (.if_icmp .gt 17, 3) := by decide +kernel
theorem dX7_move_34 : decode cX7_move 34 = .ok (.aload_n 0, 1) := by decide +kernel
theorem dX7_move_35 : decode cX7_move 35 = .ok (.getfield 13, 3) := by decide +kernel
theorem dX7_move_38 : decode cX7_move 38 = .ok (.iload_n 1, 1) := by decide +kernel
theorem dX7_move_39 : decode cX7_move 39 = .ok (.aload_n 0, 1) := by decide +kernel
theorem dX7_move_40 : decode cX7_move 40 = .ok (.getfield 13, 3) := by decide +kernel
theorem dX7_move_43 : decode cX7_move 43 = .ok (.iload_n 2, 1) := by decide +kernel
theorem dX7_move_44 : decode cX7_move 44 = .ok (.iload_n 3, 1) := by decide +kernel
theorem dX7_move_45 : decode cX7_move 45 = .ok (.invokestatic 19, 3) := by decide +kernel
theorem dX7_move_48 : decode cX7_move 48 = .ok (.return_, 1) := by decide +kernel
set_option maxRecDepth 20000 in
theorem ggX8_init_X7_init : GoodIn wsX8_init wsX7_init := goodIn_r _ [10, 11, 2, 3, 12, 13, 14, 15, 16, 17, 18] (by decide +kernel) (by decide +kernel)
set_option maxRecDepth 20000 in
theorem gX8_init_X7_init : GoodIn wsX8_init (wsX7_init) := ggX8_init_X7_init
theorem dX8_init_0 : decode cX8_init 0 = .ok (.aload_n 0, 1) := by decide +kernel
theorem dX8_init_1 : decode cX8_init 1 = .ok (.invokespecial 3, 3) := by decide +kernel
theorem dX8_init_4 : decode cX8_init 4 = .ok (.aload_n 0, 1) := by decide +kernel
theorem dX8_init_5 : decode cX8_init 5 = .ok (.new 9, 3) := by decide +kernel
theorem dX8_init_8 : decode cX8_init 8 = .ok (.dup, 1) := by decide +kernel
theorem dX8_init_9 : decode cX8_init 9 = .ok (.bipush 61, 2) := by decide +kernel
theorem dX8_init_11 : decode cX8_init 11 = .ok (.invokespecial 11, 3) := by decide +kernel
theorem dX8_init_14 : decode cX8_init 14 = .ok (.putfield 14, 3) := by decide +kernel
theorem dX8_init_17 : decode cX8_init 17 = .ok (.return_, 1) := by decide +kernel
set_option maxRecDepth 20000 in
theorem ggX8_byTable_X7_number : GoodIn wsX8_byTable wsX7_number := goodIn_r _ [6, 7, 44] (by decide +kernel) (by decide +kernel)
set_option maxRecDepth 20000 in
theorem gX8_byTable_X7_number : GoodIn wsX8_byTable (wsV RX8 25 RX7 yX7_number wsX7_number) := goodIn_app (goodIn_of _ (by decide +kernel)) ggX8_byTable_X7_number
set_option maxRecDepth 20000 in
theorem ggX8_byTable_X7_put : GoodIn wsX8_byTable wsX7_put := goodIn_r _ [11, 7, 44] (by decide +kernel) (by decide +kernel)
set_option maxRecDepth 20000 in
theorem gX8_byTable_X7_put : GoodIn wsX8_byTable (wsV RX8 36 RX7 yX7_put wsX7_put) := goodIn_app (goodIn_of _ (by decide +kernel)) ggX8_byTable_X7_put
set_option maxRecDepth 20000 in
theorem ggX8_byTable_X7_at : GoodIn wsX8_byTable wsX7_at := goodIn_r _ [15, 7, 44] (by decide +kernel) (by decide +kernel)
set_option maxRecDepth 20000 in
theorem gX8_byTable_X7_at : GoodIn wsX8_byTable (wsV RX8 43 RX7 yX7_at wsX7_at) := goodIn_app (goodIn_of _ (by decide +kernel)) ggX8_byTable_X7_at
set_option maxRecDepth 20000 in
theorem ggX8_byTable_X8_takeWord : GoodIn wsX8_byTable wsX8_takeWord := goodIn_r _ [20, 1, 21, 22, 23, 24, 2, 3, 4, 5, 6, 7, 8, 9, 10, 11, 12, 13, 14, 15, 40, 41, 42, 43, 32, 33, 34, 35, 36, 37, 38, 39, 44] (by decide +kernel) (by decide +kernel)
set_option maxRecDepth 20000 in
theorem gX8_byTable_X8_takeWord : GoodIn wsX8_byTable (wsV RX8 47 RX8 yX8_takeWord wsX8_takeWord) := goodIn_app (goodIn_of _ (by decide +kernel)) ggX8_byTable_X8_takeWord
set_option maxRecDepth 20000 in
theorem ggX8_byTable_X8_chooseEnd : GoodIn wsX8_byTable wsX8_chooseEnd := goodIn_r _ [28, 1, 29, 30, 31, 2, 3, 4, 5, 6, 7, 40, 41, 42, 43, 44] (by decide +kernel) (by decide +kernel)
set_option maxRecDepth 20000 in
theorem gX8_byTable_X8_chooseEnd : GoodIn wsX8_byTable (wsV RX8 51 RX8 yX8_chooseEnd wsX8_chooseEnd) := goodIn_app (goodIn_of _ (by decide +kernel)) ggX8_byTable_X8_chooseEnd
theorem dX8_byTable_0 : decode cX8_byTable 0 = .ok (.aload_n 1, 1) := by decide +kernel
theorem dX8_byTable_1 : decode cX8_byTable 1 = .ok (.getfield 20, 3) := by decide +kernel
theorem dX8_byTable_4 : decode cX8_byTable 4 = .ok (.iload_n 2, 1) := by decide +kernel
theorem dX8_byTable_5 : decode cX8_byTable 5 = .ok (.invokevirtual 25, 3) := by decide +kernel
theorem dX8_byTable_8 : decode cX8_byTable 8 = .ok (.istore 4, 2) := by decide +kernel
theorem dX8_byTable_10 : decode cX8_byTable 10 = .ok (.iload 4, 2) := by decide +kernel
theorem dX8_byTable_12 : decode cX8_byTable 12 = .ok (.aload_n 1, 1) := by decide +kernel
theorem dX8_byTable_13 : decode cX8_byTable 13 = .ok (.getfield 29, 3) := by decide +kernel
theorem dX8_byTable_16 : decode cX8_byTable 16 = .ok (.iload_n 2, 1) := by decide +kernel
theorem dX8_byTable_17 : decode cX8_byTable 17 = .ok (.invokevirtual 25, 3) := by decide +kernel
theorem dX8_byTable_20 : decode cX8_byTable 20 = .ok (.iadd, 1) := by decide +kernel
theorem dX8_byTable_21 : decode cX8_byTable 21 = .ok (.istore 5, 2) := by decide +kernel
theorem dX8_byTable_23 : decode cX8_byTable 23 = .ok (.iconst 0, 1) := by decide +kernel
theorem dX8_byTable_24 : decode cX8_byTable 24 = .ok (.istore 6, 2) := by decide +kernel
theorem dX8_byTable_26 : decode cX8_byTable 26 = .ok (.iload 6, 2) := by decide +kernel
theorem dX8_byTable_28 : decode cX8_byTable 28 = .ok (.aload_n 3, 1) := by decide +kernel
theorem dX8_byTable_29 : decode cX8_byTable 29 = .ok (.getfield 32, 3) := by decide +kernel
theorem dX8_byTable_32 : decode cX8_byTable 32 = .ok (.if_icmp .gt 21, 3) := by decide +kernel
theorem dX8_byTable_35 : decode cX8_byTable 35 = .ok (.aload_n 0, 1) := by decide +kernel
theorem dX8_byTable_36 : decode cX8_byTable 36 = .ok (.getfield 14, 3) := by decide +kernel
theorem dX8_byTable_39 : decode cX8_byTable 39 = .ok (.iload 6, 2) := by decide +kernel
theorem dX8_byTable_41 : decode cX8_byTable 41 = .ok (.iload 6, 2) := by decide +kernel
theorem dX8_byTable_43 : decode cX8_byTable 43 = .ok (.i2l, 1) := by decide +kernel
theorem dX8_byTable_44 : decode cX8_byTable 44 = .ok (.invokevirtual 36, 3) := by decide +kernel
theorem dX8_byTable_47 : decode cX8_byTable 47 = .ok (.iinc 6 1, 3) := by decide +kernel
theorem dX8_byTable_50 : decode cX8_byTable 50 = .ok (.goto (-24), 3) := by decide +kernel
theorem dX8_byTable_53 : decode cX8_byTable 53 = .ok (.iload 4, 2) := by decide +kernel
theorem dX8_byTable_55 : decode cX8_byTable 55 = .ok (.istore 6, 2) := by decide +kernel
theorem dX8_byTable_57 : decode cX8_byTable 57 = .ok (.iload 6, 2) := by decide +kernel
theorem dX8_byTable_59 : decode cX8_byTable 59 = .ok (.iload 5, 2) := by decide +kernel
theorem dX8_byTable_61 : decode cX8_byTable 61 = .ok (.if_icmp .ge 28, 3) := by decide +kernel
theorem dX8_byTable_64 : decode cX8_byTable 64 = .ok (.aload_n 0, 1) := by decide +kernel
theorem dX8_byTable_65 : decode cX8_byTable 65 = .ok (.aload_n 1, 1) := by decide +kernel
theorem dX8_byTable_66 : decode cX8_byTable 66 = .ok (.getfield 40, 3) := by decide +kernel
theorem dX8_byTable_69 : decode cX8_byTable 69 = .ok (.iload 6, 2) := by decide +kernel
theorem dX8_byTable_71 : decode cX8_byTable 71 = .ok (.invokevirtual 43, 3) := by decide +kernel
theorem dX8_byTable_74 : decode cX8_byTable 74 = .ok (.aload_n 3, 1) := by decide +kernel
theorem dX8_byTable_75 : decode cX8_byTable 75 = .ok (.iconst 0, 1) := by decide +kernel
theorem dX8_byTable_76 : decode cX8_byTable 76 = .ok (.aload_n 3, 1) := by decide +kernel
theorem dX8_byTable_77 : decode cX8_byTable 77 = .ok (.getfield 32, 3) := by decide +kernel
theorem dX8_byTable_80 : decode cX8_byTable 80 = .ok (.invokevirtual 47, 3) := by decide +kernel
theorem dX8_byTable_83 : decode cX8_byTable 83 = .ok (.iinc 6 1, 3) := by decide +kernel
theorem dX8_byTable_86 : decode cX8_byTable 86 = .ok (.goto (-29), 3) := by decide +kernel
theorem dX8_byTable_89 : decode cX8_byTable 89 = .ok (.aload_n 0, 1) := by decide +kernel
theorem dX8_byTable_90 : decode cX8_byTable 90 = .ok (.aload_n 3, 1) := by decide +kernel
theorem dX8_byTable_91 : decode cX8_byTable 91 = .ok (.getfield 32, 3) := by decide +kernel
theorem dX8_byTable_94 : decode cX8_byTable 94 = .ok (.invokevirtual 51, 3) := by decide +kernel
theorem dX8_byTable_97 : decode cX8_byTable 97 = .ok (.return_, 1) := by decide +kernel
set_option maxRecDepth 20000 in
theorem ggX8_chooseEnd_X7_number : GoodIn wsX8_chooseEnd wsX7_number := goodIn_r _ [9, 10, 15] (by decide +kernel) (by decide +kernel)
set_option maxRecDepth 20000 in
theorem gX8_chooseEnd_X7_number : GoodIn wsX8_chooseEnd (wsV RX8 25 RX7 yX7_number wsX7_number) := goodIn_app (goodIn_of _ (by decide +kernel)) ggX8_chooseEnd_X7_number
theorem dX8_chooseEnd_0 : decode cX8_chooseEnd 0 = .ok (.iconst 1, 1) := by decide +kernel
theorem dX8_chooseEnd_1 : decode cX8_chooseEnd 1 = .ok (.istore_n 2, 1) := by decide +kernel
theorem dX8_chooseEnd_2 : decode cX8_chooseEnd 2 = .ok (.iconst 2, 1) := by decide +kernel
theorem dX8_chooseEnd_3 : decode cX8_chooseEnd 3 = .ok (.istore_n 3, 1) := by decide +kernel
theorem dX8_chooseEnd_4 : decode cX8_chooseEnd 4 = .ok (.iload_n 3, 1) := by decide +kernel
theorem dX8_chooseEnd_5 : decode cX8_chooseEnd 5 = .ok (.iload_n 1, 1) := by decide +kernel
theorem dX8_chooseEnd_6 : decode cX8_chooseEnd 6 = .ok (.if_icmp .gt 30, 3) := by decide +kernel
theorem dX8_chooseEnd_9 : decode cX8_chooseEnd 9 = .ok (.aload_n 0, 1) := by decide +kernel
theorem dX8_chooseEnd_10 : decode cX8_chooseEnd 10 = .ok (.getfield 14, 3) := by decide +kernel
theorem dX8_chooseEnd_13 : decode cX8_chooseEnd 13 = .ok (.iload_n 3, 1) := by decide +kernel
theorem dX8_chooseEnd_14 : decode cX8_chooseEnd 14 = .ok (.invokevirtual 25, 3) := by decide +kernel
theorem dX8_chooseEnd_17 : decode cX8_chooseEnd 17 = .ok (.aload_n 0, 1) := by decide +kernel
theorem dX8_chooseEnd_18 : decode cX8_chooseEnd 18 = .ok (.getfield 14, 3) := by decide +kernel
theorem dX8_chooseEnd_21 : decode cX8_chooseEnd 21 = .ok (.iload_n 2, 1) := by decide +kernel
theorem dX8_chooseEnd_22 : decode cX8_chooseEnd 22 = .ok (.invokevirtual 25, 3) := by decide +kernel
theorem dX8_chooseEnd_25 : decode cX8_chooseEnd 25 = .ok (.if_icmp .ge 5, 3) := by decide +kernel
theorem dX8_chooseEnd_28 : decode cX8_chooseEnd 28 = .ok (.iload_n 3, 1) := by decide +kernel
theorem dX8_chooseEnd_29 : decode cX8_chooseEnd 29 = .ok (.istore_n 2, 1) := by decide +kernel
theorem dX8_chooseEnd_30 : decode cX8_chooseEnd 30 = .ok (.iinc 3 1, 3) := by decide +kernel
theorem dX8_chooseEnd_33 : decode cX8_chooseEnd 33 = .ok (.goto (-29), 3) := by decide +kernel
theorem dX8_chooseEnd_36 : decode cX8_chooseEnd 36 = .ok (.aload_n 0, 1) := by decide +kernel
theorem dX8_chooseEnd_37 : decode cX8_chooseEnd 37 = .ok (.getfield 14, 3) := by decide +kernel
theorem dX8_chooseEnd_40 : decode cX8_chooseEnd 40 = .ok (.iload_n 2, 1) := by decide +kernel
theorem dX8_chooseEnd_41 : decode cX8_chooseEnd 41 = .ok (.invokevirtual 25, 3) := by decide +kernel
theorem dX8_chooseEnd_44 : decode cX8_chooseEnd 44 = .ok (.istore_n 3, 1) := by decide +kernel
theorem dX8_chooseEnd_45 : decode cX8_chooseEnd 45 = .ok (.aload_n 0, 1) := by decide +kernel
theorem dX8_chooseEnd_46 : decode cX8_chooseEnd 46 = .ok (.iload_n 3, 1) := by decide +kernel
theorem dX8_chooseEnd_47 : decode cX8_chooseEnd 47 = .ok (.bipush 64, 2) := by decide +kernel
theorem dX8_chooseEnd_49 : decode cX8_chooseEnd 49 = .ok (.idiv, 1) := by decide +kernel
theorem dX8_chooseEnd_50 : decode cX8_chooseEnd 50 = .ok (.putfield 54, 3) := by decide +kernel
theorem dX8_chooseEnd_53 : decode cX8_chooseEnd 53 = .ok (.aload_n 0, 1) := by decide +kernel
theorem dX8_chooseEnd_54 : decode cX8_chooseEnd 54 = .ok (.iload_n 3, 1) := by decide +kernel
theorem dX8_chooseEnd_55 : decode cX8_chooseEnd 55 = .ok (.bipush 64, 2) := by decide +kernel
theorem dX8_chooseEnd_57 : decode cX8_chooseEnd 57 = .ok (.irem, 1) := by decide +kernel
theorem dX8_chooseEnd_58 : decode cX8_chooseEnd 58 = .ok (.putfield 57, 3) := by decide +kernel
theorem dX8_chooseEnd_61 : decode cX8_chooseEnd 61 = .ok (.aload_n 0, 1) := by decide +kernel
theorem dX8_chooseEnd_62 : decode cX8_chooseEnd 62 = .ok (.iload_n 2, 1) := by decide +kernel
theorem dX8_chooseEnd_63 : decode cX8_chooseEnd 63 = .ok (.aload_n 0, 1) := by decide +kernel
theorem dX8_chooseEnd_64 : decode cX8_chooseEnd 64 = .ok (.getfield 57, 3) := by decide +kernel
theorem dX8_chooseEnd_67 : decode cX8_chooseEnd 67 = .ok (.isub, 1) := by decide +kernel
theorem dX8_chooseEnd_68 : decode cX8_chooseEnd 68 = .ok (.putfield 60, 3) := by decide +kernel
theorem dX8_chooseEnd_71 : decode cX8_chooseEnd 71 = .ok (.return_, 1) := by decide +kernel
set_option maxRecDepth 20000 in
theorem ggX8_byPassages_X7_number : GoodIn wsX8_byPassages wsX7_number := goodIn_r _ [9, 10, 37] (by decide +kernel) (by decide +kernel)
set_option maxRecDepth 20000 in
theorem gX8_byPassages_X7_number : GoodIn wsX8_byPassages (wsV RX8 25 RX7 yX7_number wsX7_number) := goodIn_app (goodIn_of _ (by decide +kernel)) ggX8_byPassages_X7_number
set_option maxRecDepth 20000 in
theorem ggX8_byPassages_X8_leastFrom : GoodIn wsX8_byPassages wsX8_leastFrom := goodIn_r _ [15, 16, 1, 2, 3, 4, 5, 6, 7, 8, 9, 10, 17, 18, 19, 20, 21, 22, 23, 24, 25, 26, 27, 14, 28, 29, 30, 31, 32, 33, 34, 35, 36, 38, 39, 40, 41, 37] (by decide +kernel) (by decide +kernel)
set_option maxRecDepth 20000 in
theorem gX8_byPassages_X8_leastFrom : GoodIn wsX8_byPassages (wsV RX8 63 RX8 yX8_leastFrom wsX8_leastFrom) := goodIn_app (goodIn_of _ (by decide +kernel)) ggX8_byPassages_X8_leastFrom
theorem dX8_byPassages_0 : decode cX8_byPassages 0 = .ok (.aload_n 1, 1) := by decide +kernel
theorem dX8_byPassages_1 : decode cX8_byPassages 1 = .ok (.getfield 29, 3) := by decide +kernel
theorem dX8_byPassages_4 : decode cX8_byPassages 4 = .ok (.iload_n 2, 1) := by decide +kernel
theorem dX8_byPassages_5 : decode cX8_byPassages 5 = .ok (.invokevirtual 25, 3) := by decide +kernel
theorem dX8_byPassages_8 : decode cX8_byPassages 8 = .ok (.istore 4, 2) := by decide +kernel
theorem dX8_byPassages_10 : decode cX8_byPassages 10 = .ok (.iload 4, 2) := by decide +kernel
theorem dX8_byPassages_12 : decode cX8_byPassages 12 = .ok (.istore 5, 2) := by decide +kernel
theorem dX8_byPassages_14 : decode cX8_byPassages 14 = .ok (.iconst 0, 1) := by decide +kernel
theorem dX8_byPassages_15 : decode cX8_byPassages 15 = .ok (.istore 6, 2) := by decide +kernel
theorem dX8_byPassages_17 : decode cX8_byPassages 17 = .ok (.iload 6, 2) := by decide +kernel
theorem dX8_byPassages_19 : decode cX8_byPassages 19 = .ok (.aload_n 3, 1) := by decide +kernel
theorem dX8_byPassages_20 : decode cX8_byPassages 20 = .ok (.getfield 32, 3) := by decide +kernel
theorem dX8_byPassages_23 : decode cX8_byPassages 23 = .ok (.if_icmp .ge 25, 3) := by decide +kernel
theorem dX8_byPassages_26 : decode cX8_byPassages 26 = .ok (.iload 5, 2) := by decide +kernel
theorem dX8_byPassages_28 : decode cX8_byPassages 28 = .ok (.aload_n 0, 1) := by decide +kernel
theorem dX8_byPassages_29 : decode cX8_byPassages 29 = .ok (.iload 6, 2) := by decide +kernel
theorem dX8_byPassages_31 : decode cX8_byPassages 31 = .ok (.aload_n 1, 1) := by decide +kernel
theorem dX8_byPassages_32 : decode cX8_byPassages 32 = .ok (.iload_n 2, 1) := by decide +kernel
theorem dX8_byPassages_33 : decode cX8_byPassages 33 = .ok (.aload_n 3, 1) := by decide +kernel
theorem dX8_byPassages_34 : decode cX8_byPassages 34 = .ok (.invokevirtual 63, 3) := by decide +kernel
theorem dX8_byPassages_37 : decode cX8_byPassages 37 = .ok (.invokestatic 67, 3) := by decide +kernel
theorem dX8_byPassages_40 : decode cX8_byPassages 40 = .ok (.istore 5, 2) := by decide +kernel
theorem dX8_byPassages_42 : decode cX8_byPassages 42 = .ok (.iinc 6 1, 3) := by decide +kernel
theorem dX8_byPassages_45 : decode cX8_byPassages 45 = .ok (.goto (-28), 3) := by decide +kernel
theorem dX8_byPassages_48 : decode cX8_byPassages 48 = .ok (.iload 5, 2) := by decide +kernel
theorem dX8_byPassages_50 : decode cX8_byPassages 50 = .ok (.ireturn, 1) := by decide +kernel
set_option maxRecDepth 20000 in
theorem ggX8_leastFrom_X7_number : GoodIn wsX8_leastFrom wsX7_number := goodIn_r _ [10, 11, 37] (by decide +kernel) (by decide +kernel)
set_option maxRecDepth 20000 in
theorem gX8_leastFrom_X7_number : GoodIn wsX8_leastFrom (wsV RX8 25 RX7 yX7_number wsX7_number) := goodIn_app (goodIn_of _ (by decide +kernel)) ggX8_leastFrom_X7_number
set_option maxRecDepth 20000 in
theorem ggX8_leastFrom_X7_put : GoodIn wsX8_leastFrom wsX7_put := goodIn_r _ [15, 11, 37] (by decide +kernel) (by decide +kernel)
set_option maxRecDepth 20000 in
theorem gX8_leastFrom_X7_put : GoodIn wsX8_leastFrom (wsV RX8 36 RX7 yX7_put wsX7_put) := goodIn_app (goodIn_of _ (by decide +kernel)) ggX8_leastFrom_X7_put
set_option maxRecDepth 20000 in
theorem ggX8_leastFrom_X7_at : GoodIn wsX8_leastFrom wsX7_at := goodIn_r _ [19, 11, 37] (by decide +kernel) (by decide +kernel)
set_option maxRecDepth 20000 in
theorem gX8_leastFrom_X7_at : GoodIn wsX8_leastFrom (wsV RX8 43 RX7 yX7_at wsX7_at) := goodIn_app (goodIn_of _ (by decide +kernel)) ggX8_leastFrom_X7_at
set_option maxRecDepth 20000 in
theorem ggX8_leastFrom_X8_takeWord : GoodIn wsX8_leastFrom wsX8_takeWord := goodIn_r _ [24, 1, 2, 3, 4, 5, 6, 7, 8, 9, 10, 11, 12, 13, 14, 15, 16, 17, 18, 19, 33, 34, 35, 36, 25, 26, 27, 28, 29, 30, 31, 32, 37] (by decide +kernel) (by decide +kernel)
set_option maxRecDepth 20000 in
theorem gX8_leastFrom_X8_takeWord : GoodIn wsX8_leastFrom (wsV RX8 47 RX8 yX8_takeWord wsX8_takeWord) := goodIn_app (goodIn_of _ (by decide +kernel)) ggX8_leastFrom_X8_takeWord
theorem dX8_leastFrom_0 : decode cX8_leastFrom 0 = .ok (.aload_n 2, 1) := by decide +kernel
theorem dX8_leastFrom_1 : decode cX8_leastFrom 1 = .ok (.getfield 20, 3) := by decide +kernel
theorem dX8_leastFrom_4 : decode cX8_leastFrom 4 = .ok (.iload_n 3, 1) := by decide +kernel
theorem dX8_leastFrom_5 : decode cX8_leastFrom 5 = .ok (.invokevirtual 25, 3) := by decide +kernel
theorem dX8_leastFrom_8 : decode cX8_leastFrom 8 = .ok (.istore 5, 2) := by decide +kernel
theorem dX8_leastFrom_10 : decode cX8_leastFrom 10 = .ok (.aload_n 2, 1) := by decide +kernel
theorem dX8_leastFrom_11 : decode cX8_leastFrom 11 = .ok (.getfield 29, 3) := by decide +kernel
theorem dX8_leastFrom_14 : decode cX8_leastFrom 14 = .ok (.iload_n 3, 1) := by decide +kernel
theorem dX8_leastFrom_15 : decode cX8_leastFrom 15 = .ok (.invokevirtual 25, 3) := by decide +kernel
theorem dX8_leastFrom_18 : decode cX8_leastFrom 18 = .ok (.istore 6, 2) := by decide +kernel
theorem dX8_leastFrom_20 : decode cX8_leastFrom 20 = .ok (.iconst 0, 1) := by decide +kernel
theorem dX8_leastFrom_21 : decode cX8_leastFrom 21 = .ok (.istore 7, 2) := by decide +kernel
theorem dX8_leastFrom_23 : decode cX8_leastFrom 23 = .ok (.iload 7, 2) := by decide +kernel
theorem dX8_leastFrom_25 : decode cX8_leastFrom 25 = .ok (.iload 6, 2) := by decide +kernel
theorem dX8_leastFrom_27 : decode cX8_leastFrom 27 = .ok (.if_icmp .gt 24, 3) := by decide +kernel
theorem dX8_leastFrom_30 : decode cX8_leastFrom 30 = .ok (.aload_n 0, 1) := by decide +kernel
theorem dX8_leastFrom_31 : decode cX8_leastFrom 31 = .ok (.getfield 14, 3) := by decide +kernel
theorem dX8_leastFrom_34 : decode cX8_leastFrom 34 = .ok (.iload 7, 2) := by decide +kernel
theorem dX8_leastFrom_36 : decode cX8_leastFrom 36 = .ok (.iload 7, 2) := by decide +kernel
theorem dX8_leastFrom_38 : decode cX8_leastFrom 38 = .ok (.bipush 64, 2) := by decide +kernel
theorem dX8_leastFrom_40 : decode cX8_leastFrom 40 = .ok (.imul, 1) := by decide +kernel
theorem dX8_leastFrom_41 : decode cX8_leastFrom 41 = .ok (.i2l, 1) := by decide +kernel
theorem dX8_leastFrom_42 : decode cX8_leastFrom 42 = .ok (.invokevirtual 36, 3) := by decide +kernel
theorem dX8_leastFrom_45 : decode cX8_leastFrom 45 = .ok (.iinc 7 1, 3) := by decide +kernel
theorem dX8_leastFrom_48 : decode cX8_leastFrom 48 = .ok (.goto (-25), 3) := by decide +kernel
theorem dX8_leastFrom_51 : decode cX8_leastFrom 51 = .ok (.iload 6, 2) := by decide +kernel
theorem dX8_leastFrom_53 : decode cX8_leastFrom 53 = .ok (.istore 7, 2) := by decide +kernel
theorem dX8_leastFrom_55 : decode cX8_leastFrom 55 = .ok (.iload_n 1, 1) := by decide +kernel
theorem dX8_leastFrom_56 : decode cX8_leastFrom 56 = .ok (.istore 8, 2) := by decide +kernel
theorem dX8_leastFrom_58 : decode cX8_leastFrom 58 = .ok (.iload 8, 2) := by decide +kernel
theorem dX8_leastFrom_60 : decode cX8_leastFrom 60 = .ok (.aload 4, 2) := by decide +kernel
theorem dX8_leastFrom_62 : decode cX8_leastFrom 62 = .ok (.getfield 32, 3) := by decide +kernel
theorem dX8_leastFrom_65 : decode cX8_leastFrom 65 = .ok (.if_icmp .ge 47, 3) := by decide +kernel
theorem dX8_leastFrom_68 : decode cX8_leastFrom 68 = .ok (.aload_n 0, 1) := by decide +kernel
theorem dX8_leastFrom_69 : decode cX8_leastFrom 69 = .ok (.aload 4, 2) := by decide +kernel
theorem dX8_leastFrom_71 : decode cX8_leastFrom 71 = .ok (.getfield 40, 3) := by decide +kernel
theorem dX8_leastFrom_74 : decode cX8_leastFrom 74 = .ok (.iload 8, 2) := by decide +kernel
theorem dX8_leastFrom_76 : decode cX8_leastFrom 76 = .ok (.invokevirtual 43, 3) := by decide +kernel
theorem dX8_leastFrom_79 : decode cX8_leastFrom 79 = .ok (.aload_n 2, 1) := by decide +kernel
theorem dX8_leastFrom_80 : decode cX8_leastFrom 80 = .ok (.iload 5, 2) := by decide +kernel
theorem dX8_leastFrom_82 : decode cX8_leastFrom 82 = .ok (.iload 6, 2) := by decide +kernel
theorem dX8_leastFrom_84 : decode cX8_leastFrom 84 = .ok (.invokevirtual 47, 3) := by decide +kernel
theorem dX8_leastFrom_87 : decode cX8_leastFrom 87 = .ok (.iload 7, 2) := by decide +kernel
theorem dX8_leastFrom_89 : decode cX8_leastFrom 89 = .ok (.aload_n 0, 1) := by decide +kernel
theorem dX8_leastFrom_90 : decode cX8_leastFrom 90 = .ok (.getfield 14, 3) := by decide +kernel
theorem dX8_leastFrom_93 : decode cX8_leastFrom 93 = .ok (.iload 6, 2) := by decide +kernel
theorem dX8_leastFrom_95 : decode cX8_leastFrom 95 = .ok (.invokevirtual 25, 3) := by decide +kernel
theorem dX8_leastFrom_98 : decode cX8_leastFrom 98 = .ok (.bipush 64, 2) := by decide +kernel
theorem dX8_leastFrom_100 : decode cX8_leastFrom 100 = .ok (.idiv, 1) := by decide +kernel
theorem dX8_leastFrom_101 : decode cX8_leastFrom 101 = .ok (.invokestatic 67, 3) := by decide +kernel
theorem dX8_leastFrom_104 : decode cX8_leastFrom 104 = .ok (.istore 7, 2) := by decide +kernel
theorem dX8_leastFrom_106 : decode cX8_leastFrom 106 = .ok (.iinc 8 1, 3) := by decide +kernel
theorem dX8_leastFrom_109 : decode cX8_leastFrom 109 = .ok (.goto (-51), 3) := by decide +kernel
theorem dX8_leastFrom_112 : decode cX8_leastFrom 112 = .ok (.iload 7, 2) := by decide +kernel
theorem dX8_leastFrom_114 : decode cX8_leastFrom 114 = .ok (.ireturn, 1) := by decide +kernel
set_option maxRecDepth 20000 in
theorem ggX8_takeWord_X7_number : GoodIn wsX8_takeWord wsX7_number := goodIn_r _ [10, 11, 32] (by decide +kernel) (by decide +kernel)
set_option maxRecDepth 20000 in
theorem gX8_takeWord_X7_number : GoodIn wsX8_takeWord (wsV RX8 25 RX7 yX7_number wsX7_number) := goodIn_app (goodIn_of _ (by decide +kernel)) ggX8_takeWord_X7_number
set_option maxRecDepth 20000 in
theorem ggX8_takeWord_X7_put : GoodIn wsX8_takeWord wsX7_put := goodIn_r _ [15, 11, 32] (by decide +kernel) (by decide +kernel)
set_option maxRecDepth 20000 in
theorem gX8_takeWord_X7_put : GoodIn wsX8_takeWord (wsV RX8 36 RX7 yX7_put wsX7_put) := goodIn_app (goodIn_of _ (by decide +kernel)) ggX8_takeWord_X7_put
set_option maxRecDepth 20000 in
theorem ggX8_takeWord_X7_at : GoodIn wsX8_takeWord wsX7_at := goodIn_r _ [19, 11, 32] (by decide +kernel) (by decide +kernel)
set_option maxRecDepth 20000 in
theorem gX8_takeWord_X7_at : GoodIn wsX8_takeWord (wsV RX8 43 RX7 yX7_at wsX7_at) := goodIn_app (goodIn_of _ (by decide +kernel)) ggX8_takeWord_X7_at
theorem dX8_takeWord_0 : decode cX8_takeWord 0 = .ok (.aload_n 0, 1) := by decide +kernel
theorem dX8_takeWord_1 : decode cX8_takeWord 1 = .ok (.getfield 14, 3) := by decide +kernel
theorem dX8_takeWord_4 : decode cX8_takeWord 4 = .ok (.iconst 0, 1) := by decide +kernel
theorem dX8_takeWord_5 : decode cX8_takeWord 5 = .ok (.invokevirtual 25, 3) := by decide +kernel
theorem dX8_takeWord_8 : decode cX8_takeWord 8 = .ok (.istore 6, 2) := by decide +kernel
theorem dX8_takeWord_10 : decode cX8_takeWord 10 = .ok (.iload 6, 2) := by decide +kernel
theorem dX8_takeWord_12 : decode cX8_takeWord 12 = .ok (.bipush 64, 2) := by decide +kernel
theorem dX8_takeWord_14 : decode cX8_takeWord 14 = .ok (.iadd, 1) := by decide +kernel
theorem dX8_takeWord_15 : decode cX8_takeWord 15 = .ok (.istore 7, 2) := by decide +kernel
theorem dX8_takeWord_17 : decode cX8_takeWord 17 = .ok (.aload_n 0, 1) := by decide +kernel
theorem dX8_takeWord_18 : decode cX8_takeWord 18 = .ok (.getfield 14, 3) := by decide +kernel
theorem dX8_takeWord_21 : decode cX8_takeWord 21 = .ok (.iconst 0, 1) := by decide +kernel
theorem dX8_takeWord_22 : decode cX8_takeWord 22 = .ok (.iload 7, 2) := by decide +kernel
theorem dX8_takeWord_24 : decode cX8_takeWord 24 = .ok (.i2l, 1) := by decide +kernel
theorem dX8_takeWord_25 : decode cX8_takeWord 25 = .ok (.invokevirtual 36, 3) := by decide +kernel
theorem dX8_takeWord_28 : decode cX8_takeWord 28 = .ok (.iconst 1, 1) := by decide +kernel
theorem dX8_takeWord_29 : decode cX8_takeWord 29 = .ok (.istore 8, 2) := by decide +kernel
theorem dX8_takeWord_31 : decode cX8_takeWord 31 = .ok (.iload 8, 2) := by decide +kernel
theorem dX8_takeWord_33 : decode cX8_takeWord 33 = .ok (.iload 5, 2) := by decide +kernel
theorem dX8_takeWord_35 : decode cX8_takeWord 35 = .ok (.if_icmp .gt 84, 3) := by decide +kernel
theorem dX8_takeWord_38 : decode cX8_takeWord 38 = .ok (.aload_n 0, 1) := by decide +kernel
theorem dX8_takeWord_39 : decode cX8_takeWord 39 = .ok (.getfield 14, 3) := by decide +kernel
theorem dX8_takeWord_42 : decode cX8_takeWord 42 = .ok (.iload 8, 2) := by decide +kernel
theorem dX8_takeWord_44 : decode cX8_takeWord 44 = .ok (.invokevirtual 25, 3) := by decide +kernel
theorem dX8_takeWord_47 : decode cX8_takeWord 47 = .ok (.istore 9, 2) := by decide +kernel
theorem dX8_takeWord_49 : decode cX8_takeWord 49 = .ok (.aload_n 3, 1) := by decide +kernel
theorem dX8_takeWord_50 : decode cX8_takeWord 50 = .ok (.getfield 40, 3) := by decide +kernel
theorem dX8_takeWord_53 : decode cX8_takeWord 53 = .ok (.iload 4, 2) := by decide +kernel
theorem dX8_takeWord_55 : decode cX8_takeWord 55 = .ok (.iload 8, 2) := by decide +kernel
theorem dX8_takeWord_57 : decode cX8_takeWord 57 = .ok (.iadd, 1) := by decide +kernel
theorem dX8_takeWord_58 : decode cX8_takeWord 58 = .ok (.iconst 1, 1) := by decide +kernel
theorem dX8_takeWord_59 : decode cX8_takeWord 59 = .ok (.isub, 1) := by decide +kernel
theorem dX8_takeWord_60 : decode cX8_takeWord 60 = .ok (.invokevirtual 43, 3) := by decide +kernel
theorem dX8_takeWord_63 : decode cX8_takeWord 63 = .ok (.lload_n 1, 1) := by decide +kernel
theorem dX8_takeWord_64 : decode cX8_takeWord 64 = .ok (.lcmp, 1) := by decide +kernel
theorem dX8_takeWord_65 : decode cX8_takeWord 65 = .ok (.ifCond .ne 8, 3) := by decide +kernel
theorem dX8_takeWord_68 : decode cX8_takeWord 68 = .ok (.iload 6, 2) := by decide +kernel
theorem dX8_takeWord_70 : decode cX8_takeWord 70 = .ok (.goto 8, 3) := by decide +kernel
theorem dX8_takeWord_73 : decode cX8_takeWord 73 = .ok (.iload 6, 2) := by decide +kernel
theorem dX8_takeWord_75 : decode cX8_takeWord 75 = .ok (.bipush 64, 2) := by decide +kernel
theorem dX8_takeWord_77 : decode cX8_takeWord 77 = .ok (.iadd, 1) := by decide +kernel
theorem dX8_takeWord_78 : decode cX8_takeWord 78 = .ok (.istore 10, 2) := by decide +kernel
theorem dX8_takeWord_80 : decode cX8_takeWord 80 = .ok (.iload 10, 2) := by decide +kernel
theorem dX8_takeWord_82 : decode cX8_takeWord 82 = .ok (.iload 9, 2) := by decide +kernel
theorem dX8_takeWord_84 : decode cX8_takeWord 84 = .ok (.iload 7, 2) := by decide +kernel
theorem dX8_takeWord_86 : decode cX8_takeWord 86 = .ok (.invokestatic 67, 3) := by decide +kernel
theorem dX8_takeWord_89 : decode cX8_takeWord 89 = .ok (.bipush 64, 2) := by decide +kernel
theorem dX8_takeWord_91 : decode cX8_takeWord 91 = .ok (.iadd, 1) := by decide +kernel
theorem dX8_takeWord_92 : decode cX8_takeWord 92 = .ok (.invokestatic 67, 3) := by decide +kernel
theorem dX8_takeWord_95 : decode cX8_takeWord 95 = .ok (.istore 7, 2) := by decide +kernel
theorem dX8_takeWord_97 : decode cX8_takeWord 97 = .ok (.aload_n 0, 1) := by decide +kernel
theorem dX8_takeWord_98 : decode cX8_takeWord 98 = .ok (.getfield 14, 3) := by decide +kernel
theorem dX8_takeWord_101 : decode cX8_takeWord 101 = .ok (.iload 8, 2) := by decide +kernel
theorem dX8_takeWord_103 : decode cX8_takeWord 103 = .ok (.iload 7, 2) := by decide +kernel
theorem dX8_takeWord_105 : decode cX8_takeWord 105 = .ok (.i2l, 1) := by decide +kernel
theorem dX8_takeWord_106 : decode cX8_takeWord 106 = .ok (.invokevirtual 36, 3) := by decide +kernel
theorem dX8_takeWord_109 : decode cX8_takeWord 109 = .ok (.iload 9, 2) := by decide +kernel
theorem dX8_takeWord_111 : decode cX8_takeWord 111 = .ok (.istore 6, 2) := by decide +kernel
theorem dX8_takeWord_113 : decode cX8_takeWord 113 = .ok (.iinc 8 1, 3) := by decide +kernel
theorem dX8_takeWord_116 : decode cX8_takeWord 116 = .ok (.goto (-85), 3) := by decide +kernel
theorem dX8_takeWord_119 : decode cX8_takeWord 119 = .ok (.return_, 1) := by decide +kernel
set_option maxRecDepth 20000 in
theorem ggX9_init_X4_init : GoodIn wsX9_init wsX4_init := goodIn_r _ [10, 11, 2, 3, 12, 13, 14, 15, 16, 17, 18, 19, 20, 21, 22, 23, 24, 25, 26, 27, 28, 41, 33, 34, 35, 36, 37, 38, 39, 40] (by decide +kernel) (by decide +kernel)
set_option maxRecDepth 20000 in
theorem gX9_init_X4_init_n17 : GoodIn wsX9_init (wsX4_init) := ggX9_init_X4_init
theorem dX9_init_0 : decode cX9_init 0 = .ok (.aload_n 0, 1) := by decide +kernel
theorem dX9_init_1 : decode cX9_init 1 = .ok (.invokespecial 3, 3) := by decide +kernel
theorem dX9_init_4 : decode cX9_init 4 = .ok (.aload_n 0, 1) := by decide +kernel
theorem dX9_init_5 : decode cX9_init 5 = .ok (.bipush 20, 2) := by decide +kernel
theorem dX9_init_7 : decode cX9_init 7 = .ok (.anewarray 9, 3) := by decide +kernel
theorem dX9_init_10 : decode cX9_init 10 = .ok (.putfield 11, 3) := by decide +kernel
theorem dX9_init_13 : decode cX9_init 13 = .ok (.aload_n 0, 1) := by decide +kernel
theorem dX9_init_14 : decode cX9_init 14 = .ok (.new 9, 3) := by decide +kernel
theorem dX9_init_17 : decode cX9_init 17 = .ok (.dup, 1) := by decide +kernel
theorem dX9_init_18 : decode cX9_init 18 = .ok (.invokespecial 17, 3) := by decide +kernel
theorem dX9_init_21 : decode cX9_init 21 = .ok (.putfield 18, 3) := by decide +kernel
theorem dX9_init_24 : decode cX9_init 24 = .ok (.iconst 0, 1) := by decide +kernel
theorem dX9_init_25 : decode cX9_init 25 = .ok (.istore_n 1, 1) := by decide +kernel
theorem dX9_init_26 : decode cX9_init 26 = .ok (.iload_n 1, 1) := by decide +kernel
theorem dX9_init_27 : decode cX9_init 27 = .ok (.aload_n 0, 1) := by decide +kernel
theorem dX9_init_28 : decode cX9_init 28 = .ok (.getfield 11, 3) := by decide +kernel
theorem dX9_init_31 : decode cX9_init 31 = .ok (.arraylength, 1) := by decide +kernel
theorem dX9_init_32 : decode cX9_init 32 = .ok (.if_icmp .ge 22, 3) := by decide +kernel
theorem dX9_init_35 : decode cX9_init 35 = .ok (.aload_n 0, 1) := by decide +kernel
theorem dX9_init_36 : decode cX9_init 36 = .ok (.getfield 11, 3) := by decide +kernel
theorem dX9_init_39 : decode cX9_init 39 = .ok (.iload_n 1, 1) := by decide +kernel
theorem dX9_init_40 : decode cX9_init 40 = .ok (.new 9, 3) := by decide +kernel
theorem dX9_init_43 : decode cX9_init 43 = .ok (.dup, 1) := by decide +kernel
theorem dX9_init_44 : decode cX9_init 44 = .ok (.invokespecial 17, 3) := by decide +kernel
theorem dX9_init_47 : decode cX9_init 47 = .ok (.aastore, 1) := by decide +kernel
theorem dX9_init_48 : decode cX9_init 48 = .ok (.iinc 1 1, 3) := by decide +kernel
theorem dX9_init_51 : decode cX9_init 51 = .ok (.goto (-25), 3) := by decide +kernel
theorem dX9_init_54 : decode cX9_init 54 = .ok (.return_, 1) := by decide +kernel
theorem dX9_has_0 : decode cX9_has 0 = .ok (.iload_n 1, 1) := by decide +kernel
theorem dX9_has_1 : decode cX9_has 1 = .ok (.ifCond .lt 15, 3) := by decide +kernel
theorem dX9_has_4 : decode cX9_has 4 = .ok (.iload_n 1, 1) := by decide +kernel
theorem dX9_has_5 : decode cX9_has 5 = .ok (.aload_n 0, 1) := by decide +kernel
theorem dX9_has_6 : decode cX9_has 6 = .ok (.getfield 22, 3) := by decide +kernel
theorem dX9_has_9 : decode cX9_has 9 = .ok (.if_icmp .ge 7, 3) := by decide +kernel
theorem dX9_has_12 : decode cX9_has 12 = .ok (.iconst 1, 1) := by decide +kernel
theorem dX9_has_13 : decode cX9_has 13 = .ok (.goto 4, 3) := by decide +kernel
theorem dX9_has_16 : decode cX9_has 16 = .ok (.iconst 0, 1) := by decide +kernel
theorem dX9_has_17 : decode cX9_has 17 = .ok (.ireturn, 1) := by decide +kernel
theorem dX9_at_0 : decode cX9_at 0 = .ok (.iload_n 1, 1) := by decide +kernel
theorem dX9_at_1 : decode cX9_at 1 = .ok (.ifCond .lt 12, 3) := by decide +kernel
theorem dX9_at_4 : decode cX9_at 4 = .ok (.iload_n 1, 1) := by decide +kernel
theorem dX9_at_5 : decode cX9_at 5 = .ok (.aload_n 0, 1) := by decide +kernel
theorem dX9_at_6 : decode cX9_at 6 = .ok (.getfield 11, 3) := by decide +kernel
theorem dX9_at_9 : decode cX9_at 9 = .ok (.arraylength, 1) := by decide +kernel
theorem dX9_at_10 : decode cX9_at 10 = .ok (.if_icmp .lt 8, 3) := by decide +kernel
theorem dX9_at_13 : decode cX9_at 13 = .ok (.aload_n 0, 1) := by decide +kernel
theorem dX9_at_14 : decode cX9_at 14 = .ok (.getfield 18, 3) := by decide +kernel
theorem dX9_at_17 : decode cX9_at 17 = .ok (.areturn, 1) := by decide +kernel
theorem dX9_at_18 : decode cX9_at 18 = .ok (.aload_n 0, 1) := by decide +kernel
theorem dX9_at_19 : decode cX9_at 19 = .ok (.getfield 11, 3) := by decide +kernel
theorem dX9_at_22 : decode cX9_at 22 = .ok (.iload_n 1, 1) := by decide +kernel
theorem dX9_at_23 : decode cX9_at 23 = .ok (.aaload, 1) := by decide +kernel
theorem dX9_at_24 : decode cX9_at 24 = .ok (.astore_n 2, 1) := by decide +kernel
theorem dX9_at_25 : decode cX9_at 25 = .ok (.aload_n 2, 1) := by decide +kernel
theorem dX9_at_26 : decode cX9_at 26 = .ok (.ifnonnull 10, 3) := by decide +kernel
theorem dX9_at_29 : decode cX9_at 29 = .ok (.aload_n 0, 1) := by decide +kernel
theorem dX9_at_30 : decode cX9_at 30 = .ok (.getfield 18, 3) := by decide +kernel
theorem dX9_at_33 : decode cX9_at 33 = .ok (.goto 4, 3) := by decide +kernel
theorem dX9_at_36 : decode cX9_at 36 = .ok (.aload_n 2, 1) := by decide +kernel
theorem dX9_at_37 : decode cX9_at 37 = .ok (.areturn, 1) := by decide +kernel
set_option maxRecDepth 20000 in
theorem ggX9_copy_X9_at : GoodIn wsX9_copy wsX9_at := goodIn_r _ [7, 8, 9, 33, 34, 35, 36] (by decide +kernel) (by decide +kernel)
set_option maxRecDepth 20000 in
theorem gX9_copy_X9_at : GoodIn wsX9_copy (wsV RX9 29 RX9 yX9_at wsX9_at) := goodIn_app (goodIn_of _ (by decide +kernel)) ggX9_copy_X9_at
set_option maxRecDepth 20000 in
theorem ggX9_copy_X4_copy : GoodIn wsX9_copy wsX4_copy := goodIn_r _ [14, 15, 16, 17, 18, 19, 20, 21, 22, 23, 24, 25, 26, 27, 28, 29, 30, 31, 32, 37, 38, 39, 40, 41, 42, 43, 44, 45] (by decide +kernel) (by decide +kernel)
set_option maxRecDepth 20000 in
theorem gX9_copy_X4_copy : GoodIn wsX9_copy (wsV RX9 33 RX4 yX4_copy wsX4_copy) := goodIn_app (goodIn_of _ (by decide +kernel)) ggX9_copy_X4_copy
theorem dX9_copy_0 : decode cX9_copy 0 = .ok (.aload_n 0, 1) := by decide +kernel
theorem dX9_copy_1 : decode cX9_copy 1 = .ok (.aload_n 1, 1) := by decide +kernel
theorem dX9_copy_2 : decode cX9_copy 2 = .ok (.getfield 22, 3) := by decide +kernel
theorem dX9_copy_5 : decode cX9_copy 5 = .ok (.putfield 22, 3) := by decide +kernel
theorem dX9_copy_8 : decode cX9_copy 8 = .ok (.aload_n 0, 1) := by decide +kernel
theorem dX9_copy_9 : decode cX9_copy 9 = .ok (.aload_n 1, 1) := by decide +kernel
theorem dX9_copy_10 : decode cX9_copy 10 = .ok (.getfield 26, 3) := by decide +kernel
theorem dX9_copy_13 : decode cX9_copy 13 = .ok (.putfield 26, 3) := by decide +kernel
theorem dX9_copy_16 : decode cX9_copy 16 = .ok (.iconst 0, 1) := by decide +kernel
theorem dX9_copy_17 : decode cX9_copy 17 = .ok (.istore_n 2, 1) := by decide +kernel
theorem dX9_copy_18 : decode cX9_copy 18 = .ok (.iload_n 2, 1) := by decide +kernel
theorem dX9_copy_19 : decode cX9_copy 19 = .ok (.aload_n 0, 1) := by decide +kernel
theorem dX9_copy_20 : decode cX9_copy 20 = .ok (.getfield 22, 3) := by decide +kernel
theorem dX9_copy_23 : decode cX9_copy 23 = .ok (.if_icmp .ge 22, 3) := by decide +kernel
theorem dX9_copy_26 : decode cX9_copy 26 = .ok (.aload_n 0, 1) := by decide +kernel
theorem dX9_copy_27 : decode cX9_copy 27 = .ok (.iload_n 2, 1) := by decide +kernel
theorem dX9_copy_28 : decode cX9_copy 28 = .ok (.invokevirtual 29, 3) := by decide +kernel
theorem dX9_copy_31 : decode cX9_copy 31 = .ok (.aload_n 1, 1) := by decide +kernel
theorem dX9_copy_32 : decode cX9_copy 32 = .ok (.iload_n 2, 1) := by decide +kernel
theorem dX9_copy_33 : decode cX9_copy 33 = .ok (.invokevirtual 29, 3) := by decide +kernel
theorem dX9_copy_36 : decode cX9_copy 36 = .ok (.invokevirtual 33, 3) := by decide +kernel
theorem dX9_copy_39 : decode cX9_copy 39 = .ok (.iinc 2 1, 3) := by decide +kernel
theorem dX9_copy_42 : decode cX9_copy 42 = .ok (.goto (-24), 3) := by decide +kernel
theorem dX9_copy_45 : decode cX9_copy 45 = .ok (.return_, 1) := by decide +kernel
set_option maxRecDepth 20000 in
theorem ggX9_add_X9_at : GoodIn wsX9_add wsX9_at := goodIn_r _ [7, 8, 9, 33, 34, 35, 36] (by decide +kernel) (by decide +kernel)
set_option maxRecDepth 20000 in
theorem gX9_add_X9_at : GoodIn wsX9_add (wsV RX9 29 RX9 yX9_at wsX9_at) := goodIn_app (goodIn_of _ (by decide +kernel)) ggX9_add_X9_at
set_option maxRecDepth 20000 in
theorem ggX9_add_X4_copy : GoodIn wsX9_add wsX4_copy := goodIn_r _ [14, 15, 16, 17, 18, 19, 20, 21, 22, 23, 24, 25, 26, 27, 28, 29, 30, 31, 32, 37, 38, 39, 40, 41, 42, 43, 44, 45] (by decide +kernel) (by decide +kernel)
set_option maxRecDepth 20000 in
theorem gX9_add_X4_copy : GoodIn wsX9_add (wsV RX9 33 RX4 yX4_copy wsX4_copy) := goodIn_app (goodIn_of _ (by decide +kernel)) ggX9_add_X4_copy
theorem dX9_add_0 : decode cX9_add 0 = .ok (.aload_n 0, 1) := by decide +kernel
theorem dX9_add_1 : decode cX9_add 1 = .ok (.aload_n 0, 1) := by decide +kernel
theorem dX9_add_2 : decode cX9_add 2 = .ok (.getfield 22, 3) := by decide +kernel
theorem dX9_add_5 : decode cX9_add 5 = .ok (.invokevirtual 29, 3) := by decide +kernel
theorem dX9_add_8 : decode cX9_add 8 = .ok (.astore_n 3, 1) := by decide +kernel
theorem dX9_add_9 : decode cX9_add 9 = .ok (.aload_n 3, 1) := by decide +kernel
theorem dX9_add_10 : decode cX9_add 10 = .ok (.aload_n 1, 1) := by decide +kernel
theorem dX9_add_11 : decode cX9_add 11 = .ok (.invokevirtual 33, 3) := by decide +kernel
theorem dX9_add_14 : decode cX9_add 14 = .ok (.aload_n 3, 1) := by decide +kernel
theorem dX9_add_15 : decode cX9_add 15 = .ok (.iload_n 2, 1) := by decide +kernel
theorem dX9_add_16 : decode cX9_add 16 = .ok (.putfield 37, 3) := by decide +kernel
theorem dX9_add_19 : decode cX9_add 19 = .ok (.aload_n 3, 1) := by decide +kernel
theorem dX9_add_20 : decode cX9_add 20 = .ok (.aload_n 0, 1) := by decide +kernel
theorem dX9_add_21 : decode cX9_add 21 = .ok (.getfield 26, 3) := by decide +kernel
theorem dX9_add_24 : decode cX9_add 24 = .ok (.putfield 40, 3) := by decide +kernel
theorem dX9_add_27 : decode cX9_add 27 = .ok (.aload_n 0, 1) := by decide +kernel
theorem dX9_add_28 : decode cX9_add 28 = .ok (.dup, 1) := by decide +kernel
theorem dX9_add_29 : decode cX9_add 29 = .ok (.getfield 22, 3) := by decide +kernel
theorem dX9_add_32 : decode cX9_add 32 = .ok (.iconst 1, 1) := by decide +kernel
theorem dX9_add_33 : decode cX9_add 33 = .ok (.iadd, 1) := by decide +kernel
theorem dX9_add_34 : decode cX9_add 34 = .ok (.putfield 22, 3) := by decide +kernel
theorem dX9_add_37 : decode cX9_add 37 = .ok (.return_, 1) := by decide +kernel
set_option maxRecDepth 20000 in
theorem ggX9_hasSourcesOf_X7_number : GoodIn wsX9_hasSourcesOf wsX7_number := goodIn_r _ [5, 6, 21] (by decide +kernel) (by decide +kernel)
set_option maxRecDepth 20000 in
theorem gX9_hasSourcesOf_X7_number : GoodIn wsX9_hasSourcesOf (wsV RX9 50 RX7 yX7_number wsX7_number) := goodIn_app (goodIn_of _ (by decide +kernel)) ggX9_hasSourcesOf_X7_number
set_option maxRecDepth 20000 in
theorem ggX9_hasSourcesOf_X9_has : GoodIn wsX9_hasSourcesOf wsX9_has := goodIn_r _ [11, 12, 22, 23, 24, 25] (by decide +kernel) (by decide +kernel)
set_option maxRecDepth 20000 in
theorem gX9_hasSourcesOf_X9_has : GoodIn wsX9_hasSourcesOf (wsV RX9 56 RX9 yX9_has wsX9_has) := goodIn_app (goodIn_of _ (by decide +kernel)) ggX9_hasSourcesOf_X9_has
theorem dX9_hasSourcesOf_0 : decode cX9_hasSourcesOf 0 = .ok (.iconst 0, 1) := by decide +kernel
theorem dX9_hasSourcesOf_1 : decode cX9_hasSourcesOf 1 = .ok (.istore_n 2, 1) := by decide +kernel
theorem dX9_hasSourcesOf_2 : decode cX9_hasSourcesOf 2 = .ok (.iload_n 2, 1) := by decide +kernel
theorem dX9_hasSourcesOf_3 : decode cX9_hasSourcesOf 3 = .ok (.aload_n 1, 1) := by decide +kernel
theorem dX9_hasSourcesOf_4 : decode cX9_hasSourcesOf 4 = .ok (.getfield 43, 3) := by decide +kernel
theorem dX9_hasSourcesOf_7 : decode cX9_hasSourcesOf 7 = .ok (.if_icmp .ge 26, 3) := by decide +kernel
theorem dX9_hasSourcesOf_10 : decode cX9_hasSourcesOf 10 = .ok (.aload_n 0, 1) := by decide +kernel
theorem dX9_hasSourcesOf_11 : decode cX9_hasSourcesOf 11 = .ok (.aload_n 1, 1) := by decide +kernel
theorem dX9_hasSourcesOf_12 : decode cX9_hasSourcesOf 12 = .ok (.getfield 46, 3) := by decide +kernel
theorem dX9_hasSourcesOf_15 : decode cX9_hasSourcesOf 15 = .ok (.iload_n 2, 1) := by decide +kernel
theorem dX9_hasSourcesOf_16 : decode cX9_hasSourcesOf 16 = .ok (.invokevirtual 50, 3) := by decide +kernel
theorem dX9_hasSourcesOf_19 : decode cX9_hasSourcesOf 19 = .ok (.invokevirtual 56, 3) := by decide +kernel
theorem dX9_hasSourcesOf_22 : decode cX9_hasSourcesOf 22 = .ok (.ifCond .ne 5, 3) := by decide +kernel
theorem dX9_hasSourcesOf_25 : decode cX9_hasSourcesOf 25 = .ok (.iconst 0, 1) := by decide +kernel
theorem dX9_hasSourcesOf_26 : decode cX9_hasSourcesOf 26 = .ok (.ireturn, 1) := by decide +kernel
theorem dX9_hasSourcesOf_27 : decode cX9_hasSourcesOf 27 = .ok (.iinc 2 1, 3) := by decide +kernel
theorem dX9_hasSourcesOf_30 : decode cX9_hasSourcesOf 30 = .ok (.goto (-28), 3) := by decide +kernel
theorem dX9_hasSourcesOf_33 : decode cX9_hasSourcesOf 33 = .ok (.iconst 1, 1) := by decide +kernel
theorem dX9_hasSourcesOf_34 : decode cX9_hasSourcesOf 34 = .ok (.ireturn, 1) := by decide +kernel
set_option maxRecDepth 20000 in
theorem ggX9_isSourceOfToday_X7_number : GoodIn wsX9_isSourceOfToday wsX7_number := goodIn_r _ [6, 7, 27] (by decide +kernel) (by decide +kernel)
set_option maxRecDepth 20000 in
theorem gX9_isSourceOfToday_X7_number : GoodIn wsX9_isSourceOfToday (wsV RX9 50 RX7 yX7_number wsX7_number) := goodIn_app (goodIn_of _ (by decide +kernel)) ggX9_isSourceOfToday_X7_number
set_option maxRecDepth 20000 in
theorem ggX9_isSourceOfToday_X9_at : GoodIn wsX9_isSourceOfToday wsX9_at := goodIn_r _ [12, 13, 14, 23, 24, 25, 26] (by decide +kernel) (by decide +kernel)
set_option maxRecDepth 20000 in
theorem gX9_isSourceOfToday_X9_at : GoodIn wsX9_isSourceOfToday (wsV RX9 29 RX9 yX9_at wsX9_at) := goodIn_app (goodIn_of _ (by decide +kernel)) ggX9_isSourceOfToday_X9_at
theorem dX9_isSourceOfToday_0 : decode cX9_isSourceOfToday 0 = .ok (.iconst 0, 1) := by decide +kernel
theorem dX9_isSourceOfToday_1 : decode cX9_isSourceOfToday 1 = .ok (.istore_n 2, 1) := by decide +kernel
theorem dX9_isSourceOfToday_2 : decode cX9_isSourceOfToday 2 = .ok (.iload_n 2, 1) := by decide +kernel
theorem dX9_isSourceOfToday_3 : decode cX9_isSourceOfToday 3 = .ok (.aload_n 1, 1) := by decide +kernel
theorem dX9_isSourceOfToday_4 : decode cX9_isSourceOfToday 4 = .ok (.getfield 43, 3) := by decide +kernel
theorem dX9_isSourceOfToday_7 : decode cX9_isSourceOfToday 7 = .ok (.if_icmp .ge 33, 3) := by decide +kernel
theorem dX9_isSourceOfToday_10 : decode cX9_isSourceOfToday 10 = .ok (.aload_n 0, 1) := by decide +kernel
theorem dX9_isSourceOfToday_11 : decode cX9_isSourceOfToday 11 = .ok (.aload_n 1, 1) := by decide +kernel
theorem dX9_isSourceOfToday_12 : decode cX9_isSourceOfToday 12 = .ok (.getfield 46, 3) := by decide +kernel
theorem dX9_isSourceOfToday_15 : decode cX9_isSourceOfToday 15 = .ok (.iload_n 2, 1) := by decide +kernel
theorem dX9_isSourceOfToday_16 : decode cX9_isSourceOfToday 16 = .ok (.invokevirtual 50, 3) := by decide +kernel
theorem dX9_isSourceOfToday_19 : decode cX9_isSourceOfToday 19 = .ok (.invokevirtual 29, 3) := by decide +kernel
theorem dX9_isSourceOfToday_22 : decode cX9_isSourceOfToday 22 = .ok (.getfield 40, 3) := by decide +kernel
theorem dX9_isSourceOfToday_25 : decode cX9_isSourceOfToday 25 = .ok (.aload_n 0, 1) := by decide +kernel
theorem dX9_isSourceOfToday_26 : decode cX9_isSourceOfToday 26 = .ok (.getfield 26, 3) := by decide +kernel
theorem dX9_isSourceOfToday_29 : decode cX9_isSourceOfToday 29 = .ok (.if_icmp .ne 5, 3) := by decide +kernel
theorem dX9_isSourceOfToday_32 : decode cX9_isSourceOfToday 32 = .ok (.iconst 1, 1) := by decide +kernel
theorem dX9_isSourceOfToday_33 : decode cX9_isSourceOfToday 33 = .ok (.ireturn, 1) := by decide +kernel
theorem dX9_isSourceOfToday_34 : decode cX9_isSourceOfToday 34 = .ok (.iinc 2 1, 3) := by decide +kernel
theorem dX9_isSourceOfToday_37 : decode cX9_isSourceOfToday 37 = .ok (.goto (-35), 3) := by decide +kernel
theorem dX9_isSourceOfToday_40 : decode cX9_isSourceOfToday 40 = .ok (.iconst 0, 1) := by decide +kernel
theorem dX9_isSourceOfToday_41 : decode cX9_isSourceOfToday 41 = .ok (.ireturn, 1) := by decide +kernel
