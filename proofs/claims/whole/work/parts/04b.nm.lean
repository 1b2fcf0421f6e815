theorem dX11_init_0 : decode cX11_init 0 = .ok (.aload_n 0, 1) := by decide +kernel
theorem dX11_init_1 : decode cX11_init 1 = .ok (.invokespecial 1, 3) := by decide +kernel
theorem dX11_init_4 : decode cX11_init 4 = .ok (.aload_n 0, 1) := by decide +kernel
theorem dX11_init_5 : decode cX11_init 5 = .ok (.sipush 1042, 3) := by decide +kernel
theorem dX11_init_8 : decode cX11_init 8 = .ok (.newarray .int, 2) := by decide +kernel
theorem dX11_init_10 : decode cX11_init 10 = .ok (.putfield 7, 3) := by decide +kernel
theorem dX11_init_13 : decode cX11_init 13 = .ok (.aload_n 0, 1) := by decide +kernel
theorem dX11_init_14 : decode cX11_init 14 = .ok (.sipush 1200, 3) := by decide +kernel
theorem dX11_init_17 : decode cX11_init 17 = .ok (.newarray .long, 2) := by decide +kernel
theorem dX11_init_19 : decode cX11_init 19 = .ok (.putfield 13, 3) := by decide +kernel
theorem dX11_init_22 : decode cX11_init 22 = .ok (.aload_n 0, 1) := by decide +kernel
theorem dX11_init_23 : decode cX11_init 23 = .ok (.sipush 6252, 3) := by decide +kernel
theorem dX11_init_26 : decode cX11_init 26 = .ok (.newarray .int, 2) := by decide +kernel
theorem dX11_init_28 : decode cX11_init 28 = .ok (.putfield 17, 3) := by decide +kernel
theorem dX11_init_31 : decode cX11_init 31 = .ok (.aload_n 0, 1) := by decide +kernel
theorem dX11_init_32 : decode cX11_init 32 = .ok (.sipush 7200, 3) := by decide +kernel
theorem dX11_init_35 : decode cX11_init 35 = .ok (.newarray .long, 2) := by decide +kernel
theorem dX11_init_37 : decode cX11_init 37 = .ok (.putfield 20, 3) := by decide +kernel
theorem dX11_init_40 : decode cX11_init 40 = .ok (.aload_n 0, 1) := by decide +kernel
theorem dX11_init_41 : decode cX11_init 41 = .ok (.bipush 100, 2) := by decide +kernel
theorem dX11_init_43 : decode cX11_init 43 = .ok (.newarray .int, 2) := by decide +kernel
theorem dX11_init_45 : decode cX11_init 45 = .ok (.putfield 23, 3) := by decide +kernel
theorem dX11_init_48 : decode cX11_init 48 = .ok (.aload_n 0, 1) := by decide +kernel
theorem dX11_init_49 : decode cX11_init 49 = .ok (.bipush 61, 2) := by decide +kernel
theorem dX11_init_51 : decode cX11_init 51 = .ok (.newarray .int, 2) := by decide +kernel
theorem dX11_init_53 : decode cX11_init 53 = .ok (.putfield 26, 3) := by decide +kernel
theorem dX11_init_56 : decode cX11_init 56 = .ok (.aload_n 0, 1) := by decide +kernel
theorem dX11_init_57 : decode cX11_init 57 = .ok (.bipush 20, 2) := by decide +kernel
theorem dX11_init_59 : decode cX11_init 59 = .ok (.newarray .int, 2) := by decide +kernel
theorem dX11_init_61 : decode cX11_init 61 = .ok (.putfield 29, 3) := by decide +kernel
theorem dX11_init_64 : decode cX11_init 64 = .ok (.aload_n 0, 1) := by decide +kernel
theorem dX11_init_65 : decode cX11_init 65 = .ok (.bipush 20, 2) := by decide +kernel
theorem dX11_init_67 : decode cX11_init 67 = .ok (.newarray .int, 2) := by decide +kernel
theorem dX11_init_69 : decode cX11_init 69 = .ok (.putfield 32, 3) := by decide +kernel
theorem dX11_init_72 : decode cX11_init 72 = .ok (.aload_n 0, 1) := by decide +kernel
theorem dX11_init_73 : decode cX11_init 73 = .ok (.sipush 1200, 3) := by decide +kernel
theorem dX11_init_76 : decode cX11_init 76 = .ok (.newarray .long, 2) := by decide +kernel
theorem dX11_init_78 : decode cX11_init 78 = .ok (.putfield 35, 3) := by decide +kernel
theorem dX11_init_81 : decode cX11_init 81 = .ok (.aload_n 0, 1) := by decide +kernel
theorem dX11_init_82 : decode cX11_init 82 = .ok (.sipush 1200, 3) := by decide +kernel
theorem dX11_init_85 : decode cX11_init 85 = .ok (.newarray .int, 2) := by decide +kernel
theorem dX11_init_87 : decode cX11_init 87 = .ok (.putfield 38, 3) := by decide +kernel
theorem dX11_init_90 : decode cX11_init 90 = .ok (.return_, 1) := by decide +kernel
theorem dX11_thrown_0 : decode cX11_thrown 0 = .ok (.aload_n 0, 1) := by decide +kernel
theorem dX11_thrown_1 : decode cX11_thrown 1 = .ok (.getfield 41, 3) := by decide +kernel
theorem dX11_thrown_4 : decode cX11_thrown 4 = .ok (.ireturn, 1) := by decide +kernel
theorem dX11_holds_0 : decode cX11_holds 0 = .ok (.aload_n 0, 1) := by decide +kernel
theorem dX11_holds_1 : decode cX11_holds 1 = .ok (.iload_n 1, 1) := by decide +kernel
theorem dX11_holds_2 : decode cX11_holds 2 = .ok (.putfield 41, 3) := by decide +kernel
theorem dX11_holds_5 : decode cX11_holds 5 = .ok (.iload_n 1, 1) := by decide +kernel
theorem dX11_holds_6 : decode cX11_holds 6 = .ok (.ifCond .ne 7, 3) := by decide +kernel
theorem dX11_holds_9 : decode cX11_holds 9 = .ok (.iconst 1, 1) := by decide +kernel
theorem dX11_holds_10 : decode cX11_holds 10 = .ok (.goto 4, 3) := by decide +kernel
theorem dX11_holds_13 : decode cX11_holds 13 = .ok (.iconst 0, 1) := by decide +kernel
theorem dX11_holds_14 : decode cX11_holds 14 = .ok (.ireturn, 1) := by decide +kernel
theorem dX11_plain_0 : decode cX11_plain 0 = .ok (.aload_n 0, 1) := by decide +kernel
theorem dX11_plain_1 : decode cX11_plain 1 = .ok (.iconst 0, 1) := by decide +kernel
theorem dX11_plain_2 : decode cX11_plain 2 = .ok (.putfield 41, 3) := by decide +kernel
theorem dX11_plain_5 : decode cX11_plain 5 = .ok (.iload_n 1, 1) := by decide +kernel
theorem dX11_plain_6 : decode cX11_plain 6 = .ok (.ireturn, 1) := by decide +kernel
theorem dX11_in_0 : decode cX11_in 0 = .ok (.iload_n 0, 1) := by decide +kernel
theorem dX11_in_1 : decode cX11_in 1 = .ok (.iload_n 1, 1) := by decide +kernel
theorem dX11_in_2 : decode cX11_in 2 = .ok (.if_icmp .lt 12, 3) := by decide +kernel
theorem dX11_in_5 : decode cX11_in 5 = .ok (.iload_n 0, 1) := by decide +kernel
theorem dX11_in_6 : decode cX11_in 6 = .ok (.iload_n 2, 1) := by decide +kernel
theorem dX11_in_7 : decode cX11_in 7 = .ok (.if_icmp .gt 7, 3) := by decide +kernel
theorem dX11_in_10 : decode cX11_in 10 = .ok (.iconst 1, 1) := by decide +kernel
theorem dX11_in_11 : decode cX11_in 11 = .ok (.goto 4, 3) := by decide +kernel
theorem dX11_in_14 : decode cX11_in 14 = .ok (.iconst 0, 1) := by decide +kernel
theorem dX11_in_15 : decode cX11_in 15 = .ok (.ireturn, 1) := by decide +kernel
theorem dX11_get_0 : decode cX11_get 0 = .ok (.aload_n 0, 1) := by decide +kernel
theorem dX11_get_1 : decode cX11_get 1 = .ok (.getfield 7, 3) := by decide +kernel
theorem dX11_get_4 : decode cX11_get 4 = .ok (.bipush 52, 2) := by decide +kernel
theorem dX11_get_6 : decode cX11_get 6 = .ok (.iload_n 1, 1) := by decide +kernel
theorem dX11_get_7 : decode cX11_get 7 = .ok (.imul, 1) := by decide +kernel
theorem dX11_get_8 : decode cX11_get 8 = .ok (.iload_n 2, 1) := by decide +kernel
theorem dX11_get_9 : decode cX11_get 9 = .ok (.iadd, 1) := by decide +kernel
theorem dX11_get_10 : decode cX11_get 10 = .ok (.iaload, 1) := by decide +kernel
theorem dX11_get_11 : decode cX11_get 11 = .ok (.ireturn, 1) := by decide +kernel
set_option maxRecDepth 20000 in
theorem ggX11_isPamphlet_X11_in : GoodIn wsX11_isPamphlet wsX11_in := goodIn_r _ [5] (by decide +kernel) (by decide +kernel)
set_option maxRecDepth 20000 in
theorem gX11_isPamphlet_X11_in : GoodIn wsX11_isPamphlet (va_wsS RX11 45 yX11_in wsX11_in) := goodIn_app (goodIn_of _ (by decide +kernel)) ggX11_isPamphlet_X11_in
theorem dX11_isPamphlet_0 : decode cX11_isPamphlet 0 = .ok (.iload_n 1, 1) := by decide +kernel
theorem dX11_isPamphlet_1 : decode cX11_isPamphlet 1 = .ok (.iconst 0, 1) := by decide +kernel
theorem dX11_isPamphlet_2 : decode cX11_isPamphlet 2 = .ok (.aload_n 0, 1) := by decide +kernel
theorem dX11_isPamphlet_3 : decode cX11_isPamphlet 3 = .ok (.getfield 7, 3) := by decide +kernel
theorem dX11_isPamphlet_6 : decode cX11_isPamphlet 6 = .ok (.iconst 1, 1) := by decide +kernel
theorem dX11_isPamphlet_7 : decode cX11_isPamphlet 7 = .ok (.iaload, 1) := by decide +kernel
theorem dX11_isPamphlet_8 : decode cX11_isPamphlet 8 = .ok (.iconst 1, 1) := by decide +kernel
theorem dX11_isPamphlet_9 : decode cX11_isPamphlet 9 = .ok (.isub, 1) := by decide +kernel
theorem dX11_isPamphlet_10 : decode cX11_isPamphlet 10 = .ok (.invokestatic 45, 3) := by decide +kernel
theorem dX11_isPamphlet_13 : decode cX11_isPamphlet 13 = .ok (.ireturn, 1) := by decide +kernel
set_option maxRecDepth 20000 in
theorem ggX11_isQuote_X11_isPamphlet : GoodIn wsX11_isQuote wsX11_isPamphlet := goodIn_r _ [5, 6, 7, 8, 4, 9, 14, 15, 16, 17, 18, 19, 20, 21, 22, 23, 24, 25, 26, 27, 28, 29, 30, 31, 32, 33, 34, 35, 36, 37] (by decide +kernel) (by decide +kernel)
set_option maxRecDepth 20000 in
theorem gX11_isQuote_X11_isPamphlet : GoodIn wsX11_isQuote (wsV RX11 49 RX11 yX11_isPamphlet wsX11_isPamphlet) := goodIn_app (goodIn_of _ (by decide +kernel)) ggX11_isQuote_X11_isPamphlet
set_option maxRecDepth 20000 in
theorem ggX11_isQuote_X11_get : GoodIn wsX11_isQuote wsX11_get := goodIn_r _ [13, 6, 14, 15, 16, 17, 18, 19, 20, 21, 22, 23, 24, 25, 26, 27, 28, 29, 30, 31, 32, 33, 34, 35, 36, 37] (by decide +kernel) (by decide +kernel)
set_option maxRecDepth 20000 in
theorem gX11_isQuote_X11_get : GoodIn wsX11_isQuote (wsV RX11 53 RX11 yX11_get wsX11_get) := goodIn_app (goodIn_of _ (by decide +kernel)) ggX11_isQuote_X11_get
set_option maxRecDepth 20000 in
theorem ggX11_isQuote_X11_in : GoodIn wsX11_isQuote wsX11_in := goodIn_r _ [9] (by decide +kernel) (by decide +kernel)
set_option maxRecDepth 20000 in
theorem gX11_isQuote_X11_in : GoodIn wsX11_isQuote (va_wsS RX11 45 yX11_in wsX11_in) := goodIn_app (goodIn_of _ (by decide +kernel)) ggX11_isQuote_X11_in
theorem dX11_isQuote_0 : decode cX11_isQuote 0 = .ok (.aload_n 0, 1) := by decide +kernel
theorem dX11_isQuote_1 : decode cX11_isQuote 1 = .ok (.iload_n 1, 1) := by decide +kernel
theorem dX11_isQuote_2 : decode cX11_isQuote 2 = .ok (.invokevirtual 49, 3) := by decide +kernel
theorem dX11_isQuote_5 : decode cX11_isQuote 5 = .ok (.ifCond .eq 23, 3) := by decide +kernel
theorem dX11_isQuote_8 : decode cX11_isQuote 8 = .ok (.iload_n 2, 1) := by decide +kernel
theorem dX11_isQuote_9 : decode cX11_isQuote 9 = .ok (.iconst 0, 1) := by decide +kernel
theorem dX11_isQuote_10 : decode cX11_isQuote 10 = .ok (.aload_n 0, 1) := by decide +kernel
theorem dX11_isQuote_11 : decode cX11_isQuote 11 = .ok (.iload_n 1, 1) := by decide +kernel
theorem dX11_isQuote_12 : decode cX11_isQuote 12 = .ok (.iconst 5, 1) := by decide +kernel
theorem dX11_isQuote_13 : decode cX11_isQuote 13 = .ok (.invokevirtual 53, 3) := by decide +kernel
theorem dX11_isQuote_16 : decode cX11_isQuote 16 = .ok (.iconst 1, 1) := by decide +kernel
theorem dX11_isQuote_17 : decode cX11_isQuote 17 = .ok (.isub, 1) := by decide +kernel
theorem dX11_isQuote_18 : decode cX11_isQuote 18 = .ok (.invokestatic 45, 3) := by decide +kernel
theorem dX11_isQuote_21 : decode cX11_isQuote 21 = .ok (.ifCond .eq 7, 3) := by decide +kernel
theorem dX11_isQuote_24 : decode cX11_isQuote 24 = .ok (.iconst 1, 1) := by decide +kernel
theorem dX11_isQuote_25 : decode cX11_isQuote 25 = .ok (.goto 4, 3) := by decide +kernel
theorem dX11_isQuote_28 : decode cX11_isQuote 28 = .ok (.iconst 0, 1) := by decide +kernel
theorem dX11_isQuote_29 : decode cX11_isQuote 29 = .ok (.ireturn, 1) := by decide +kernel
set_option maxRecDepth 20000 in
theorem ggX11_isWord_X11_isPamphlet : GoodIn wsX11_isWord wsX11_isPamphlet := goodIn_r _ [5, 6, 7, 8, 4, 9, 14, 15, 16, 17, 18, 19, 20, 21, 22, 23, 24, 25, 26, 27, 28, 29, 30, 31, 32, 33, 34, 35, 36, 37] (by decide +kernel) (by decide +kernel)
set_option maxRecDepth 20000 in
theorem gX11_isWord_X11_isPamphlet : GoodIn wsX11_isWord (wsV RX11 49 RX11 yX11_isPamphlet wsX11_isPamphlet) := goodIn_app (goodIn_of _ (by decide +kernel)) ggX11_isWord_X11_isPamphlet
set_option maxRecDepth 20000 in
theorem ggX11_isWord_X11_get : GoodIn wsX11_isWord wsX11_get := goodIn_r _ [13, 6, 14, 15, 16, 17, 18, 19, 20, 21, 22, 23, 24, 25, 26, 27, 28, 29, 30, 31, 32, 33, 34, 35, 36, 37] (by decide +kernel) (by decide +kernel)
set_option maxRecDepth 20000 in
theorem gX11_isWord_X11_get : GoodIn wsX11_isWord (wsV RX11 53 RX11 yX11_get wsX11_get) := goodIn_app (goodIn_of _ (by decide +kernel)) ggX11_isWord_X11_get
set_option maxRecDepth 20000 in
theorem ggX11_isWord_X11_in : GoodIn wsX11_isWord wsX11_in := goodIn_r _ [9] (by decide +kernel) (by decide +kernel)
set_option maxRecDepth 20000 in
theorem gX11_isWord_X11_in : GoodIn wsX11_isWord (va_wsS RX11 45 yX11_in wsX11_in) := goodIn_app (goodIn_of _ (by decide +kernel)) ggX11_isWord_X11_in
theorem dX11_isWord_0 : decode cX11_isWord 0 = .ok (.aload_n 0, 1) := by decide +kernel
theorem dX11_isWord_1 : decode cX11_isWord 1 = .ok (.iload_n 1, 1) := by decide +kernel
theorem dX11_isWord_2 : decode cX11_isWord 2 = .ok (.invokevirtual 49, 3) := by decide +kernel
theorem dX11_isWord_5 : decode cX11_isWord 5 = .ok (.ifCond .eq 23, 3) := by decide +kernel
theorem dX11_isWord_8 : decode cX11_isWord 8 = .ok (.iload_n 2, 1) := by decide +kernel
theorem dX11_isWord_9 : decode cX11_isWord 9 = .ok (.iconst 0, 1) := by decide +kernel
theorem dX11_isWord_10 : decode cX11_isWord 10 = .ok (.aload_n 0, 1) := by decide +kernel
theorem dX11_isWord_11 : decode cX11_isWord 11 = .ok (.iload_n 1, 1) := by decide +kernel
theorem dX11_isWord_12 : decode cX11_isWord 12 = .ok (.iconst 4, 1) := by decide +kernel
theorem dX11_isWord_13 : decode cX11_isWord 13 = .ok (.invokevirtual 53, 3) := by decide +kernel
theorem dX11_isWord_16 : decode cX11_isWord 16 = .ok (.iconst 1, 1) := by decide +kernel
theorem dX11_isWord_17 : decode cX11_isWord 17 = .ok (.isub, 1) := by decide +kernel
theorem dX11_isWord_18 : decode cX11_isWord 18 = .ok (.invokestatic 45, 3) := by decide +kernel
theorem dX11_isWord_21 : decode cX11_isWord 21 = .ok (.ifCond .eq 7, 3) := by decide +kernel
theorem dX11_isWord_24 : decode cX11_isWord 24 = .ok (.iconst 1, 1) := by decide +kernel
theorem dX11_isWord_25 : decode cX11_isWord 25 = .ok (.goto 4, 3) := by decide +kernel
theorem dX11_isWord_28 : decode cX11_isWord 28 = .ok (.iconst 0, 1) := by decide +kernel
theorem dX11_isWord_29 : decode cX11_isWord 29 = .ok (.ireturn, 1) := by decide +kernel
set_option maxRecDepth 20000 in
theorem ggX11_isAuthor_X11_in : GoodIn wsX11_isAuthor wsX11_in := goodIn_r _ [4] (by decide +kernel) (by decide +kernel)
set_option maxRecDepth 20000 in
theorem gX11_isAuthor_X11_in : GoodIn wsX11_isAuthor (va_wsS RX11 45 yX11_in wsX11_in) := goodIn_app (goodIn_of _ (by decide +kernel)) ggX11_isAuthor_X11_in
theorem dX11_isAuthor_0 : decode cX11_isAuthor 0 = .ok (.iload_n 0, 1) := by decide +kernel
theorem dX11_isAuthor_1 : decode cX11_isAuthor 1 = .ok (.iconst 0, 1) := by decide +kernel
theorem dX11_isAuthor_2 : decode cX11_isAuthor 2 = .ok (.bipush 7, 2) := by decide +kernel
theorem dX11_isAuthor_4 : decode cX11_isAuthor 4 = .ok (.invokestatic 45, 3) := by decide +kernel
theorem dX11_isAuthor_7 : decode cX11_isAuthor 7 = .ok (.ireturn, 1) := by decide +kernel
set_option maxRecDepth 20000 in
theorem ggX11_source_X11_get : GoodIn wsX11_source wsX11_get := goodIn_r _ [5, 6, 7, 8, 9, 10, 11, 12, 13, 14, 15, 16, 17, 18, 19, 20, 21, 22, 23, 24, 25, 26, 27, 28, 29, 30] (by decide +kernel) (by decide +kernel)
set_option maxRecDepth 20000 in
theorem gX11_source_X11_get : GoodIn wsX11_source (wsV RX11 53 RX11 yX11_get wsX11_get) := goodIn_app (goodIn_of _ (by decide +kernel)) ggX11_source_X11_get
theorem dX11_source_0 : decode cX11_source 0 = .ok (.aload_n 0, 1) := by decide +kernel
theorem dX11_source_1 : decode cX11_source 1 = .ok (.iload_n 1, 1) := by decide +kernel
theorem dX11_source_2 : decode cX11_source 2 = .ok (.bipush 6, 2) := by decide +kernel
theorem dX11_source_4 : decode cX11_source 4 = .ok (.iconst 3, 1) := by decide +kernel
theorem dX11_source_5 : decode cX11_source 5 = .ok (.iload_n 2, 1) := by decide +kernel
theorem dX11_source_6 : decode cX11_source 6 = .ok (.imul, 1) := by decide +kernel
theorem dX11_source_7 : decode cX11_source 7 = .ok (.iadd, 1) := by decide +kernel
theorem dX11_source_8 : decode cX11_source 8 = .ok (.invokevirtual 53, 3) := by decide +kernel
theorem dX11_source_11 : decode cX11_source 11 = .ok (.ireturn, 1) := by decide +kernel
set_option maxRecDepth 20000 in
theorem ggX11_begin_X11_get : GoodIn wsX11_begin wsX11_get := goodIn_r _ [5, 6, 7, 8, 9, 10, 11, 12, 13, 14, 15, 16, 17, 18, 19, 20, 21, 22, 23, 24, 25, 26, 27, 28, 29, 30] (by decide +kernel) (by decide +kernel)
set_option maxRecDepth 20000 in
theorem gX11_begin_X11_get : GoodIn wsX11_begin (wsV RX11 53 RX11 yX11_get wsX11_get) := goodIn_app (goodIn_of _ (by decide +kernel)) ggX11_begin_X11_get
theorem dX11_begin_0 : decode cX11_begin 0 = .ok (.aload_n 0, 1) := by decide +kernel
theorem dX11_begin_1 : decode cX11_begin 1 = .ok (.iload_n 1, 1) := by decide +kernel
theorem dX11_begin_2 : decode cX11_begin 2 = .ok (.bipush 6, 2) := by decide +kernel
theorem dX11_begin_4 : decode cX11_begin 4 = .ok (.iconst 3, 1) := by decide +kernel
theorem dX11_begin_5 : decode cX11_begin 5 = .ok (.iload_n 2, 1) := by decide +kernel
theorem dX11_begin_6 : decode cX11_begin 6 = .ok (.imul, 1) := by decide +kernel
theorem dX11_begin_7 : decode cX11_begin 7 = .ok (.iadd, 1) := by decide +kernel
theorem dX11_begin_8 : decode cX11_begin 8 = .ok (.iconst 1, 1) := by decide +kernel
theorem dX11_begin_9 : decode cX11_begin 9 = .ok (.iadd, 1) := by decide +kernel
theorem dX11_begin_10 : decode cX11_begin 10 = .ok (.invokevirtual 53, 3) := by decide +kernel
theorem dX11_begin_13 : decode cX11_begin 13 = .ok (.ireturn, 1) := by decide +kernel
set_option maxRecDepth 20000 in
theorem ggX11_size_X11_get : GoodIn wsX11_size wsX11_get := goodIn_r _ [5, 6, 7, 8, 9, 10, 11, 12, 13, 14, 15, 16, 17, 18, 19, 20, 21, 22, 23, 24, 25, 26, 27, 28, 29, 30] (by decide +kernel) (by decide +kernel)
set_option maxRecDepth 20000 in
theorem gX11_size_X11_get : GoodIn wsX11_size (wsV RX11 53 RX11 yX11_get wsX11_get) := goodIn_app (goodIn_of _ (by decide +kernel)) ggX11_size_X11_get
theorem dX11_size_0 : decode cX11_size 0 = .ok (.aload_n 0, 1) := by decide +kernel
theorem dX11_size_1 : decode cX11_size 1 = .ok (.iload_n 1, 1) := by decide +kernel
theorem dX11_size_2 : decode cX11_size 2 = .ok (.bipush 6, 2) := by decide +kernel
theorem dX11_size_4 : decode cX11_size 4 = .ok (.iconst 3, 1) := by decide +kernel
theorem dX11_size_5 : decode cX11_size 5 = .ok (.iload_n 2, 1) := by decide +kernel
theorem dX11_size_6 : decode cX11_size 6 = .ok (.imul, 1) := by decide +kernel
theorem dX11_size_7 : decode cX11_size 7 = .ok (.iadd, 1) := by decide +kernel
theorem dX11_size_8 : decode cX11_size 8 = .ok (.iconst 2, 1) := by decide +kernel
theorem dX11_size_9 : decode cX11_size 9 = .ok (.iadd, 1) := by decide +kernel
theorem dX11_size_10 : decode cX11_size 10 = .ok (.invokevirtual 53, 3) := by decide +kernel
theorem dX11_size_13 : decode cX11_size 13 = .ok (.ireturn, 1) := by decide +kernel
theorem dX11_word_0 : decode cX11_word 0 = .ok (.aload_n 0, 1) := by decide +kernel
theorem dX11_word_1 : decode cX11_word 1 = .ok (.getfield 13, 3) := by decide +kernel
theorem dX11_word_4 : decode cX11_word 4 = .ok (.bipush 60, 2) := by decide +kernel
theorem dX11_word_6 : decode cX11_word 6 = .ok (.iload_n 1, 1) := by decide +kernel
theorem dX11_word_7 : decode cX11_word 7 = .ok (.imul, 1) := by decide +kernel
theorem dX11_word_8 : decode cX11_word 8 = .ok (.iload_n 2, 1) := by decide +kernel
theorem dX11_word_9 : decode cX11_word 9 = .ok (.iadd, 1) := by decide +kernel
theorem dX11_word_10 : decode cX11_word 10 = .ok (.laload, 1) := by decide +kernel
theorem dX11_word_11 : decode cX11_word 11 = .ok (.lreturn, 1) := by decide +kernel
theorem dX11_keepAt_0 : decode cX11_keepAt 0 = .ok (.iconst 0, 1) := by decide +kernel
theorem dX11_keepAt_1 : decode cX11_keepAt 1 = .ok (.istore_n 2, 1) := by decide +kernel
theorem dX11_keepAt_2 : decode cX11_keepAt 2 = .ok (.iload_n 2, 1) := by decide +kernel
theorem dX11_keepAt_3 : decode cX11_keepAt 3 = .ok (.sipush 1042, 3) := by decide +kernel
theorem dX11_keepAt_6 : decode cX11_keepAt 6 = .ok (.if_icmp .ge 27, 3) := by decide +kernel
theorem dX11_keepAt_9 : decode cX11_keepAt 9 = .ok (.aload_n 0, 1) := by decide +kernel
theorem dX11_keepAt_10 : decode cX11_keepAt 10 = .ok (.getfield 17, 3) := by decide +kernel
theorem dX11_keepAt_13 : decode cX11_keepAt 13 = .ok (.sipush 1042, 3) := by decide +kernel
theorem dX11_keepAt_16 : decode cX11_keepAt 16 = .ok (.iload_n 1, 1) := by decide +kernel
theorem dX11_keepAt_17 : decode cX11_keepAt 17 = .ok (.imul, 1) := by decide +kernel
theorem dX11_keepAt_18 : decode cX11_keepAt 18 = .ok (.iload_n 2, 1) := by decide +kernel
theorem dX11_keepAt_19 : decode cX11_keepAt 19 = .ok (.iadd, 1) := by decide +kernel
theorem dX11_keepAt_20 : decode cX11_keepAt 20 = .ok (.aload_n 0, 1) := by decide +kernel
theorem dX11_keepAt_21 : decode cX11_keepAt 21 = .ok (.getfield 7, 3) := by decide +kernel
theorem dX11_keepAt_24 : decode cX11_keepAt 24 = .ok (.iload_n 2, 1) := by decide +kernel
theorem dX11_keepAt_25 : decode cX11_keepAt 25 = .ok (.iaload, 1) := by decide +kernel
theorem dX11_keepAt_26 : decode cX11_keepAt 26 = .ok (.iastore, 1) := by decide +kernel
theorem dX11_keepAt_27 : decode cX11_keepAt 27 = .ok (.iinc 2 1, 3) := by decide +kernel
theorem dX11_keepAt_30 : decode cX11_keepAt 30 = .ok (.goto (-28), 3) := by decide +kernel
theorem dX11_keepAt_33 : decode cX11_keepAt 33 = .ok (.iconst 0, 1) := by decide +kernel
theorem dX11_keepAt_34 : decode cX11_keepAt 34 = .ok (.istore_n 2, 1) := by decide +kernel
theorem dX11_keepAt_35 : decode cX11_keepAt 35 = .ok (.iload_n 2, 1) := by decide +kernel
theorem dX11_keepAt_36 : decode cX11_keepAt 36 = .ok (.sipush 1200, 3) := by decide +kernel
theorem dX11_keepAt_39 : decode cX11_keepAt 39 = .ok (.if_icmp .ge 27, 3) := by decide +kernel
theorem dX11_keepAt_42 : decode cX11_keepAt 42 = .ok (.aload_n 0, 1) := by decide +kernel
theorem dX11_keepAt_43 : decode cX11_keepAt 43 = .ok (.getfield 20, 3) := by decide +kernel
theorem dX11_keepAt_46 : decode cX11_keepAt 46 = .ok (.sipush 1200, 3) := by decide +kernel
theorem dX11_keepAt_49 : decode cX11_keepAt 49 = .ok (.iload_n 1, 1) := by decide +kernel
theorem dX11_keepAt_50 : decode cX11_keepAt 50 = .ok (.imul, 1) := by decide +kernel
theorem dX11_keepAt_51 : decode cX11_keepAt 51 = .ok (.iload_n 2, 1) := by decide +kernel
theorem dX11_keepAt_52 : decode cX11_keepAt 52 = .ok (.iadd, 1) := by decide +kernel
theorem dX11_keepAt_53 : decode cX11_keepAt 53 = .ok (.aload_n 0, 1) := by decide +kernel
theorem dX11_keepAt_54 : decode cX11_keepAt 54 = .ok (.getfield 13, 3) := by decide +kernel
theorem dX11_keepAt_57 : decode cX11_keepAt 57 = .ok (.iload_n 2, 1) := by decide +kernel
theorem dX11_keepAt_58 : decode cX11_keepAt 58 = .ok (.laload, 1) := by decide +kernel
theorem dX11_keepAt_59 : decode cX11_keepAt 59 = .ok (.lastore, 1) := by decide +kernel
theorem dX11_keepAt_60 : decode cX11_keepAt 60 = .ok (.iinc 2 1, 3) := by decide +kernel
theorem dX11_keepAt_63 : decode cX11_keepAt 63 = .ok (.goto (-28), 3) := by decide +kernel
theorem dX11_keepAt_66 : decode cX11_keepAt 66 = .ok (.return_, 1) := by decide +kernel
theorem dX11_takeFrom_0 : decode cX11_takeFrom 0 = .ok (.iconst 0, 1) := by decide +kernel
theorem dX11_takeFrom_1 : decode cX11_takeFrom 1 = .ok (.istore_n 2, 1) := by decide +kernel
theorem dX11_takeFrom_2 : decode cX11_takeFrom 2 = .ok (.iload_n 2, 1) := by decide +kernel
theorem dX11_takeFrom_3 : decode cX11_takeFrom 3 = .ok (.sipush 1042, 3) := by decide +kernel
theorem dX11_takeFrom_6 : decode cX11_takeFrom 6 = .ok (.if_icmp .ge 27, 3) := by decide +kernel
theorem dX11_takeFrom_9 : decode cX11_takeFrom 9 = .ok (.aload_n 0, 1) := by decide +kernel
theorem dX11_takeFrom_10 : decode cX11_takeFrom 10 = .ok (.getfield 7, 3) := by decide +kernel
theorem dX11_takeFrom_13 : decode cX11_takeFrom 13 = .ok (.iload_n 2, 1) := by decide +kernel
theorem dX11_takeFrom_14 : decode cX11_takeFrom 14 = .ok (.aload_n 0, 1) := by decide +kernel
theorem dX11_takeFrom_15 : decode cX11_takeFrom 15 = .ok (.getfield 17, 3) := by decide +kernel
theorem dX11_takeFrom_18 : decode cX11_takeFrom 18 = .ok (.sipush 1042, 3) := by decide +kernel
theorem dX11_takeFrom_21 : decode cX11_takeFrom 21 = .ok (.iload_n 1, 1) := by decide +kernel
theorem dX11_takeFrom_22 : decode cX11_takeFrom 22 = .ok (.imul, 1) := by decide +kernel
theorem dX11_takeFrom_23 : decode cX11_takeFrom 23 = .ok (.iload_n 2, 1) := by decide +kernel
theorem dX11_takeFrom_24 : decode cX11_takeFrom 24 = .ok (.iadd, 1) := by decide +kernel
theorem dX11_takeFrom_25 : decode cX11_takeFrom 25 = .ok (.iaload, 1) := by decide +kernel
theorem dX11_takeFrom_26 : decode cX11_takeFrom 26 = .ok (.iastore, 1) := by decide +kernel
theorem dX11_takeFrom_27 : decode cX11_takeFrom 27 = .ok (.iinc 2 1, 3) := by decide +kernel
theorem dX11_takeFrom_30 : decode cX11_takeFrom 30 = .ok (.goto (-28), 3) := by decide +kernel
theorem dX11_takeFrom_33 : decode cX11_takeFrom 33 = .ok (.iconst 0, 1) := by decide +kernel
theorem dX11_takeFrom_34 : decode cX11_takeFrom 34 = .ok (.istore_n 2, 1) := by decide +kernel
theorem dX11_takeFrom_35 : decode cX11_takeFrom 35 = .ok (.iload_n 2, 1) := by decide +kernel
theorem dX11_takeFrom_36 : decode cX11_takeFrom 36 = .ok (.sipush 1200, 3) := by decide +kernel
theorem dX11_takeFrom_39 : decode cX11_takeFrom 39 = .ok (.if_icmp .ge 27, 3) := by decide +kernel
theorem dX11_takeFrom_42 : decode cX11_takeFrom 42 = .ok (.aload_n 0, 1) := by decide +kernel
theorem dX11_takeFrom_43 : decode cX11_takeFrom 43 = .ok (.getfield 13, 3) := by decide +kernel
theorem dX11_takeFrom_46 : decode cX11_takeFrom 46 = .ok (.iload_n 2, 1) := by decide +kernel
theorem dX11_takeFrom_47 : decode cX11_takeFrom 47 = .ok (.aload_n 0, 1) := by decide +kernel
theorem dX11_takeFrom_48 : decode cX11_takeFrom 48 = .ok (.getfield 20, 3) := by decide +kernel
theorem dX11_takeFrom_51 : decode cX11_takeFrom 51 = .ok (.sipush 1200, 3) := by decide +kernel
theorem dX11_takeFrom_54 : decode cX11_takeFrom 54 = .ok (.iload_n 1, 1) := by decide +kernel
theorem dX11_takeFrom_55 : decode cX11_takeFrom 55 = .ok (.imul, 1) := by decide +kernel
theorem dX11_takeFrom_56 : decode cX11_takeFrom 56 = .ok (.iload_n 2, 1) := by decide +kernel
theorem dX11_takeFrom_57 : decode cX11_takeFrom 57 = .ok (.iadd, 1) := by decide +kernel
theorem dX11_takeFrom_58 : decode cX11_takeFrom 58 = .ok (.laload, 1) := by decide +kernel
theorem dX11_takeFrom_59 : decode cX11_takeFrom 59 = .ok (.lastore, 1) := by decide +kernel
theorem dX11_takeFrom_60 : decode cX11_takeFrom 60 = .ok (.iinc 2 1, 3) := by decide +kernel
theorem dX11_takeFrom_63 : decode cX11_takeFrom 63 = .ok (.goto (-28), 3) := by decide +kernel
theorem dX11_takeFrom_66 : decode cX11_takeFrom 66 = .ok (.return_, 1) := by decide +kernel
set_option maxRecDepth 20000 in
theorem ggX11_save_X11_keepAt : GoodIn wsX11_save wsX11_keepAt := goodIn_r _ [8, 2, 9, 3, 10, 11, 12, 13, 14, 15, 16, 17, 18, 19, 20, 21, 22, 23, 24, 25, 26, 27, 28, 29, 30, 31, 32, 33, 34] (by decide +kernel) (by decide +kernel)
set_option maxRecDepth 20000 in
theorem gX11_save_X11_keepAt : GoodIn wsX11_save (wsV RX11 60 RX11 yX11_keepAt wsX11_keepAt) := goodIn_app (goodIn_of _ (by decide +kernel)) ggX11_save_X11_keepAt
theorem dX11_save_0 : decode cX11_save 0 = .ok (.aload_n 0, 1) := by decide +kernel
theorem dX11_save_1 : decode cX11_save 1 = .ok (.getfield 57, 3) := by decide +kernel
theorem dX11_save_4 : decode cX11_save 4 = .ok (.iconst 5, 1) := by decide +kernel
theorem dX11_save_5 : decode cX11_save 5 = .ok (.if_icmp .ne 75, 3) := by decide +kernel
theorem dX11_save_8 : decode cX11_save 8 = .ok (.iconst 0, 1) := by decide +kernel
theorem dX11_save_9 : decode cX11_save 9 = .ok (.istore_n 1, 1) := by decide +kernel
theorem dX11_save_10 : decode cX11_save 10 = .ok (.iload_n 1, 1) := by decide +kernel
theorem dX11_save_11 : decode cX11_save 11 = .ok (.sipush 4168, 3) := by decide +kernel
theorem dX11_save_14 : decode cX11_save 14 = .ok (.if_icmp .ge 25, 3) := by decide +kernel
theorem dX11_save_17 : decode cX11_save 17 = .ok (.aload_n 0, 1) := by decide +kernel
theorem dX11_save_18 : decode cX11_save 18 = .ok (.getfield 17, 3) := by decide +kernel
theorem dX11_save_21 : decode cX11_save 21 = .ok (.iload_n 1, 1) := by decide +kernel
theorem dX11_save_22 : decode cX11_save 22 = .ok (.aload_n 0, 1) := by decide +kernel
theorem dX11_save_23 : decode cX11_save 23 = .ok (.getfield 17, 3) := by decide +kernel
theorem dX11_save_26 : decode cX11_save 26 = .ok (.sipush 1042, 3) := by decide +kernel
theorem dX11_save_29 : decode cX11_save 29 = .ok (.iload_n 1, 1) := by decide +kernel
theorem dX11_save_30 : decode cX11_save 30 = .ok (.iadd, 1) := by decide +kernel
theorem dX11_save_31 : decode cX11_save 31 = .ok (.iaload, 1) := by decide +kernel
theorem dX11_save_32 : decode cX11_save 32 = .ok (.iastore, 1) := by decide +kernel
theorem dX11_save_33 : decode cX11_save 33 = .ok (.iinc 1 1, 3) := by decide +kernel
theorem dX11_save_36 : decode cX11_save 36 = .ok (.goto (-26), 3) := by decide +kernel
theorem dX11_save_39 : decode cX11_save 39 = .ok (.iconst 0, 1) := by decide +kernel
theorem dX11_save_40 : decode cX11_save 40 = .ok (.istore_n 1, 1) := by decide +kernel
theorem dX11_save_41 : decode cX11_save 41 = .ok (.iload_n 1, 1) := by decide +kernel
theorem dX11_save_42 : decode cX11_save 42 = .ok (.sipush 4800, 3) := by decide +kernel
theorem dX11_save_45 : decode cX11_save 45 = .ok (.if_icmp .ge 25, 3) := by decide +kernel
theorem dX11_save_48 : decode cX11_save 48 = .ok (.aload_n 0, 1) := by decide +kernel
theorem dX11_save_49 : decode cX11_save 49 = .ok (.getfield 20, 3) := by decide +kernel
theorem dX11_save_52 : decode cX11_save 52 = .ok (.iload_n 1, 1) := by decide +kernel
theorem dX11_save_53 : decode cX11_save 53 = .ok (.aload_n 0, 1) := by decide +kernel
theorem dX11_save_54 : decode cX11_save 54 = .ok (.getfield 20, 3) := by decide +kernel
theorem dX11_save_57 : decode cX11_save 57 = .ok (.sipush 1200, 3) := by decide +kernel
theorem dX11_save_60 : decode cX11_save 60 = .ok (.iload_n 1, 1) := by decide +kernel
theorem dX11_save_61 : decode cX11_save 61 = .ok (.iadd, 1) := by decide +kernel
theorem dX11_save_62 : decode cX11_save 62 = .ok (.laload, 1) := by decide +kernel
theorem dX11_save_63 : decode cX11_save 63 = .ok (.lastore, 1) := by decide +kernel
theorem dX11_save_64 : decode cX11_save 64 = .ok (.iinc 1 1, 3) := by decide +kernel
theorem dX11_save_67 : decode cX11_save 67 = .ok (.goto (-26), 3) := by decide +kernel
theorem dX11_save_70 : decode cX11_save 70 = .ok (.aload_n 0, 1) := by decide +kernel
theorem dX11_save_71 : decode cX11_save 71 = .ok (.dup, 1) := by decide +kernel
theorem dX11_save_72 : decode cX11_save 72 = .ok (.getfield 57, 3) := by decide +kernel
theorem dX11_save_75 : decode cX11_save 75 = .ok (.iconst 1, 1) := by decide +kernel
theorem dX11_save_76 : decode cX11_save 76 = .ok (.isub, 1) := by decide +kernel
theorem dX11_save_77 : decode cX11_save 77 = .ok (.putfield 57, 3) := by decide +kernel
theorem dX11_save_80 : decode cX11_save 80 = .ok (.aload_n 0, 1) := by decide +kernel
theorem dX11_save_81 : decode cX11_save 81 = .ok (.aload_n 0, 1) := by decide +kernel
theorem dX11_save_82 : decode cX11_save 82 = .ok (.getfield 57, 3) := by decide +kernel
theorem dX11_save_85 : decode cX11_save 85 = .ok (.invokevirtual 60, 3) := by decide +kernel
theorem dX11_save_88 : decode cX11_save 88 = .ok (.aload_n 0, 1) := by decide +kernel
theorem dX11_save_89 : decode cX11_save 89 = .ok (.dup, 1) := by decide +kernel
theorem dX11_save_90 : decode cX11_save 90 = .ok (.getfield 57, 3) := by decide +kernel
theorem dX11_save_93 : decode cX11_save 93 = .ok (.iconst 1, 1) := by decide +kernel
theorem dX11_save_94 : decode cX11_save 94 = .ok (.iadd, 1) := by decide +kernel
theorem dX11_save_95 : decode cX11_save 95 = .ok (.putfield 57, 3) := by decide +kernel
theorem dX11_save_98 : decode cX11_save 98 = .ok (.return_, 1) := by decide +kernel
theorem dX11_comes_0 : decode cX11_comes 0 = .ok (.aload_n 0, 1) := by decide +kernel
theorem dX11_comes_1 : decode cX11_comes 1 = .ok (.getfield 64, 3) := by decide +kernel
theorem dX11_comes_4 : decode cX11_comes 4 = .ok (.aload_n 0, 1) := by decide +kernel
theorem dX11_comes_5 : decode cX11_comes 5 = .ok (.getfield 67, 3) := by decide +kernel
theorem dX11_comes_8 : decode cX11_comes 8 = .ok (.if_icmp .ge 20, 3) := by decide +kernel
theorem dX11_comes_11 : decode cX11_comes 11 = .ok (.aload_n 0, 1) := by decide +kernel
theorem dX11_comes_12 : decode cX11_comes 12 = .ok (.getfield 23, 3) := by decide +kernel
theorem dX11_comes_15 : decode cX11_comes 15 = .ok (.aload_n 0, 1) := by decide +kernel
theorem dX11_comes_16 : decode cX11_comes 16 = .ok (.getfield 64, 3) := by decide +kernel
theorem dX11_comes_19 : decode cX11_comes 19 = .ok (.iaload, 1) := by decide +kernel
theorem dX11_comes_20 : decode cX11_comes 20 = .ok (.iload_n 1, 1) := by decide +kernel
theorem dX11_comes_21 : decode cX11_comes 21 = .ok (.if_icmp .ne 7, 3) := by decide +kernel
theorem dX11_comes_24 : decode cX11_comes 24 = .ok (.iconst 1, 1) := by decide +kernel
theorem dX11_comes_25 : decode cX11_comes 25 = .ok (.goto 4, 3) := by decide +kernel
theorem dX11_comes_28 : decode cX11_comes 28 = .ok (.iconst 0, 1) := by decide +kernel
theorem dX11_comes_29 : decode cX11_comes 29 = .ok (.istore_n 2, 1) := by decide +kernel
theorem dX11_comes_30 : decode cX11_comes 30 = .ok (.aload_n 0, 1) := by decide +kernel
theorem dX11_comes_31 : decode cX11_comes 31 = .ok (.dup, 1) := by decide +kernel
theorem dX11_comes_32 : decode cX11_comes 32 = .ok (.getfield 64, 3) := by decide +kernel
theorem dX11_comes_35 : decode cX11_comes 35 = .ok (.iload_n 2, 1) := by decide +kernel
theorem dX11_comes_36 : decode cX11_comes 36 = .ok (.ifCond .eq 7, 3) := by decide +kernel
theorem dX11_comes_39 : decode cX11_comes 39 = .ok (.iconst 1, 1) := by decide +kernel
theorem dX11_comes_40 : decode cX11_comes 40 = .ok (.goto 4, 3) := by decide +kernel
theorem dX11_comes_43 : decode cX11_comes 43 = .ok (.iconst 0, 1) := by decide +kernel
theorem dX11_comes_44 : decode cX11_comes 44 = .ok (.iadd, 1) := by decide +kernel
theorem dX11_comes_45 : decode cX11_comes 45 = .ok (.putfield 64, 3) := by decide +kernel
theorem dX11_comes_48 : decode cX11_comes 48 = .ok (.iload_n 2, 1) := by decide +kernel
theorem dX11_comes_49 : decode cX11_comes 49 = .ok (.ireturn, 1) := by decide +kernel
theorem dX11_shifted_0 : decode cX11_shifted 0 = .ok (.iload_n 0, 1) := by decide +kernel
theorem dX11_shifted_1 : decode cX11_shifted 1 = .ok (.bipush 97, 2) := by decide +kernel
theorem dX11_shifted_3 : decode cX11_shifted 3 = .ok (.isub, 1) := by decide +kernel
theorem dX11_shifted_4 : decode cX11_shifted 4 = .ok (.iconst 1, 1) := by decide +kernel
theorem dX11_shifted_5 : decode cX11_shifted 5 = .ok (.iadd, 1) := by decide +kernel
theorem dX11_shifted_6 : decode cX11_shifted 6 = .ok (.i2l, 1) := by decide +kernel
theorem dX11_shifted_7 : decode cX11_shifted 7 = .ok (.iconst 5, 1) := by decide +kernel
theorem dX11_shifted_8 : decode cX11_shifted 8 = .ok (.bipush 6, 2) := by decide +kernel
theorem dX11_shifted_10 : decode cX11_shifted 10 = .ok (.iload_n 1, 1) := by decide +kernel
theorem dX11_shifted_11 : decode cX11_shifted 11 = .ok (.isub, 1) := by decide +kernel
theorem dX11_shifted_12 : decode cX11_shifted 12 = .ok (.imul, 1) := by decide +kernel
theorem dX11_shifted_13 : decode cX11_shifted 13 = .ok (.lshl, 1) := by decide +kernel
theorem dX11_shifted_14 : decode cX11_shifted 14 = .ok (.lreturn, 1) := by decide +kernel
theorem dX11_letter_0 : decode cX11_letter 0 = .ok (.iload_n 2, 1) := by decide +kernel
theorem dX11_letter_1 : decode cX11_letter 1 = .ok (.bipush 7, 2) := by decide +kernel
theorem dX11_letter_3 : decode cX11_letter 3 = .ok (.if_icmp .ge 19, 3) := by decide +kernel
theorem dX11_letter_6 : decode cX11_letter 6 = .ok (.lload_n 0, 1) := by decide +kernel
theorem dX11_letter_7 : decode cX11_letter 7 = .ok (.iconst 5, 1) := by decide +kernel
theorem dX11_letter_8 : decode cX11_letter 8 = .ok (.bipush 6, 2) := by decide +kernel
theorem dX11_letter_10 : decode cX11_letter 10 = .ok (.iload_n 2, 1) := by decide +kernel
theorem dX11_letter_11 : decode cX11_letter 11 = .ok (.isub, 1) := by decide +kernel
theorem dX11_letter_12 : decode cX11_letter 12 = .ok (.imul, 1) := by decide +kernel
theorem dX11_letter_13 : decode cX11_letter 13 = .ok (.lshr, 1) := by decide +kernel
theorem dX11_letter_14 : decode cX11_letter 14 = .ok (.ldc2_w 70, 3) := by decide +kernel
theorem dX11_letter_17 : decode cX11_letter 17 = .ok (.land, 1) := by decide +kernel
theorem dX11_letter_18 : decode cX11_letter 18 = .ok (.l2i, 1) := by decide +kernel
theorem dX11_letter_19 : decode cX11_letter 19 = .ok (.goto 4, 3) := by decide +kernel
theorem dX11_letter_22 : decode cX11_letter 22 = .ok (.iconst 0, 1) := by decide +kernel
theorem dX11_letter_23 : decode cX11_letter 23 = .ok (.istore_n 3, 1) := by decide +kernel
theorem dX11_letter_24 : decode cX11_letter 24 = .ok (.iload_n 3, 1) := by decide +kernel
theorem dX11_letter_25 : decode cX11_letter 25 = .ok (.ifCond .ne 7, 3) := by decide +kernel
theorem dX11_letter_28 : decode cX11_letter 28 = .ok (.iconst (-1), 1) := by decide +kernel
theorem dX11_letter_29 : decode cX11_letter 29 = .ok (.goto 9, 3) := by decide +kernel
theorem dX11_letter_32 : decode cX11_letter 32 = .ok (.iload_n 3, 1) := by decide +kernel
theorem dX11_letter_33 : decode cX11_letter 33 = .ok (.bipush 97, 2) := by decide +kernel
theorem dX11_letter_35 : decode cX11_letter 35 = .ok (.iadd, 1) := by decide +kernel
theorem dX11_letter_36 : decode cX11_letter 36 = .ok (.iconst 1, 1) := by decide +kernel
theorem dX11_letter_37 : decode cX11_letter 37 = .ok (.isub, 1) := by decide +kernel
theorem dX11_letter_38 : decode cX11_letter 38 = .ok (.ireturn, 1) := by decide +kernel
set_option maxRecDepth 20000 in
theorem ggX11_readWord_X11_in : GoodIn wsX11_readWord wsX11_in := goodIn_r _ [8] (by decide +kernel) (by decide +kernel)
set_option maxRecDepth 20000 in
theorem gX11_readWord_X11_in : GoodIn wsX11_readWord (va_wsS RX11 45 yX11_in wsX11_in) := goodIn_app (goodIn_of _ (by decide +kernel)) ggX11_readWord_X11_in
set_option maxRecDepth 20000 in
theorem ggX11_readWord_X11_shifted : GoodIn wsX11_readWord wsX11_shifted := goodIn_r _ [11] (by decide +kernel) (by decide +kernel)
set_option maxRecDepth 20000 in
theorem gX11_readWord_X11_shifted : GoodIn wsX11_readWord (va_wsS RX11 72 yX11_shifted wsX11_shifted) := goodIn_app (goodIn_of _ (by decide +kernel)) ggX11_readWord_X11_shifted
theorem dX11_readWord_0 : decode cX11_readWord 0 = .ok (.lconst 0, 1) := by decide +kernel
theorem dX11_readWord_1 : decode cX11_readWord 1 = .ok (.lstore_n 3, 1) := by decide +kernel
theorem dX11_readWord_2 : decode cX11_readWord 2 = .ok (.iconst 0, 1) := by decide +kernel
theorem dX11_readWord_3 : decode cX11_readWord 3 = .ok (.istore 5, 2) := by decide +kernel
theorem dX11_readWord_5 : decode cX11_readWord 5 = .ok (.iload 5, 2) := by decide +kernel
theorem dX11_readWord_7 : decode cX11_readWord 7 = .ok (.bipush 7, 2) := by decide +kernel
theorem dX11_readWord_9 : decode cX11_readWord 9 = .ok (.if_icmp .ge 66, 3) := by decide +kernel
theorem dX11_readWord_12 : decode cX11_readWord 12 = .ok (.aload_n 0, 1) := by decide +kernel
theorem dX11_readWord_13 : decode cX11_readWord 13 = .ok (.getfield 64, 3) := by decide +kernel
theorem dX11_readWord_16 : decode cX11_readWord 16 = .ok (.aload_n 0, 1) := by decide +kernel
theorem dX11_readWord_17 : decode cX11_readWord 17 = .ok (.getfield 67, 3) := by decide +kernel
theorem dX11_readWord_20 : decode cX11_readWord 20 = .ok (.if_icmp .ge 55, 3) := by decide +kernel
theorem dX11_readWord_23 : decode cX11_readWord 23 = .ok (.aload_n 0, 1) := by decide +kernel
theorem dX11_readWord_24 : decode cX11_readWord 24 = .ok (.getfield 23, 3) := by decide +kernel
theorem dX11_readWord_27 : decode cX11_readWord 27 = .ok (.aload_n 0, 1) := by decide +kernel
theorem dX11_readWord_28 : decode cX11_readWord 28 = .ok (.getfield 64, 3) := by decide +kernel
theorem dX11_readWord_31 : decode cX11_readWord 31 = .ok (.iaload, 1) := by decide +kernel
theorem dX11_readWord_32 : decode cX11_readWord 32 = .ok (.bipush 97, 2) := by decide +kernel
theorem dX11_readWord_34 : decode cX11_readWord 34 = .ok (.bipush 122, 2) := by decide +kernel
theorem dX11_readWord_36 : decode cX11_readWord 36 = .ok (.invokestatic 45, 3) := by decide +kernel
theorem dX11_readWord_39 : decode cX11_readWord 39 = .ok (.ifCond .eq 36, 3) := by decide +kernel
theorem dX11_readWord_42 : decode cX11_readWord 42 = .ok (.lload_n 3, 1) := by decide +kernel
theorem dX11_readWord_43 : decode cX11_readWord 43 = .ok (.aload_n 0, 1) := by decide +kernel
theorem dX11_readWord_44 : decode cX11_readWord 44 = .ok (.getfield 23, 3) := by decide +kernel
theorem dX11_readWord_47 : decode cX11_readWord 47 = .ok (.aload_n 0, 1) := by decide +kernel
theorem dX11_readWord_48 : decode cX11_readWord 48 = .ok (.getfield 64, 3) := by decide +kernel
theorem dX11_readWord_51 : decode cX11_readWord 51 = .ok (.iaload, 1) := by decide +kernel
theorem dX11_readWord_52 : decode cX11_readWord 52 = .ok (.iload 5, 2) := by decide +kernel
theorem dX11_readWord_54 : decode cX11_readWord 54 = .ok (.invokestatic 72, 3) := by decide +kernel
theorem dX11_readWord_57 : decode cX11_readWord 57 = .ok (.lor, 1) := by decide +kernel
theorem dX11_readWord_58 : decode cX11_readWord 58 = .ok (.lstore_n 3, 1) := by decide +kernel
theorem dX11_readWord_59 : decode cX11_readWord 59 = .ok (.aload_n 0, 1) := by decide +kernel
theorem dX11_readWord_60 : decode cX11_readWord 60 = .ok (.dup, 1) := by decide +kernel
theorem dX11_readWord_61 : decode cX11_readWord 61 = .ok (.getfield 64, 3) := by decide +kernel
theorem dX11_readWord_64 : decode cX11_readWord 64 = .ok (.iconst 1, 1) := by decide +kernel
theorem dX11_readWord_65 : decode cX11_readWord 65 = .ok (.iadd, 1) := by decide +kernel
theorem dX11_readWord_66 : decode cX11_readWord 66 = .ok (.putfield 64, 3) := by decide +kernel
theorem dX11_readWord_69 : decode cX11_readWord 69 = .ok (.iinc 5 1, 3) := by decide +kernel
theorem dX11_readWord_72 : decode cX11_readWord 72 = .ok (.goto (-67), 3) := by decide +kernel
theorem dX11_readWord_75 : decode cX11_readWord 75 = .ok (.iload_n 1, 1) := by decide +kernel
theorem dX11_readWord_76 : decode cX11_readWord 76 = .ok (.bipush 20, 2) := by decide +kernel
theorem dX11_readWord_78 : decode cX11_readWord 78 = .ok (.if_icmp .ge 21, 3) := by decide +kernel
theorem dX11_readWord_81 : decode cX11_readWord 81 = .ok (.iload_n 2, 1) := by decide +kernel
theorem dX11_readWord_82 : decode cX11_readWord 82 = .ok (.bipush 60, 2) := by decide +kernel
theorem dX11_readWord_84 : decode cX11_readWord 84 = .ok (.if_icmp .ge 15, 3) := by decide +kernel
theorem dX11_readWord_87 : decode cX11_readWord 87 = .ok (.aload_n 0, 1) := by decide +kernel
theorem dX11_readWord_88 : decode cX11_readWord 88 = .ok (.getfield 13, 3) := by decide +kernel
theorem dX11_readWord_91 : decode cX11_readWord 91 = .ok (.bipush 60, 2) := by decide +kernel
theorem dX11_readWord_93 : decode cX11_readWord 93 = .ok (.iload_n 1, 1) := by decide +kernel
theorem dX11_readWord_94 : decode cX11_readWord 94 = .ok (.imul, 1) := by decide +kernel
theorem dX11_readWord_95 : decode cX11_readWord 95 = .ok (.iload_n 2, 1) := by decide +kernel
theorem dX11_readWord_96 : decode cX11_readWord 96 = .ok (.iadd, 1) := by decide +kernel
theorem dX11_readWord_97 : decode cX11_readWord 97 = .ok (.lload_n 3, 1) := by decide +kernel
theorem dX11_readWord_98 : decode cX11_readWord 98 = .ok (.lastore, 1) := by decide +kernel
theorem dX11_readWord_99 : decode cX11_readWord 99 = .ok (.iload 5, 2) := by decide +kernel
theorem dX11_readWord_101 : decode cX11_readWord 101 = .ok (.ifCond .le 7, 3) := by decide +kernel
theorem dX11_readWord_104 : decode cX11_readWord 104 = .ok (.iconst 1, 1) := by decide +kernel
theorem dX11_readWord_105 : decode cX11_readWord 105 = .ok (.goto 4, 3) := by decide +kernel
theorem dX11_readWord_108 : decode cX11_readWord 108 = .ok (.iconst 0, 1) := by decide +kernel
theorem dX11_readWord_109 : decode cX11_readWord 109 = .ok (.ireturn, 1) := by decide +kernel
set_option maxRecDepth 20000 in
theorem ggX11_readNumber_X11_in : GoodIn wsX11_readNumber wsX11_in := goodIn_r _ [7] (by decide +kernel) (by decide +kernel)
set_option maxRecDepth 20000 in
theorem gX11_readNumber_X11_in : GoodIn wsX11_readNumber (va_wsS RX11 45 yX11_in wsX11_in) := goodIn_app (goodIn_of _ (by decide +kernel)) ggX11_readNumber_X11_in
theorem dX11_readNumber_0 : decode cX11_readNumber 0 = .ok (.aload_n 0, 1) := by decide +kernel
theorem dX11_readNumber_1 : decode cX11_readNumber 1 = .ok (.getfield 64, 3) := by decide +kernel
theorem dX11_readNumber_4 : decode cX11_readNumber 4 = .ok (.aload_n 0, 1) := by decide +kernel
theorem dX11_readNumber_5 : decode cX11_readNumber 5 = .ok (.getfield 67, 3) := by decide +kernel
theorem dX11_readNumber_8 : decode cX11_readNumber 8 = .ok (.if_icmp .ge 37, 3) := by decide +kernel
theorem dX11_readNumber_11 : decode cX11_readNumber 11 = .ok (.aload_n 0, 1) := by decide +kernel
theorem dX11_readNumber_12 : decode cX11_readNumber 12 = .ok (.getfield 23, 3) := by decide +kernel
theorem dX11_readNumber_15 : decode cX11_readNumber 15 = .ok (.aload_n 0, 1) := by decide +kernel
theorem dX11_readNumber_16 : decode cX11_readNumber 16 = .ok (.getfield 64, 3) := by decide +kernel
theorem dX11_readNumber_19 : decode cX11_readNumber 19 = .ok (.iaload, 1) := by decide +kernel
theorem dX11_readNumber_20 : decode cX11_readNumber 20 = .ok (.bipush 48, 2) := by decide +kernel
theorem dX11_readNumber_22 : decode cX11_readNumber 22 = .ok (.bipush 57, 2) := by decide +kernel
theorem dX11_readNumber_24 : decode cX11_readNumber 24 = .ok (.invokestatic 45, 3) := by decide +kernel
theorem dX11_readNumber_27 : decode cX11_readNumber 27 = .ok (.ifCond .eq 18, 3) := by decide +kernel
theorem dX11_readNumber_30 : decode cX11_readNumber 30 = .ok (.aload_n 0, 1) := by decide +kernel
theorem dX11_readNumber_31 : decode cX11_readNumber 31 = .ok (.getfield 23, 3) := by decide +kernel
theorem dX11_readNumber_34 : decode cX11_readNumber 34 = .ok (.aload_n 0, 1) := by decide +kernel
theorem dX11_readNumber_35 : decode cX11_readNumber 35 = .ok (.getfield 64, 3) := by decide +kernel
theorem dX11_readNumber_38 : decode cX11_readNumber 38 = .ok (.iaload, 1) := by decide +kernel
theorem dX11_readNumber_39 : decode cX11_readNumber 39 = .ok (.bipush 48, 2) := by decide +kernel
theorem dX11_readNumber_41 : decode cX11_readNumber 41 = .ok (.isub, 1) := by decide +kernel
theorem dX11_readNumber_42 : decode cX11_readNumber 42 = .ok (.goto 4, 3) := by decide +kernel
theorem dX11_readNumber_45 : decode cX11_readNumber 45 = .ok (.iconst (-1), 1) := by decide +kernel
theorem dX11_readNumber_46 : decode cX11_readNumber 46 = .ok (.istore_n 1, 1) := by decide +kernel
theorem dX11_readNumber_47 : decode cX11_readNumber 47 = .ok (.aload_n 0, 1) := by decide +kernel
theorem dX11_readNumber_48 : decode cX11_readNumber 48 = .ok (.dup, 1) := by decide +kernel
theorem dX11_readNumber_49 : decode cX11_readNumber 49 = .ok (.getfield 64, 3) := by decide +kernel
theorem dX11_readNumber_52 : decode cX11_readNumber 52 = .ok (.iload_n 1, 1) := by decide +kernel
theorem dX11_readNumber_53 : decode cX11_readNumber 53 = .ok (.iconst (-1), 1) := by decide +kernel
theorem dX11_readNumber_54 : decode cX11_readNumber 54 = .ok (.if_icmp .ne 7, 3) := by decide +kernel
theorem dX11_readNumber_57 : decode cX11_readNumber 57 = .ok (.iconst 0, 1) := by decide +kernel
theorem dX11_readNumber_58 : decode cX11_readNumber 58 = .ok (.goto 4, 3) := by decide +kernel
theorem dX11_readNumber_61 : decode cX11_readNumber 61 = .ok (.iconst 1, 1) := by decide +kernel
theorem dX11_readNumber_62 : decode cX11_readNumber 62 = .ok (.iadd, 1) := by decide +kernel
theorem dX11_readNumber_63 : decode cX11_readNumber 63 = .ok (.putfield 64, 3) := by decide +kernel
theorem dX11_readNumber_66 : decode cX11_readNumber 66 = .ok (.iload_n 1, 1) := by decide +kernel
theorem dX11_readNumber_67 : decode cX11_readNumber 67 = .ok (.iconst 1, 1) := by decide +kernel
theorem dX11_readNumber_68 : decode cX11_readNumber 68 = .ok (.if_icmp .ne 59, 3) := by decide +kernel
theorem dX11_readNumber_71 : decode cX11_readNumber 71 = .ok (.aload_n 0, 1) := by decide +kernel
theorem dX11_readNumber_72 : decode cX11_readNumber 72 = .ok (.getfield 64, 3) := by decide +kernel
theorem dX11_readNumber_75 : decode cX11_readNumber 75 = .ok (.aload_n 0, 1) := by decide +kernel
theorem dX11_readNumber_76 : decode cX11_readNumber 76 = .ok (.getfield 67, 3) := by decide +kernel
theorem dX11_readNumber_79 : decode cX11_readNumber 79 = .ok (.if_icmp .ge 48, 3) := by decide +kernel
theorem dX11_readNumber_82 : decode cX11_readNumber 82 = .ok (.aload_n 0, 1) := by decide +kernel
theorem dX11_readNumber_83 : decode cX11_readNumber 83 = .ok (.getfield 23, 3) := by decide +kernel
theorem dX11_readNumber_86 : decode cX11_readNumber 86 = .ok (.aload_n 0, 1) := by decide +kernel
theorem dX11_readNumber_87 : decode cX11_readNumber 87 = .ok (.getfield 64, 3) := by decide +kernel
theorem dX11_readNumber_90 : decode cX11_readNumber 90 = .ok (.iaload, 1) := by decide +kernel
theorem dX11_readNumber_91 : decode cX11_readNumber 91 = .ok (.bipush 48, 2) := by decide +kernel
theorem dX11_readNumber_93 : decode cX11_readNumber 93 = .ok (.bipush 57, 2) := by decide +kernel
theorem dX11_readNumber_95 : decode cX11_readNumber 95 = .ok (.invokestatic 45, 3) := by decide +kernel
theorem dX11_readNumber_98 : decode cX11_readNumber 98 = .ok (.ifCond .eq 29, 3) := by decide +kernel
theorem dX11_readNumber_101 : decode cX11_readNumber 101 = .ok (.bipush 10, 2) := by decide +kernel
theorem dX11_readNumber_103 : decode cX11_readNumber 103 = .ok (.aload_n 0, 1) := by decide +kernel
theorem dX11_readNumber_104 : decode cX11_readNumber 104 = .ok (.getfield 23, 3) := by decide +kernel
theorem dX11_readNumber_107 : decode cX11_readNumber 107 = .ok (.aload_n 0, 1) := by decide +kernel
theorem dX11_readNumber_108 : decode cX11_readNumber 108 = .ok (.getfield 64, 3) := by decide +kernel
theorem dX11_readNumber_111 : decode cX11_readNumber 111 = .ok (.iaload, 1) := by decide +kernel
theorem dX11_readNumber_112 : decode cX11_readNumber 112 = .ok (.iadd, 1) := by decide +kernel
theorem dX11_readNumber_113 : decode cX11_readNumber 113 = .ok (.bipush 48, 2) := by decide +kernel
theorem dX11_readNumber_115 : decode cX11_readNumber 115 = .ok (.isub, 1) := by decide +kernel
theorem dX11_readNumber_116 : decode cX11_readNumber 116 = .ok (.istore_n 1, 1) := by decide +kernel
theorem dX11_readNumber_117 : decode cX11_readNumber 117 = .ok (.aload_n 0, 1) := by decide +kernel
theorem dX11_readNumber_118 : decode cX11_readNumber 118 = .ok (.dup, 1) := by decide +kernel
theorem dX11_readNumber_119 : decode cX11_readNumber 119 = .ok (.getfield 64, 3) := by decide +kernel
theorem dX11_readNumber_122 : decode cX11_readNumber 122 = .ok (.iconst 1, 1) := by decide +kernel
theorem dX11_readNumber_123 : decode cX11_readNumber 123 = .ok (.iadd, 1) := by decide +kernel
theorem dX11_readNumber_124 : decode cX11_readNumber 124 = .ok (.putfield 64, 3) := by decide +kernel
theorem dX11_readNumber_127 : decode cX11_readNumber 127 = .ok (.iload_n 1, 1) := by decide +kernel
theorem dX11_readNumber_128 : decode cX11_readNumber 128 = .ok (.ireturn, 1) := by decide +kernel
set_option maxRecDepth 20000 in
theorem ggX11_readQuote_X11_readWord : GoodIn wsX11_readQuote wsX11_readWord := goodIn_r _ [9, 10, 11, 12, 13, 14, 15, 8, 16, 17, 18, 19, 36, 37, 38, 39, 40, 41, 42, 43, 44, 45, 46, 47, 48, 49, 50, 51, 52, 53, 54, 55, 56, 57, 58, 59] (by decide +kernel) (by decide +kernel)
set_option maxRecDepth 20000 in
theorem gX11_readQuote_X11_readWord : GoodIn wsX11_readQuote (wsV RX11 79 RX11 yX11_readWord wsX11_readWord) := goodIn_app (goodIn_of _ (by decide +kernel)) ggX11_readQuote_X11_readWord
set_option maxRecDepth 20000 in
theorem ggX11_readQuote_X11_comes : GoodIn wsX11_readQuote wsX11_comes := goodIn_r _ [23, 10, 11, 12, 36, 37, 38, 39, 40, 41, 42, 43, 44, 45, 46, 47, 48, 49, 50, 51, 52, 53, 54, 55, 56, 57, 58, 59] (by decide +kernel) (by decide +kernel)
set_option maxRecDepth 20000 in
theorem gX11_readQuote_X11_comes : GoodIn wsX11_readQuote (wsV RX11 83 RX11 yX11_comes wsX11_comes) := goodIn_app (goodIn_of _ (by decide +kernel)) ggX11_readQuote_X11_comes
set_option maxRecDepth 20000 in
theorem ggX11_readQuote_X11_readNumber : GoodIn wsX11_readQuote wsX11_readNumber := goodIn_r _ [27, 10, 11, 12, 14, 15, 8, 16, 36, 37, 38, 39, 40, 41, 42, 43, 44, 45, 46, 47, 48, 49, 50, 51, 52, 53, 54, 55, 56, 57, 58, 59] (by decide +kernel) (by decide +kernel)
set_option maxRecDepth 20000 in
theorem gX11_readQuote_X11_readNumber : GoodIn wsX11_readQuote (wsV RX11 86 RX11 yX11_readNumber wsX11_readNumber) := goodIn_app (goodIn_of _ (by decide +kernel)) ggX11_readQuote_X11_readNumber
set_option maxRecDepth 20000 in
theorem ggX11_readQuote_X11_isPamphlet : GoodIn wsX11_readQuote wsX11_isPamphlet := goodIn_r _ [31, 2, 14, 15, 8, 16, 36, 37, 38, 39, 40, 41, 42, 43, 44, 45, 46, 47, 48, 49, 50, 51, 52, 53, 54, 55, 56, 57, 58, 59] (by decide +kernel) (by decide +kernel)
set_option maxRecDepth 20000 in
theorem gX11_readQuote_X11_isPamphlet : GoodIn wsX11_readQuote (wsV RX11 49 RX11 yX11_isPamphlet wsX11_isPamphlet) := goodIn_app (goodIn_of _ (by decide +kernel)) ggX11_readQuote_X11_isPamphlet
set_option maxRecDepth 20000 in
theorem ggX11_readQuote_X11_get : GoodIn wsX11_readQuote wsX11_get := goodIn_r _ [35, 2, 36, 37, 38, 39, 40, 41, 42, 43, 44, 45, 46, 47, 48, 49, 50, 51, 52, 53, 54, 55, 56, 57, 58, 59] (by decide +kernel) (by decide +kernel)
set_option maxRecDepth 20000 in
theorem gX11_readQuote_X11_get : GoodIn wsX11_readQuote (wsV RX11 53 RX11 yX11_get wsX11_get) := goodIn_app (goodIn_of _ (by decide +kernel)) ggX11_readQuote_X11_get
theorem dX11_readQuote_0 : decode cX11_readQuote 0 = .ok (.aload_n 0, 1) := by decide +kernel
theorem dX11_readQuote_1 : decode cX11_readQuote 1 = .ok (.getfield 76, 3) := by decide +kernel
theorem dX11_readQuote_4 : decode cX11_readQuote 4 = .ok (.istore_n 2, 1) := by decide +kernel
theorem dX11_readQuote_5 : decode cX11_readQuote 5 = .ok (.aload_n 0, 1) := by decide +kernel
theorem dX11_readQuote_6 : decode cX11_readQuote 6 = .ok (.iload_n 1, 1) := by decide +kernel
theorem dX11_readQuote_7 : decode cX11_readQuote 7 = .ok (.aload_n 0, 1) := by decide +kernel
theorem dX11_readQuote_8 : decode cX11_readQuote 8 = .ok (.getfield 76, 3) := by decide +kernel
theorem dX11_readQuote_11 : decode cX11_readQuote 11 = .ok (.invokevirtual 79, 3) := by decide +kernel
theorem dX11_readQuote_14 : decode cX11_readQuote 14 = .ok (.istore_n 3, 1) := by decide +kernel
theorem dX11_readQuote_15 : decode cX11_readQuote 15 = .ok (.aload_n 0, 1) := by decide +kernel
theorem dX11_readQuote_16 : decode cX11_readQuote 16 = .ok (.dup, 1) := by decide +kernel
theorem dX11_readQuote_17 : decode cX11_readQuote 17 = .ok (.getfield 76, 3) := by decide +kernel
theorem dX11_readQuote_20 : decode cX11_readQuote 20 = .ok (.iconst 1, 1) := by decide +kernel
theorem dX11_readQuote_21 : decode cX11_readQuote 21 = .ok (.iadd, 1) := by decide +kernel
theorem dX11_readQuote_22 : decode cX11_readQuote 22 = .ok (.putfield 76, 3) := by decide +kernel
theorem dX11_readQuote_25 : decode cX11_readQuote 25 = .ok (.iload_n 3, 1) := by decide +kernel
theorem dX11_readQuote_26 : decode cX11_readQuote 26 = .ok (.ifCond .eq 35, 3) := by decide +kernel
theorem dX11_readQuote_29 : decode cX11_readQuote 29 = .ok (.aload_n 0, 1) := by decide +kernel
theorem dX11_readQuote_30 : decode cX11_readQuote 30 = .ok (.bipush 32, 2) := by decide +kernel
theorem dX11_readQuote_32 : decode cX11_readQuote 32 = .ok (.invokevirtual 83, 3) := by decide +kernel
theorem dX11_readQuote_35 : decode cX11_readQuote 35 = .ok (.ifCond .eq 26, 3) := by decide +kernel
theorem dX11_readQuote_38 : decode cX11_readQuote 38 = .ok (.aload_n 0, 1) := by decide +kernel
theorem dX11_readQuote_39 : decode cX11_readQuote 39 = .ok (.iload_n 1, 1) := by decide +kernel
theorem dX11_readQuote_40 : decode cX11_readQuote 40 = .ok (.aload_n 0, 1) := by decide +kernel
theorem dX11_readQuote_41 : decode cX11_readQuote 41 = .ok (.getfield 76, 3) := by decide +kernel
theorem dX11_readQuote_44 : decode cX11_readQuote 44 = .ok (.invokevirtual 79, 3) := by decide +kernel
theorem dX11_readQuote_47 : decode cX11_readQuote 47 = .ok (.istore_n 3, 1) := by decide +kernel
theorem dX11_readQuote_48 : decode cX11_readQuote 48 = .ok (.aload_n 0, 1) := by decide +kernel
theorem dX11_readQuote_49 : decode cX11_readQuote 49 = .ok (.dup, 1) := by decide +kernel
theorem dX11_readQuote_50 : decode cX11_readQuote 50 = .ok (.getfield 76, 3) := by decide +kernel
theorem dX11_readQuote_53 : decode cX11_readQuote 53 = .ok (.iconst 1, 1) := by decide +kernel
theorem dX11_readQuote_54 : decode cX11_readQuote 54 = .ok (.iadd, 1) := by decide +kernel
theorem dX11_readQuote_55 : decode cX11_readQuote 55 = .ok (.putfield 76, 3) := by decide +kernel
theorem dX11_readQuote_58 : decode cX11_readQuote 58 = .ok (.goto (-33), 3) := by decide +kernel
theorem dX11_readQuote_61 : decode cX11_readQuote 61 = .ok (.iload_n 3, 1) := by decide +kernel
theorem dX11_readQuote_62 : decode cX11_readQuote 62 = .ok (.ifCond .eq 25, 3) := by decide +kernel
theorem dX11_readQuote_65 : decode cX11_readQuote 65 = .ok (.aload_n 0, 1) := by decide +kernel
theorem dX11_readQuote_66 : decode cX11_readQuote 66 = .ok (.bipush 34, 2) := by decide +kernel
theorem dX11_readQuote_68 : decode cX11_readQuote 68 = .ok (.invokevirtual 83, 3) := by decide +kernel
theorem dX11_readQuote_71 : decode cX11_readQuote 71 = .ok (.ifCond .eq 16, 3) := by decide +kernel
theorem dX11_readQuote_74 : decode cX11_readQuote 74 = .ok (.aload_n 0, 1) := by decide +kernel
theorem dX11_readQuote_75 : decode cX11_readQuote 75 = .ok (.bipush 64, 2) := by decide +kernel
theorem dX11_readQuote_77 : decode cX11_readQuote 77 = .ok (.invokevirtual 83, 3) := by decide +kernel
theorem dX11_readQuote_80 : decode cX11_readQuote 80 = .ok (.ifCond .eq 7, 3) := by decide +kernel
theorem dX11_readQuote_83 : decode cX11_readQuote 83 = .ok (.iconst 1, 1) := by decide +kernel
theorem dX11_readQuote_84 : decode cX11_readQuote 84 = .ok (.goto 4, 3) := by decide +kernel
theorem dX11_readQuote_87 : decode cX11_readQuote 87 = .ok (.iconst 0, 1) := by decide +kernel
theorem dX11_readQuote_88 : decode cX11_readQuote 88 = .ok (.istore_n 3, 1) := by decide +kernel
theorem dX11_readQuote_89 : decode cX11_readQuote 89 = .ok (.iload_n 3, 1) := by decide +kernel
theorem dX11_readQuote_90 : decode cX11_readQuote 90 = .ok (.ifCond .eq 10, 3) := by decide +kernel
theorem dX11_readQuote_93 : decode cX11_readQuote 93 = .ok (.aload_n 0, 1) := by decide +kernel
theorem dX11_readQuote_94 : decode cX11_readQuote 94 = .ok (.invokevirtual 86, 3) := by decide +kernel
theorem dX11_readQuote_97 : decode cX11_readQuote 97 = .ok (.goto 4, 3) := by decide +kernel
theorem dX11_readQuote_100 : decode cX11_readQuote 100 = .ok (.iconst (-1), 1) := by decide +kernel
theorem dX11_readQuote_101 : decode cX11_readQuote 101 = .ok (.istore 4, 2) := by decide +kernel
theorem dX11_readQuote_103 : decode cX11_readQuote 103 = .ok (.iload 4, 2) := by decide +kernel
theorem dX11_readQuote_105 : decode cX11_readQuote 105 = .ok (.iconst (-1), 1) := by decide +kernel
theorem dX11_readQuote_106 : decode cX11_readQuote 106 = .ok (.if_icmp .ne 5, 3) := by decide +kernel
theorem dX11_readQuote_109 : decode cX11_readQuote 109 = .ok (.iconst 0, 1) := by decide +kernel
theorem dX11_readQuote_110 : decode cX11_readQuote 110 = .ok (.ireturn, 1) := by decide +kernel
theorem dX11_readQuote_111 : decode cX11_readQuote 111 = .ok (.aload_n 0, 1) := by decide +kernel
theorem dX11_readQuote_112 : decode cX11_readQuote 112 = .ok (.iload 4, 2) := by decide +kernel
theorem dX11_readQuote_114 : decode cX11_readQuote 114 = .ok (.invokevirtual 49, 3) := by decide +kernel
theorem dX11_readQuote_117 : decode cX11_readQuote 117 = .ok (.istore 5, 2) := by decide +kernel
theorem dX11_readQuote_119 : decode cX11_readQuote 119 = .ok (.iload 5, 2) := by decide +kernel
theorem dX11_readQuote_121 : decode cX11_readQuote 121 = .ok (.ifCond .ne 7, 3) := by decide +kernel
theorem dX11_readQuote_124 : decode cX11_readQuote 124 = .ok (.iconst 3, 1) := by decide +kernel
theorem dX11_readQuote_125 : decode cX11_readQuote 125 = .ok (.goto 24, 3) := by decide +kernel
theorem dX11_readQuote_128 : decode cX11_readQuote 128 = .ok (.aload_n 0, 1) := by decide +kernel
theorem dX11_readQuote_129 : decode cX11_readQuote 129 = .ok (.iload 4, 2) := by decide +kernel
theorem dX11_readQuote_131 : decode cX11_readQuote 131 = .ok (.iconst 3, 1) := by decide +kernel
theorem dX11_readQuote_132 : decode cX11_readQuote 132 = .ok (.invokevirtual 53, 3) := by decide +kernel
theorem dX11_readQuote_135 : decode cX11_readQuote 135 = .ok (.aload_n 0, 1) := by decide +kernel
theorem dX11_readQuote_136 : decode cX11_readQuote 136 = .ok (.getfield 7, 3) := by decide +kernel
theorem dX11_readQuote_139 : decode cX11_readQuote 139 = .ok (.iconst 0, 1) := by decide +kernel
theorem dX11_readQuote_140 : decode cX11_readQuote 140 = .ok (.iaload, 1) := by decide +kernel
theorem dX11_readQuote_141 : decode cX11_readQuote 141 = .ok (.if_icmp .ne 7, 3) := by decide +kernel
theorem dX11_readQuote_144 : decode cX11_readQuote 144 = .ok (.iconst 4, 1) := by decide +kernel
theorem dX11_readQuote_145 : decode cX11_readQuote 145 = .ok (.goto 4, 3) := by decide +kernel
theorem dX11_readQuote_148 : decode cX11_readQuote 148 = .ok (.iconst 0, 1) := by decide +kernel
theorem dX11_readQuote_149 : decode cX11_readQuote 149 = .ok (.istore 6, 2) := by decide +kernel
theorem dX11_readQuote_151 : decode cX11_readQuote 151 = .ok (.aload_n 0, 1) := by decide +kernel
theorem dX11_readQuote_152 : decode cX11_readQuote 152 = .ok (.aload_n 0, 1) := by decide +kernel
theorem dX11_readQuote_153 : decode cX11_readQuote 153 = .ok (.getfield 90, 3) := by decide +kernel
theorem dX11_readQuote_156 : decode cX11_readQuote 156 = .ok (.iconst 3, 1) := by decide +kernel
theorem dX11_readQuote_157 : decode cX11_readQuote 157 = .ok (.if_icmp .eq 9, 3) := by decide +kernel
theorem dX11_readQuote_160 : decode cX11_readQuote 160 = .ok (.iload 6, 2) := by decide +kernel
theorem dX11_readQuote_162 : decode cX11_readQuote 162 = .ok (.iconst 3, 1) := by decide +kernel
theorem dX11_readQuote_163 : decode cX11_readQuote 163 = .ok (.if_icmp .ne 7, 3) := by decide +kernel
theorem dX11_readQuote_166 : decode cX11_readQuote 166 = .ok (.iconst 3, 1) := by decide +kernel
theorem dX11_readQuote_167 : decode cX11_readQuote 167 = .ok (.goto 21, 3) := by decide +kernel
theorem dX11_readQuote_170 : decode cX11_readQuote 170 = .ok (.iload 6, 2) := by decide +kernel
theorem dX11_readQuote_172 : decode cX11_readQuote 172 = .ok (.aload_n 0, 1) := by decide +kernel
theorem dX11_readQuote_173 : decode cX11_readQuote 173 = .ok (.getfield 90, 3) := by decide +kernel
theorem dX11_readQuote_176 : decode cX11_readQuote 176 = .ok (.if_icmp .le 8, 3) := by decide +kernel
theorem dX11_readQuote_179 : decode cX11_readQuote 179 = .ok (.iload 6, 2) := by decide +kernel
theorem dX11_readQuote_181 : decode cX11_readQuote 181 = .ok (.goto 7, 3) := by decide +kernel
theorem dX11_readQuote_184 : decode cX11_readQuote 184 = .ok (.aload_n 0, 1) := by decide +kernel
theorem dX11_readQuote_185 : decode cX11_readQuote 185 = .ok (.getfield 90, 3) := by decide +kernel
theorem dX11_readQuote_188 : decode cX11_readQuote 188 = .ok (.putfield 90, 3) := by decide +kernel
theorem dX11_readQuote_191 : decode cX11_readQuote 191 = .ok (.iload_n 1, 1) := by decide +kernel
theorem dX11_readQuote_192 : decode cX11_readQuote 192 = .ok (.bipush 20, 2) := by decide +kernel
theorem dX11_readQuote_194 : decode cX11_readQuote 194 = .ok (.if_icmp .ge 62, 3) := by decide +kernel
theorem dX11_readQuote_197 : decode cX11_readQuote 197 = .ok (.aload_n 0, 1) := by decide +kernel
theorem dX11_readQuote_198 : decode cX11_readQuote 198 = .ok (.getfield 93, 3) := by decide +kernel
theorem dX11_readQuote_201 : decode cX11_readQuote 201 = .ok (.bipush 16, 2) := by decide +kernel
theorem dX11_readQuote_203 : decode cX11_readQuote 203 = .ok (.if_icmp .ge 53, 3) := by decide +kernel
theorem dX11_readQuote_206 : decode cX11_readQuote 206 = .ok (.bipush 52, 2) := by decide +kernel
theorem dX11_readQuote_208 : decode cX11_readQuote 208 = .ok (.iload_n 1, 1) := by decide +kernel
theorem dX11_readQuote_209 : decode cX11_readQuote 209 = .ok (.imul, 1) := by decide +kernel
theorem dX11_readQuote_210 : decode cX11_readQuote 210 = .ok (.bipush 6, 2) := by decide +kernel
theorem dX11_readQuote_212 : decode cX11_readQuote 212 = .ok (.iadd, 1) := by decide +kernel
theorem dX11_readQuote_213 : decode cX11_readQuote 213 = .ok (.iconst 3, 1) := by decide +kernel
theorem dX11_readQuote_214 : decode cX11_readQuote 214 = .ok (.aload_n 0, 1) := by decide +kernel
theorem dX11_readQuote_215 : decode cX11_readQuote 215 = .ok (.getfield 93, 3) := by decide +kernel
theorem dX11_readQuote_218 : decode cX11_readQuote 218 = .ok (.imul, 1) := by decide +kernel
theorem dX11_readQuote_219 : decode cX11_readQuote 219 = .ok (.iadd, 1) := by decide +kernel
theorem dX11_readQuote_220 : decode cX11_readQuote 220 = .ok (.istore 7, 2) := by decide +kernel
theorem dX11_readQuote_222 : decode cX11_readQuote 222 = .ok (.aload_n 0, 1) := by decide +kernel
theorem dX11_readQuote_223 : decode cX11_readQuote 223 = .ok (.getfield 7, 3) := by decide +kernel
theorem dX11_readQuote_226 : decode cX11_readQuote 226 = .ok (.iload 7, 2) := by decide +kernel
theorem dX11_readQuote_228 : decode cX11_readQuote 228 = .ok (.iload 4, 2) := by decide +kernel
theorem dX11_readQuote_230 : decode cX11_readQuote 230 = .ok (.iastore, 1) := by decide +kernel
theorem dX11_readQuote_231 : decode cX11_readQuote 231 = .ok (.aload_n 0, 1) := by decide +kernel
theorem dX11_readQuote_232 : decode cX11_readQuote 232 = .ok (.getfield 7, 3) := by decide +kernel
theorem dX11_readQuote_235 : decode cX11_readQuote 235 = .ok (.iload 7, 2) := by decide +kernel
theorem dX11_readQuote_237 : decode cX11_readQuote 237 = .ok (.iconst 1, 1) := by decide +kernel
theorem dX11_readQuote_238 : decode cX11_readQuote 238 = .ok (.iadd, 1) := by decide +kernel
theorem dX11_readQuote_239 : decode cX11_readQuote 239 = .ok (.iload_n 2, 1) := by decide +kernel
theorem dX11_readQuote_240 : decode cX11_readQuote 240 = .ok (.iastore, 1) := by decide +kernel
theorem dX11_readQuote_241 : decode cX11_readQuote 241 = .ok (.aload_n 0, 1) := by decide +kernel
theorem dX11_readQuote_242 : decode cX11_readQuote 242 = .ok (.getfield 7, 3) := by decide +kernel
theorem dX11_readQuote_245 : decode cX11_readQuote 245 = .ok (.iload 7, 2) := by decide +kernel
theorem dX11_readQuote_247 : decode cX11_readQuote 247 = .ok (.iconst 2, 1) := by decide +kernel
theorem dX11_readQuote_248 : decode cX11_readQuote 248 = .ok (.iadd, 1) := by decide +kernel
theorem dX11_readQuote_249 : decode cX11_readQuote 249 = .ok (.aload_n 0, 1) := by decide +kernel
theorem dX11_readQuote_250 : decode cX11_readQuote 250 = .ok (.getfield 76, 3) := by decide +kernel
theorem dX11_readQuote_253 : decode cX11_readQuote 253 = .ok (.iload_n 2, 1) := by decide +kernel
theorem dX11_readQuote_254 : decode cX11_readQuote 254 = .ok (.isub, 1) := by decide +kernel
theorem dX11_readQuote_255 : decode cX11_readQuote 255 = .ok (.iastore, 1) := by decide +kernel
theorem dX11_readQuote_256 : decode cX11_readQuote 256 = .ok (.aload_n 0, 1) := by decide +kernel
theorem dX11_readQuote_257 : decode cX11_readQuote 257 = .ok (.dup, 1) := by decide +kernel
theorem dX11_readQuote_258 : decode cX11_readQuote 258 = .ok (.getfield 93, 3) := by decide +kernel
theorem dX11_readQuote_261 : decode cX11_readQuote 261 = .ok (.iconst 1, 1) := by decide +kernel
theorem dX11_readQuote_262 : decode cX11_readQuote 262 = .ok (.iadd, 1) := by decide +kernel
theorem dX11_readQuote_263 : decode cX11_readQuote 263 = .ok (.putfield 93, 3) := by decide +kernel
theorem dX11_readQuote_266 : decode cX11_readQuote 266 = .ok (.iconst 1, 1) := by decide +kernel
theorem dX11_readQuote_267 : decode cX11_readQuote 267 = .ok (.ireturn, 1) := by decide +kernel
set_option maxRecDepth 20000 in
theorem ggX11_readItem_X11_comes : GoodIn wsX11_readItem wsX11_comes := goodIn_r _ [6, 7, 8, 9, 40, 41, 42, 43, 44, 45, 46, 47, 48, 49, 50, 51, 52, 53, 54, 55, 56, 57, 58, 59, 60, 61, 62, 63] (by decide +kernel) (by decide +kernel)
set_option maxRecDepth 20000 in
theorem gX11_readItem_X11_comes : GoodIn wsX11_readItem (wsV RX11 83 RX11 yX11_comes wsX11_comes) := goodIn_app (goodIn_of _ (by decide +kernel)) ggX11_readItem_X11_comes
set_option maxRecDepth 20000 in
theorem ggX11_readItem_X11_readQuote : GoodIn wsX11_readItem wsX11_readQuote := goodIn_r _ [13, 1, 14, 15, 16, 17, 18, 19, 5, 20, 7, 8, 9, 21, 22, 23, 24, 25, 26, 27, 2, 3, 4, 6, 28, 29, 30, 31, 32, 33, 34, 35, 36, 37, 38, 39, 40, 41, 42, 43, 44, 45, 46, 47, 48, 49, 50, 51, 52, 53, 54, 55, 56, 57, 58, 59, 60, 61, 62, 63] (by decide +kernel) (by decide +kernel)
set_option maxRecDepth 20000 in
theorem gX11_readItem_X11_readQuote : GoodIn wsX11_readItem (wsV RX11 96 RX11 yX11_readQuote wsX11_readQuote) := goodIn_app (goodIn_of _ (by decide +kernel)) ggX11_readItem_X11_readQuote
set_option maxRecDepth 20000 in
theorem ggX11_readItem_X11_readWord : GoodIn wsX11_readItem wsX11_readWord := goodIn_r _ [20, 7, 8, 9, 21, 22, 23, 5, 24, 25, 26, 27, 40, 41, 42, 43, 44, 45, 46, 47, 48, 49, 50, 51, 52, 53, 54, 55, 56, 57, 58, 59, 60, 61, 62, 63] (by decide +kernel) (by decide +kernel)
set_option maxRecDepth 20000 in
theorem gX11_readItem_X11_readWord : GoodIn wsX11_readItem (wsV RX11 79 RX11 yX11_readWord wsX11_readWord) := goodIn_app (goodIn_of _ (by decide +kernel)) ggX11_readItem_X11_readWord
theorem dX11_readItem_0 : decode cX11_readItem 0 = .ok (.aload_n 0, 1) := by decide +kernel
theorem dX11_readItem_1 : decode cX11_readItem 1 = .ok (.bipush 34, 2) := by decide +kernel
theorem dX11_readItem_3 : decode cX11_readItem 3 = .ok (.invokevirtual 83, 3) := by decide +kernel
theorem dX11_readItem_6 : decode cX11_readItem 6 = .ok (.ifCond .eq 9, 3) := by decide +kernel
theorem dX11_readItem_9 : decode cX11_readItem 9 = .ok (.aload_n 0, 1) := by decide +kernel
theorem dX11_readItem_10 : decode cX11_readItem 10 = .ok (.iload_n 1, 1) := by decide +kernel
theorem dX11_readItem_11 : decode cX11_readItem 11 = .ok (.invokevirtual 96, 3) := by decide +kernel
theorem dX11_readItem_14 : decode cX11_readItem 14 = .ok (.ireturn, 1) := by decide +kernel
theorem dX11_readItem_15 : decode cX11_readItem 15 = .ok (.aload_n 0, 1) := by decide +kernel
theorem dX11_readItem_16 : decode cX11_readItem 16 = .ok (.iload_n 1, 1) := by decide +kernel
theorem dX11_readItem_17 : decode cX11_readItem 17 = .ok (.aload_n 0, 1) := by decide +kernel
theorem dX11_readItem_18 : decode cX11_readItem 18 = .ok (.getfield 76, 3) := by decide +kernel
theorem dX11_readItem_21 : decode cX11_readItem 21 = .ok (.invokevirtual 79, 3) := by decide +kernel
theorem dX11_readItem_24 : decode cX11_readItem 24 = .ok (.istore_n 2, 1) := by decide +kernel
theorem dX11_readItem_25 : decode cX11_readItem 25 = .ok (.aload_n 0, 1) := by decide +kernel
theorem dX11_readItem_26 : decode cX11_readItem 26 = .ok (.dup, 1) := by decide +kernel
theorem dX11_readItem_27 : decode cX11_readItem 27 = .ok (.getfield 76, 3) := by decide +kernel
theorem dX11_readItem_30 : decode cX11_readItem 30 = .ok (.iconst 1, 1) := by decide +kernel
theorem dX11_readItem_31 : decode cX11_readItem 31 = .ok (.iadd, 1) := by decide +kernel
theorem dX11_readItem_32 : decode cX11_readItem 32 = .ok (.putfield 76, 3) := by decide +kernel
theorem dX11_readItem_35 : decode cX11_readItem 35 = .ok (.iload_n 2, 1) := by decide +kernel
theorem dX11_readItem_36 : decode cX11_readItem 36 = .ok (.ireturn, 1) := by decide +kernel
set_option maxRecDepth 20000 in
theorem ggX11_readText_X11_readItem : GoodIn wsX11_readText wsX11_readItem := goodIn_r _ [10, 3, 11, 12, 13, 9, 14, 1, 5, 15, 16, 17, 18, 19, 20, 2, 4, 21, 22, 23, 24, 25, 26, 27, 28, 29, 30, 31, 32, 33, 34, 35, 36, 37, 38, 39, 40, 41, 42, 43, 44, 45, 46, 47, 48, 49, 50, 51, 52, 53, 54, 55, 56, 57, 58, 59, 60, 61, 62, 63, 64, 65, 66, 67] (by decide +kernel) (by decide +kernel)
set_option maxRecDepth 20000 in
theorem gX11_readText_X11_readItem : GoodIn wsX11_readText (wsV RX11 99 RX11 yX11_readItem wsX11_readItem) := goodIn_app (goodIn_of _ (by decide +kernel)) ggX11_readText_X11_readItem
set_option maxRecDepth 20000 in
theorem ggX11_readText_X11_comes : GoodIn wsX11_readText wsX11_comes := goodIn_r _ [14, 1, 5, 15, 44, 45, 46, 47, 48, 49, 50, 51, 52, 53, 54, 55, 56, 57, 58, 59, 60, 61, 62, 63, 64, 65, 66, 67] (by decide +kernel) (by decide +kernel)
set_option maxRecDepth 20000 in
theorem gX11_readText_X11_comes : GoodIn wsX11_readText (wsV RX11 83 RX11 yX11_comes wsX11_comes) := goodIn_app (goodIn_of _ (by decide +kernel)) ggX11_readText_X11_comes
theorem dX11_readText_0 : decode cX11_readText 0 = .ok (.aload_n 0, 1) := by decide +kernel
theorem dX11_readText_1 : decode cX11_readText 1 = .ok (.iconst 0, 1) := by decide +kernel
theorem dX11_readText_2 : decode cX11_readText 2 = .ok (.putfield 64, 3) := by decide +kernel
theorem dX11_readText_5 : decode cX11_readText 5 = .ok (.aload_n 0, 1) := by decide +kernel
theorem dX11_readText_6 : decode cX11_readText 6 = .ok (.iconst 0, 1) := by decide +kernel
theorem dX11_readText_7 : decode cX11_readText 7 = .ok (.putfield 90, 3) := by decide +kernel
theorem dX11_readText_10 : decode cX11_readText 10 = .ok (.aload_n 0, 1) := by decide +kernel
theorem dX11_readText_11 : decode cX11_readText 11 = .ok (.iconst 0, 1) := by decide +kernel
theorem dX11_readText_12 : decode cX11_readText 12 = .ok (.putfield 76, 3) := by decide +kernel
theorem dX11_readText_15 : decode cX11_readText 15 = .ok (.aload_n 0, 1) := by decide +kernel
theorem dX11_readText_16 : decode cX11_readText 16 = .ok (.iconst 0, 1) := by decide +kernel
theorem dX11_readText_17 : decode cX11_readText 17 = .ok (.putfield 93, 3) := by decide +kernel
theorem dX11_readText_20 : decode cX11_readText 20 = .ok (.aload_n 0, 1) := by decide +kernel
theorem dX11_readText_21 : decode cX11_readText 21 = .ok (.iload_n 1, 1) := by decide +kernel
theorem dX11_readText_22 : decode cX11_readText 22 = .ok (.invokevirtual 99, 3) := by decide +kernel
theorem dX11_readText_25 : decode cX11_readText 25 = .ok (.istore_n 2, 1) := by decide +kernel
theorem dX11_readText_26 : decode cX11_readText 26 = .ok (.iload_n 2, 1) := by decide +kernel
theorem dX11_readText_27 : decode cX11_readText 27 = .ok (.ifCond .eq 21, 3) := by decide +kernel
theorem dX11_readText_30 : decode cX11_readText 30 = .ok (.aload_n 0, 1) := by decide +kernel
theorem dX11_readText_31 : decode cX11_readText 31 = .ok (.bipush 32, 2) := by decide +kernel
theorem dX11_readText_33 : decode cX11_readText 33 = .ok (.invokevirtual 83, 3) := by decide +kernel
theorem dX11_readText_36 : decode cX11_readText 36 = .ok (.ifCond .eq 12, 3) := by decide +kernel
theorem dX11_readText_39 : decode cX11_readText 39 = .ok (.aload_n 0, 1) := by decide +kernel
theorem dX11_readText_40 : decode cX11_readText 40 = .ok (.iload_n 1, 1) := by decide +kernel
theorem dX11_readText_41 : decode cX11_readText 41 = .ok (.invokevirtual 99, 3) := by decide +kernel
theorem dX11_readText_44 : decode cX11_readText 44 = .ok (.istore_n 2, 1) := by decide +kernel
theorem dX11_readText_45 : decode cX11_readText 45 = .ok (.goto (-19), 3) := by decide +kernel
theorem dX11_readText_48 : decode cX11_readText 48 = .ok (.iload_n 2, 1) := by decide +kernel
theorem dX11_readText_49 : decode cX11_readText 49 = .ok (.ifCond .eq 18, 3) := by decide +kernel
theorem dX11_readText_52 : decode cX11_readText 52 = .ok (.aload_n 0, 1) := by decide +kernel
theorem dX11_readText_53 : decode cX11_readText 53 = .ok (.getfield 64, 3) := by decide +kernel
theorem dX11_readText_56 : decode cX11_readText 56 = .ok (.aload_n 0, 1) := by decide +kernel
theorem dX11_readText_57 : decode cX11_readText 57 = .ok (.getfield 67, 3) := by decide +kernel
theorem dX11_readText_60 : decode cX11_readText 60 = .ok (.if_icmp .ne 7, 3) := by decide +kernel
theorem dX11_readText_63 : decode cX11_readText 63 = .ok (.iconst 1, 1) := by decide +kernel
theorem dX11_readText_64 : decode cX11_readText 64 = .ok (.goto 4, 3) := by decide +kernel
theorem dX11_readText_67 : decode cX11_readText 67 = .ok (.iconst 0, 1) := by decide +kernel
theorem dX11_readText_68 : decode cX11_readText 68 = .ok (.ireturn, 1) := by decide +kernel
set_option maxRecDepth 20000 in
theorem ggX11_errorPosition_X11_readText : GoodIn wsX11_errorPosition wsX11_readText := goodIn_r _ [6, 1, 7, 8, 9, 10, 11, 12, 13, 5, 14, 15, 16, 17, 18, 19, 20, 21, 22, 23, 24, 25, 26, 27, 28, 29, 30, 31, 32, 33, 34, 35, 36, 37, 38, 39, 40, 41, 42, 43, 44, 45, 46, 47, 53, 54, 55, 56, 57, 58, 59, 60, 61, 62, 63, 64, 65, 66, 67, 68, 69, 70, 71, 72, 73, 74, 75, 76] (by decide +kernel) (by decide +kernel)
set_option maxRecDepth 20000 in
theorem gX11_errorPosition_X11_readText : GoodIn wsX11_errorPosition (wsV RX11 102 RX11 yX11_readText wsX11_readText) := goodIn_app (goodIn_of _ (by decide +kernel)) ggX11_errorPosition_X11_readText
set_option maxRecDepth 20000 in
theorem ggX11_errorPosition_X11_plain : GoodIn wsX11_errorPosition wsX11_plain := goodIn_r _ [51, 52, 53, 54, 55, 56, 57, 58, 59, 60, 61, 62, 63, 64, 65, 66, 67, 68, 69, 70, 71, 72, 73, 74, 75, 76] (by decide +kernel) (by decide +kernel)
set_option maxRecDepth 20000 in
theorem gX11_errorPosition_X11_plain : GoodIn wsX11_errorPosition (wsV RX11 105 RX11 yX11_plain wsX11_plain) := goodIn_app (goodIn_of _ (by decide +kernel)) ggX11_errorPosition_X11_plain
theorem dX11_errorPosition_0 : decode cX11_errorPosition 0 = .ok (.aload_n 0, 1) := by decide +kernel
theorem dX11_errorPosition_1 : decode cX11_errorPosition 1 = .ok (.bipush 20, 2) := by decide +kernel
theorem dX11_errorPosition_3 : decode cX11_errorPosition 3 = .ok (.invokevirtual 102, 3) := by decide +kernel
theorem dX11_errorPosition_6 : decode cX11_errorPosition 6 = .ok (.istore_n 1, 1) := by decide +kernel
theorem dX11_errorPosition_7 : decode cX11_errorPosition 7 = .ok (.aload_n 0, 1) := by decide +kernel
theorem dX11_errorPosition_8 : decode cX11_errorPosition 8 = .ok (.aload_n 0, 1) := by decide +kernel
theorem dX11_errorPosition_9 : decode cX11_errorPosition 9 = .ok (.getfield 64, 3) := by decide +kernel
theorem dX11_errorPosition_12 : decode cX11_errorPosition 12 = .ok (.invokevirtual 105, 3) := by decide +kernel
theorem dX11_errorPosition_15 : decode cX11_errorPosition 15 = .ok (.ireturn, 1) := by decide +kernel
set_option maxRecDepth 20000 in
theorem ggX11_why_X11_readText : GoodIn wsX11_why wsX11_readText := goodIn_r _ [7, 8, 2, 9, 10, 11, 12, 13, 14, 6, 15, 16, 17, 18, 19, 20, 21, 22, 23, 24, 1, 25, 26, 27, 28, 29, 30, 31, 32, 33, 34, 35, 36, 37, 38, 39, 40, 41, 42, 43, 44, 45, 46, 47, 48, 49, 50, 51, 52, 53, 54, 55, 56, 57, 58, 59, 60, 61, 62, 63, 64, 65, 66, 67, 68, 69, 70, 71] (by decide +kernel) (by decide +kernel)
set_option maxRecDepth 20000 in
theorem gX11_why_X11_readText : GoodIn wsX11_why (wsV RX11 102 RX11 yX11_readText wsX11_readText) := goodIn_app (goodIn_of _ (by decide +kernel)) ggX11_why_X11_readText
theorem dX11_why_0 : decode cX11_why 0 = .ok (.aload_n 0, 1) := by decide +kernel
theorem dX11_why_1 : decode cX11_why 1 = .ok (.getfield 7, 3) := by decide +kernel
theorem dX11_why_4 : decode cX11_why 4 = .ok (.iconst 1, 1) := by decide +kernel
theorem dX11_why_5 : decode cX11_why 5 = .ok (.iaload, 1) := by decide +kernel
theorem dX11_why_6 : decode cX11_why 6 = .ok (.bipush 20, 2) := by decide +kernel
theorem dX11_why_8 : decode cX11_why 8 = .ok (.if_icmp .ne 5, 3) := by decide +kernel
theorem dX11_why_11 : decode cX11_why 11 = .ok (.iconst 1, 1) := by decide +kernel
theorem dX11_why_12 : decode cX11_why 12 = .ok (.ireturn, 1) := by decide +kernel
theorem dX11_why_13 : decode cX11_why 13 = .ok (.aload_n 0, 1) := by decide +kernel
theorem dX11_why_14 : decode cX11_why 14 = .ok (.bipush 20, 2) := by decide +kernel
theorem dX11_why_16 : decode cX11_why 16 = .ok (.invokevirtual 102, 3) := by decide +kernel
theorem dX11_why_19 : decode cX11_why 19 = .ok (.ifCond .eq 10, 3) := by decide +kernel
theorem dX11_why_22 : decode cX11_why 22 = .ok (.aload_n 0, 1) := by decide +kernel
theorem dX11_why_23 : decode cX11_why 23 = .ok (.getfield 90, 3) := by decide +kernel
theorem dX11_why_26 : decode cX11_why 26 = .ok (.goto 4, 3) := by decide +kernel
theorem dX11_why_29 : decode cX11_why 29 = .ok (.iconst 2, 1) := by decide +kernel
theorem dX11_why_30 : decode cX11_why 30 = .ok (.ireturn, 1) := by decide +kernel
set_option maxRecDepth 20000 in
theorem ggX11_whyNotPrinted_X11_why : GoodIn wsX11_whyNotPrinted wsX11_why := goodIn_r _ [5, 6, 7, 8, 9, 10, 4, 11, 12, 13, 14, 15, 16, 17, 18, 19, 20, 21, 22, 23, 24, 25, 26, 27, 28, 29, 30, 31, 32, 33, 34, 35, 36, 37, 38, 39, 40, 41, 42, 43, 44, 45, 46, 47, 48, 49, 50, 51, 57, 58, 59, 60, 61, 62, 63, 64, 65, 66, 67, 68, 69, 70, 71, 72, 73, 74, 75, 76, 77, 78, 79, 80] (by decide +kernel) (by decide +kernel)
set_option maxRecDepth 20000 in
theorem gX11_whyNotPrinted_X11_why : GoodIn wsX11_whyNotPrinted (wsV RX11 109 RX11 yX11_why wsX11_why) := goodIn_app (goodIn_of _ (by decide +kernel)) ggX11_whyNotPrinted_X11_why
set_option maxRecDepth 20000 in
theorem ggX11_whyNotPrinted_X11_plain : GoodIn wsX11_whyNotPrinted wsX11_plain := goodIn_r _ [55, 56, 57, 58, 59, 60, 61, 62, 63, 64, 65, 66, 67, 68, 69, 70, 71, 72, 73, 74, 75, 76, 77, 78, 79, 80] (by decide +kernel) (by decide +kernel)
set_option maxRecDepth 20000 in
theorem gX11_whyNotPrinted_X11_plain : GoodIn wsX11_whyNotPrinted (wsV RX11 105 RX11 yX11_plain wsX11_plain) := goodIn_app (goodIn_of _ (by decide +kernel)) ggX11_whyNotPrinted_X11_plain
theorem dX11_whyNotPrinted_0 : decode cX11_whyNotPrinted 0 = .ok (.aload_n 0, 1) := by decide +kernel
theorem dX11_whyNotPrinted_1 : decode cX11_whyNotPrinted 1 = .ok (.aload_n 0, 1) := by decide +kernel
theorem dX11_whyNotPrinted_2 : decode cX11_whyNotPrinted 2 = .ok (.invokevirtual 109, 3) := by decide +kernel
theorem dX11_whyNotPrinted_5 : decode cX11_whyNotPrinted 5 = .ok (.invokevirtual 105, 3) := by decide +kernel
theorem dX11_whyNotPrinted_8 : decode cX11_whyNotPrinted 8 = .ok (.ireturn, 1) := by decide +kernel
set_option maxRecDepth 20000 in
theorem ggX11_append_X11_in : GoodIn wsX11_append wsX11_in := goodIn_r _ [6] (by decide +kernel) (by decide +kernel)
set_option maxRecDepth 20000 in
theorem gX11_append_X11_in : GoodIn wsX11_append (va_wsS RX11 45 yX11_in wsX11_in) := goodIn_app (goodIn_of _ (by decide +kernel)) ggX11_append_X11_in
set_option maxRecDepth 20000 in
theorem ggX11_append_X11_holds : GoodIn wsX11_append wsX11_holds := goodIn_r _ [10, 11, 12, 13, 14, 15, 16, 17, 18, 19, 20, 21, 22, 23, 24, 25, 26, 27, 28, 29, 30, 31, 32, 33, 34, 35] (by decide +kernel) (by decide +kernel)
set_option maxRecDepth 20000 in
theorem gX11_append_X11_holds : GoodIn wsX11_append (wsV RX11 112 RX11 yX11_holds wsX11_holds) := goodIn_app (goodIn_of _ (by decide +kernel)) ggX11_append_X11_holds
theorem dX11_append_0 : decode cX11_append 0 = .ok (.aload_n 0, 1) := by decide +kernel
theorem dX11_append_1 : decode cX11_append 1 = .ok (.iload_n 1, 1) := by decide +kernel
theorem dX11_append_2 : decode cX11_append 2 = .ok (.bipush 32, 2) := by decide +kernel
theorem dX11_append_4 : decode cX11_append 4 = .ok (.bipush 126, 2) := by decide +kernel
theorem dX11_append_6 : decode cX11_append 6 = .ok (.invokestatic 45, 3) := by decide +kernel
theorem dX11_append_9 : decode cX11_append 9 = .ok (.ifCond .ne 7, 3) := by decide +kernel
theorem dX11_append_12 : decode cX11_append 12 = .ok (.iconst 1, 1) := by decide +kernel
theorem dX11_append_13 : decode cX11_append 13 = .ok (.goto 17, 3) := by decide +kernel
theorem dX11_append_16 : decode cX11_append 16 = .ok (.aload_n 0, 1) := by decide +kernel
theorem dX11_append_17 : decode cX11_append 17 = .ok (.getfield 67, 3) := by decide +kernel
theorem dX11_append_20 : decode cX11_append 20 = .ok (.bipush 100, 2) := by decide +kernel
theorem dX11_append_22 : decode cX11_append 22 = .ok (.if_icmp .ne 7, 3) := by decide +kernel
theorem dX11_append_25 : decode cX11_append 25 = .ok (.iconst 2, 1) := by decide +kernel
theorem dX11_append_26 : decode cX11_append 26 = .ok (.goto 4, 3) := by decide +kernel
theorem dX11_append_29 : decode cX11_append 29 = .ok (.iconst 0, 1) := by decide +kernel
theorem dX11_append_30 : decode cX11_append 30 = .ok (.invokevirtual 112, 3) := by decide +kernel
theorem dX11_append_33 : decode cX11_append 33 = .ok (.ifCond .ne 5, 3) := by decide +kernel
theorem dX11_append_36 : decode cX11_append 36 = .ok (.iconst 0, 1) := by decide +kernel
theorem dX11_append_37 : decode cX11_append 37 = .ok (.ireturn, 1) := by decide +kernel
theorem dX11_append_38 : decode cX11_append 38 = .ok (.aload_n 0, 1) := by decide +kernel
theorem dX11_append_39 : decode cX11_append 39 = .ok (.getfield 23, 3) := by decide +kernel
theorem dX11_append_42 : decode cX11_append 42 = .ok (.aload_n 0, 1) := by decide +kernel
theorem dX11_append_43 : decode cX11_append 43 = .ok (.getfield 67, 3) := by decide +kernel
theorem dX11_append_46 : decode cX11_append 46 = .ok (.iload_n 1, 1) := by decide +kernel
theorem dX11_append_47 : decode cX11_append 47 = .ok (.iastore, 1) := by decide +kernel
theorem dX11_append_48 : decode cX11_append 48 = .ok (.aload_n 0, 1) := by decide +kernel
theorem dX11_append_49 : decode cX11_append 49 = .ok (.dup, 1) := by decide +kernel
theorem dX11_append_50 : decode cX11_append 50 = .ok (.getfield 67, 3) := by decide +kernel
theorem dX11_append_53 : decode cX11_append 53 = .ok (.iconst 1, 1) := by decide +kernel
theorem dX11_append_54 : decode cX11_append 54 = .ok (.iadd, 1) := by decide +kernel
theorem dX11_append_55 : decode cX11_append 55 = .ok (.putfield 67, 3) := by decide +kernel
theorem dX11_append_58 : decode cX11_append 58 = .ok (.aload_n 0, 1) := by decide +kernel
theorem dX11_append_59 : decode cX11_append 59 = .ok (.getfield 67, 3) := by decide +kernel
theorem dX11_append_62 : decode cX11_append 62 = .ok (.ireturn, 1) := by decide +kernel
set_option maxRecDepth 20000 in
theorem ggX11_clearText_X11_plain : GoodIn wsX11_clearText wsX11_plain := goodIn_r _ [6, 7, 8, 9, 10, 11, 12, 13, 14, 15, 16, 17, 18, 19, 20, 21, 22, 23, 24, 25, 26, 27, 28, 29, 30, 31] (by decide +kernel) (by decide +kernel)
set_option maxRecDepth 20000 in
theorem gX11_clearText_X11_plain : GoodIn wsX11_clearText (wsV RX11 105 RX11 yX11_plain wsX11_plain) := goodIn_app (goodIn_of _ (by decide +kernel)) ggX11_clearText_X11_plain
theorem dX11_clearText_0 : decode cX11_clearText 0 = .ok (.aload_n 0, 1) := by decide +kernel
theorem dX11_clearText_1 : decode cX11_clearText 1 = .ok (.getfield 67, 3) := by decide +kernel
theorem dX11_clearText_4 : decode cX11_clearText 4 = .ok (.istore_n 1, 1) := by decide +kernel
theorem dX11_clearText_5 : decode cX11_clearText 5 = .ok (.aload_n 0, 1) := by decide +kernel
theorem dX11_clearText_6 : decode cX11_clearText 6 = .ok (.iconst 0, 1) := by decide +kernel
theorem dX11_clearText_7 : decode cX11_clearText 7 = .ok (.putfield 67, 3) := by decide +kernel
theorem dX11_clearText_10 : decode cX11_clearText 10 = .ok (.aload_n 0, 1) := by decide +kernel
theorem dX11_clearText_11 : decode cX11_clearText 11 = .ok (.iload_n 1, 1) := by decide +kernel
theorem dX11_clearText_12 : decode cX11_clearText 12 = .ok (.invokevirtual 105, 3) := by decide +kernel
theorem dX11_clearText_15 : decode cX11_clearText 15 = .ok (.ireturn, 1) := by decide +kernel
theorem dX11_start_0 : decode cX11_start 0 = .ok (.iconst 0, 1) := by decide +kernel
theorem dX11_start_1 : decode cX11_start 1 = .ok (.istore_n 2, 1) := by decide +kernel
theorem dX11_start_2 : decode cX11_start 2 = .ok (.iload_n 2, 1) := by decide +kernel
theorem dX11_start_3 : decode cX11_start 3 = .ok (.iload_n 1, 1) := by decide +kernel
theorem dX11_start_4 : decode cX11_start 4 = .ok (.if_icmp .gt 16, 3) := by decide +kernel
theorem dX11_start_7 : decode cX11_start 7 = .ok (.aload_n 0, 1) := by decide +kernel
theorem dX11_start_8 : decode cX11_start 8 = .ok (.getfield 26, 3) := by decide +kernel
theorem dX11_start_11 : decode cX11_start 11 = .ok (.iload_n 2, 1) := by decide +kernel
theorem dX11_start_12 : decode cX11_start 12 = .ok (.iload_n 2, 1) := by decide +kernel
theorem dX11_start_13 : decode cX11_start 13 = .ok (.iastore, 1) := by decide +kernel
theorem dX11_start_14 : decode cX11_start 14 = .ok (.iinc 2 1, 3) := by decide +kernel
theorem dX11_start_17 : decode cX11_start 17 = .ok (.goto (-15), 3) := by decide +kernel
theorem dX11_start_20 : decode cX11_start 20 = .ok (.return_, 1) := by decide +kernel
set_option maxRecDepth 20000 in
theorem ggX11_goOn_X11_size : GoodIn wsX11_goOn wsX11_size := goodIn_r _ [6, 7, 8, 9, 5, 10, 11, 21, 22, 23, 24, 25, 26, 27, 28, 29, 30, 31, 32, 33, 34, 35, 36, 37, 38, 39, 40, 41, 42, 43, 44] (by decide +kernel) (by decide +kernel)
set_option maxRecDepth 20000 in
theorem gX11_goOn_X11_size : GoodIn wsX11_goOn (wsV RX11 115 RX11 yX11_size wsX11_size) := goodIn_app (goodIn_of _ (by decide +kernel)) ggX11_goOn_X11_size
set_option maxRecDepth 20000 in
theorem ggX11_goOn_X11_begin : GoodIn wsX11_goOn wsX11_begin := goodIn_r _ [15, 7, 8, 9, 5, 10, 11, 21, 22, 23, 24, 25, 26, 27, 28, 29, 30, 31, 32, 33, 34, 35, 36, 37, 38, 39, 40, 41, 42, 43, 44] (by decide +kernel) (by decide +kernel)
set_option maxRecDepth 20000 in
theorem gX11_goOn_X11_begin : GoodIn wsX11_goOn (wsV RX11 118 RX11 yX11_begin wsX11_begin) := goodIn_app (goodIn_of _ (by decide +kernel)) ggX11_goOn_X11_begin
set_option maxRecDepth 20000 in
theorem ggX11_goOn_X11_word : GoodIn wsX11_goOn wsX11_word := goodIn_r _ [19, 20, 21, 22, 23, 24, 25, 26, 27, 28, 29, 30, 31, 32, 33, 34, 35, 36, 37, 38, 39, 40, 41, 42, 43, 44] (by decide +kernel) (by decide +kernel)
set_option maxRecDepth 20000 in
theorem gX11_goOn_X11_word : GoodIn wsX11_goOn (wsV RX11 121 RX11 yX11_word wsX11_word) := goodIn_app (goodIn_of _ (by decide +kernel)) ggX11_goOn_X11_word
theorem dX11_goOn_0 : decode cX11_goOn 0 = .ok (.aload_n 0, 1) := by decide +kernel
theorem dX11_goOn_1 : decode cX11_goOn 1 = .ok (.iload_n 1, 1) := by decide +kernel
theorem dX11_goOn_2 : decode cX11_goOn 2 = .ok (.iload_n 2, 1) := by decide +kernel
theorem dX11_goOn_3 : decode cX11_goOn 3 = .ok (.invokevirtual 115, 3) := by decide +kernel
theorem dX11_goOn_6 : decode cX11_goOn 6 = .ok (.istore 6, 2) := by decide +kernel
theorem dX11_goOn_8 : decode cX11_goOn 8 = .ok (.aload_n 0, 1) := by decide +kernel
theorem dX11_goOn_9 : decode cX11_goOn 9 = .ok (.getfield 26, 3) := by decide +kernel
theorem dX11_goOn_12 : decode cX11_goOn 12 = .ok (.iconst 0, 1) := by decide +kernel
theorem dX11_goOn_13 : decode cX11_goOn 13 = .ok (.iaload, 1) := by decide +kernel
theorem dX11_goOn_14 : decode cX11_goOn 14 = .ok (.istore 7, 2) := by decide +kernel
theorem dX11_goOn_16 : decode cX11_goOn 16 = .ok (.aload_n 0, 1) := by decide +kernel
theorem dX11_goOn_17 : decode cX11_goOn 17 = .ok (.getfield 26, 3) := by decide +kernel
theorem dX11_goOn_20 : decode cX11_goOn 20 = .ok (.iconst 0, 1) := by decide +kernel
theorem dX11_goOn_21 : decode cX11_goOn 21 = .ok (.iload 5, 2) := by decide +kernel
theorem dX11_goOn_23 : decode cX11_goOn 23 = .ok (.ifCond .eq 7, 3) := by decide +kernel
theorem dX11_goOn_26 : decode cX11_goOn 26 = .ok (.iconst 0, 1) := by decide +kernel
theorem dX11_goOn_27 : decode cX11_goOn 27 = .ok (.goto 11, 3) := by decide +kernel
theorem dX11_goOn_30 : decode cX11_goOn 30 = .ok (.aload_n 0, 1) := by decide +kernel
theorem dX11_goOn_31 : decode cX11_goOn 31 = .ok (.getfield 26, 3) := by decide +kernel
theorem dX11_goOn_34 : decode cX11_goOn 34 = .ok (.iconst 0, 1) := by decide +kernel
theorem dX11_goOn_35 : decode cX11_goOn 35 = .ok (.iaload, 1) := by decide +kernel
theorem dX11_goOn_36 : decode cX11_goOn 36 = .ok (.iconst 1, 1) := by decide +kernel
theorem dX11_goOn_37 : decode cX11_goOn 37 = .ok (.iadd, 1) := by decide +kernel
theorem dX11_goOn_38 : decode cX11_goOn 38 = .ok (.iastore, 1) := by decide +kernel
theorem dX11_goOn_39 : decode cX11_goOn 39 = .ok (.iconst 1, 1) := by decide +kernel
theorem dX11_goOn_40 : decode cX11_goOn 40 = .ok (.istore 8, 2) := by decide +kernel
theorem dX11_goOn_42 : decode cX11_goOn 42 = .ok (.iload 8, 2) := by decide +kernel
theorem dX11_goOn_44 : decode cX11_goOn 44 = .ok (.iload 6, 2) := by decide +kernel
theorem dX11_goOn_46 : decode cX11_goOn 46 = .ok (.if_icmp .gt 112, 3) := by decide +kernel
theorem dX11_goOn_49 : decode cX11_goOn 49 = .ok (.iload 7, 2) := by decide +kernel
theorem dX11_goOn_51 : decode cX11_goOn 51 = .ok (.aload_n 0, 1) := by decide +kernel
theorem dX11_goOn_52 : decode cX11_goOn 52 = .ok (.iload_n 1, 1) := by decide +kernel
theorem dX11_goOn_53 : decode cX11_goOn 53 = .ok (.aload_n 0, 1) := by decide +kernel
theorem dX11_goOn_54 : decode cX11_goOn 54 = .ok (.iload_n 1, 1) := by decide +kernel
theorem dX11_goOn_55 : decode cX11_goOn 55 = .ok (.iload_n 2, 1) := by decide +kernel
theorem dX11_goOn_56 : decode cX11_goOn 56 = .ok (.invokevirtual 118, 3) := by decide +kernel
theorem dX11_goOn_59 : decode cX11_goOn 59 = .ok (.iload 8, 2) := by decide +kernel
theorem dX11_goOn_61 : decode cX11_goOn 61 = .ok (.iadd, 1) := by decide +kernel
theorem dX11_goOn_62 : decode cX11_goOn 62 = .ok (.iconst 1, 1) := by decide +kernel
theorem dX11_goOn_63 : decode cX11_goOn 63 = .ok (.isub, 1) := by decide +kernel
theorem dX11_goOn_64 : decode cX11_goOn 64 = .ok (.invokevirtual 121, 3) := by decide +kernel
theorem dX11_goOn_67 : decode cX11_goOn 67 = .ok (.lload_n 3, 1) := by decide +kernel
theorem dX11_goOn_68 : decode cX11_goOn 68 = .ok (.lcmp, 1) := by decide +kernel
theorem dX11_goOn_69 : decode cX11_goOn 69 = .ok (.ifCond .ne 7, 3) := by decide +kernel
theorem dX11_goOn_72 : decode cX11_goOn 72 = .ok (.iconst 0, 1) := by decide +kernel
theorem dX11_goOn_73 : decode cX11_goOn 73 = .ok (.goto 4, 3) := by decide +kernel
theorem dX11_goOn_76 : decode cX11_goOn 76 = .ok (.iconst 1, 1) := by decide +kernel
theorem dX11_goOn_77 : decode cX11_goOn 77 = .ok (.iadd, 1) := by decide +kernel
theorem dX11_goOn_78 : decode cX11_goOn 78 = .ok (.istore 9, 2) := by decide +kernel
theorem dX11_goOn_80 : decode cX11_goOn 80 = .ok (.aload_n 0, 1) := by decide +kernel
theorem dX11_goOn_81 : decode cX11_goOn 81 = .ok (.getfield 26, 3) := by decide +kernel
theorem dX11_goOn_84 : decode cX11_goOn 84 = .ok (.iload 8, 2) := by decide +kernel
theorem dX11_goOn_86 : decode cX11_goOn 86 = .ok (.iaload, 1) := by decide +kernel
theorem dX11_goOn_87 : decode cX11_goOn 87 = .ok (.aload_n 0, 1) := by decide +kernel
theorem dX11_goOn_88 : decode cX11_goOn 88 = .ok (.getfield 26, 3) := by decide +kernel
theorem dX11_goOn_91 : decode cX11_goOn 91 = .ok (.iload 8, 2) := by decide +kernel
theorem dX11_goOn_93 : decode cX11_goOn 93 = .ok (.iconst 1, 1) := by decide +kernel
theorem dX11_goOn_94 : decode cX11_goOn 94 = .ok (.isub, 1) := by decide +kernel
theorem dX11_goOn_95 : decode cX11_goOn 95 = .ok (.iaload, 1) := by decide +kernel
theorem dX11_goOn_96 : decode cX11_goOn 96 = .ok (.if_icmp .ge 13, 3) := by decide +kernel
theorem dX11_goOn_99 : decode cX11_goOn 99 = .ok (.aload_n 0, 1) := by decide +kernel
theorem dX11_goOn_100 : decode cX11_goOn 100 = .ok (.getfield 26, 3) := by decide +kernel
theorem dX11_goOn_103 : decode cX11_goOn 103 = .ok (.iload 8, 2) := by decide +kernel
theorem dX11_goOn_105 : decode cX11_goOn 105 = .ok (.iaload, 1) := by decide +kernel
theorem dX11_goOn_106 : decode cX11_goOn 106 = .ok (.goto 12, 3) := by decide +kernel
theorem dX11_goOn_109 : decode cX11_goOn 109 = .ok (.aload_n 0, 1) := by decide +kernel
theorem dX11_goOn_110 : decode cX11_goOn 110 = .ok (.getfield 26, 3) := by decide +kernel
theorem dX11_goOn_113 : decode cX11_goOn 113 = .ok (.iload 8, 2) := by decide +kernel
theorem dX11_goOn_115 : decode cX11_goOn 115 = .ok (.iconst 1, 1) := by decide +kernel
theorem dX11_goOn_116 : decode cX11_goOn 116 = .ok (.isub, 1) := by decide +kernel
theorem dX11_goOn_117 : decode cX11_goOn 117 = .ok (.iaload, 1) := by decide +kernel
theorem dX11_goOn_118 : decode cX11_goOn 118 = .ok (.iconst 1, 1) := by decide +kernel
theorem dX11_goOn_119 : decode cX11_goOn 119 = .ok (.iadd, 1) := by decide +kernel
theorem dX11_goOn_120 : decode cX11_goOn 120 = .ok (.istore 10, 2) := by decide +kernel
theorem dX11_goOn_122 : decode cX11_goOn 122 = .ok (.aload_n 0, 1) := by decide +kernel
theorem dX11_goOn_123 : decode cX11_goOn 123 = .ok (.getfield 26, 3) := by decide +kernel
theorem dX11_goOn_126 : decode cX11_goOn 126 = .ok (.iload 8, 2) := by decide +kernel
theorem dX11_goOn_128 : decode cX11_goOn 128 = .ok (.iaload, 1) := by decide +kernel
theorem dX11_goOn_129 : decode cX11_goOn 129 = .ok (.istore 7, 2) := by decide +kernel
theorem dX11_goOn_131 : decode cX11_goOn 131 = .ok (.aload_n 0, 1) := by decide +kernel
theorem dX11_goOn_132 : decode cX11_goOn 132 = .ok (.getfield 26, 3) := by decide +kernel
theorem dX11_goOn_135 : decode cX11_goOn 135 = .ok (.iload 8, 2) := by decide +kernel
theorem dX11_goOn_137 : decode cX11_goOn 137 = .ok (.iload 9, 2) := by decide +kernel
theorem dX11_goOn_139 : decode cX11_goOn 139 = .ok (.iload 10, 2) := by decide +kernel
theorem dX11_goOn_141 : decode cX11_goOn 141 = .ok (.if_icmp .ge 8, 3) := by decide +kernel
theorem dX11_goOn_144 : decode cX11_goOn 144 = .ok (.iload 9, 2) := by decide +kernel
theorem dX11_goOn_146 : decode cX11_goOn 146 = .ok (.goto 5, 3) := by decide +kernel
theorem dX11_goOn_149 : decode cX11_goOn 149 = .ok (.iload 10, 2) := by decide +kernel
theorem dX11_goOn_151 : decode cX11_goOn 151 = .ok (.iastore, 1) := by decide +kernel
theorem dX11_goOn_152 : decode cX11_goOn 152 = .ok (.iinc 8 1, 3) := by decide +kernel
theorem dX11_goOn_155 : decode cX11_goOn 155 = .ok (.goto (-113), 3) := by decide +kernel
theorem dX11_goOn_158 : decode cX11_goOn 158 = .ok (.return_, 1) := by decide +kernel
set_option maxRecDepth 20000 in
theorem ggX11_find_X11_size : GoodIn wsX11_find wsX11_size := goodIn_r _ [9, 10, 11, 12, 8, 13, 14, 32, 33, 34, 35, 36, 37, 38, 39, 40, 41, 42, 43, 44, 45, 46, 47, 48, 49, 50, 51, 52, 53, 54, 55] (by decide +kernel) (by decide +kernel)
set_option maxRecDepth 20000 in
theorem gX11_find_X11_size : GoodIn wsX11_find (wsV RX11 115 RX11 yX11_size wsX11_size) := goodIn_app (goodIn_of _ (by decide +kernel)) ggX11_find_X11_size
set_option maxRecDepth 20000 in
theorem ggX11_find_X11_get : GoodIn wsX11_find wsX11_get := goodIn_r _ [13, 14, 32, 33, 34, 35, 36, 37, 38, 39, 40, 41, 42, 43, 44, 45, 46, 47, 48, 49, 50, 51, 52, 53, 54, 55] (by decide +kernel) (by decide +kernel)
set_option maxRecDepth 20000 in
theorem gX11_find_X11_get : GoodIn wsX11_find (wsV RX11 53 RX11 yX11_get wsX11_get) := goodIn_app (goodIn_of _ (by decide +kernel)) ggX11_find_X11_get
set_option maxRecDepth 20000 in
theorem ggX11_find_X11_start : GoodIn wsX11_find wsX11_start := goodIn_r _ [18, 2, 32, 33, 34, 35, 36, 37, 38, 39, 40, 41, 42, 43, 44, 45, 46, 47, 48, 49, 50, 51, 52, 53, 54, 55] (by decide +kernel) (by decide +kernel)
set_option maxRecDepth 20000 in
theorem gX11_find_X11_start : GoodIn wsX11_find (wsV RX11 127 RX11 yX11_start wsX11_start) := goodIn_app (goodIn_of _ (by decide +kernel)) ggX11_find_X11_start
set_option maxRecDepth 20000 in
theorem ggX11_find_X11_word : GoodIn wsX11_find wsX11_word := goodIn_r _ [22, 23, 32, 33, 34, 35, 36, 37, 38, 39, 40, 41, 42, 43, 44, 45, 46, 47, 48, 49, 50, 51, 52, 53, 54, 55] (by decide +kernel) (by decide +kernel)
set_option maxRecDepth 20000 in
theorem gX11_find_X11_word : GoodIn wsX11_find (wsV RX11 121 RX11 yX11_word wsX11_word) := goodIn_app (goodIn_of _ (by decide +kernel)) ggX11_find_X11_word
set_option maxRecDepth 20000 in
theorem ggX11_find_X11_goOn : GoodIn wsX11_find wsX11_goOn := goodIn_r _ [27, 2, 5, 6, 7, 8, 9, 10, 11, 12, 13, 14, 28, 29, 30, 31, 19, 20, 21, 22, 23, 32, 33, 34, 35, 36, 37, 38, 39, 40, 41, 42, 43, 44, 45, 46, 47, 48, 49, 50, 51, 52, 53, 54, 55] (by decide +kernel) (by decide +kernel)
set_option maxRecDepth 20000 in
theorem gX11_find_X11_goOn : GoodIn wsX11_find (wsV RX11 130 RX11 yX11_goOn wsX11_goOn) := goodIn_app (goodIn_of _ (by decide +kernel)) ggX11_find_X11_goOn
theorem dX11_find_0 : decode cX11_find 0 = .ok (.aload_n 0, 1) := by decide +kernel
theorem dX11_find_1 : decode cX11_find 1 = .ok (.iload_n 1, 1) := by decide +kernel
theorem dX11_find_2 : decode cX11_find 2 = .ok (.iload_n 2, 1) := by decide +kernel
theorem dX11_find_3 : decode cX11_find 3 = .ok (.invokevirtual 115, 3) := by decide +kernel
theorem dX11_find_6 : decode cX11_find 6 = .ok (.istore 4, 2) := by decide +kernel
theorem dX11_find_8 : decode cX11_find 8 = .ok (.aload_n 0, 1) := by decide +kernel
theorem dX11_find_9 : decode cX11_find 9 = .ok (.bipush 61, 2) := by decide +kernel
theorem dX11_find_11 : decode cX11_find 11 = .ok (.putfield 124, 3) := by decide +kernel
theorem dX11_find_14 : decode cX11_find 14 = .ok (.iconst 0, 1) := by decide +kernel
theorem dX11_find_15 : decode cX11_find 15 = .ok (.istore 5, 2) := by decide +kernel
theorem dX11_find_17 : decode cX11_find 17 = .ok (.iload 5, 2) := by decide +kernel
theorem dX11_find_19 : decode cX11_find 19 = .ok (.aload_n 0, 1) := by decide +kernel
theorem dX11_find_20 : decode cX11_find 20 = .ok (.iload_n 3, 1) := by decide +kernel
theorem dX11_find_21 : decode cX11_find 21 = .ok (.iconst 4, 1) := by decide +kernel
theorem dX11_find_22 : decode cX11_find 22 = .ok (.invokevirtual 53, 3) := by decide +kernel
theorem dX11_find_25 : decode cX11_find 25 = .ok (.if_icmp .ge 92, 3) := by decide +kernel
theorem dX11_find_28 : decode cX11_find 28 = .ok (.aload_n 0, 1) := by decide +kernel
theorem dX11_find_29 : decode cX11_find 29 = .ok (.iload 4, 2) := by decide +kernel
theorem dX11_find_31 : decode cX11_find 31 = .ok (.invokevirtual 127, 3) := by decide +kernel
theorem dX11_find_34 : decode cX11_find 34 = .ok (.iload 5, 2) := by decide +kernel
theorem dX11_find_36 : decode cX11_find 36 = .ok (.istore 6, 2) := by decide +kernel
theorem dX11_find_38 : decode cX11_find 38 = .ok (.iload 6, 2) := by decide +kernel
theorem dX11_find_40 : decode cX11_find 40 = .ok (.aload_n 0, 1) := by decide +kernel
theorem dX11_find_41 : decode cX11_find 41 = .ok (.iload_n 3, 1) := by decide +kernel
theorem dX11_find_42 : decode cX11_find 42 = .ok (.iconst 4, 1) := by decide +kernel
theorem dX11_find_43 : decode cX11_find 43 = .ok (.invokevirtual 53, 3) := by decide +kernel
theorem dX11_find_46 : decode cX11_find 46 = .ok (.if_icmp .ge 65, 3) := by decide +kernel
theorem dX11_find_49 : decode cX11_find 49 = .ok (.aload_n 0, 1) := by decide +kernel
theorem dX11_find_50 : decode cX11_find 50 = .ok (.iload_n 1, 1) := by decide +kernel
theorem dX11_find_51 : decode cX11_find 51 = .ok (.iload_n 2, 1) := by decide +kernel
theorem dX11_find_52 : decode cX11_find 52 = .ok (.aload_n 0, 1) := by decide +kernel
theorem dX11_find_53 : decode cX11_find 53 = .ok (.iload_n 3, 1) := by decide +kernel
theorem dX11_find_54 : decode cX11_find 54 = .ok (.iload 6, 2) := by decide +kernel
theorem dX11_find_56 : decode cX11_find 56 = .ok (.invokevirtual 121, 3) := by decide +kernel
theorem dX11_find_59 : decode cX11_find 59 = .ok (.iconst 0, 1) := by decide +kernel
theorem dX11_find_60 : decode cX11_find 60 = .ok (.invokevirtual 130, 3) := by decide +kernel
theorem dX11_find_63 : decode cX11_find 63 = .ok (.aload_n 0, 1) := by decide +kernel
theorem dX11_find_64 : decode cX11_find 64 = .ok (.getfield 26, 3) := by decide +kernel
theorem dX11_find_67 : decode cX11_find 67 = .ok (.iload 4, 2) := by decide +kernel
theorem dX11_find_69 : decode cX11_find 69 = .ok (.iaload, 1) := by decide +kernel
theorem dX11_find_70 : decode cX11_find 70 = .ok (.aload_n 0, 1) := by decide +kernel
theorem dX11_find_71 : decode cX11_find 71 = .ok (.getfield 124, 3) := by decide +kernel
theorem dX11_find_74 : decode cX11_find 74 = .ok (.if_icmp .ge 31, 3) := by decide +kernel
theorem dX11_find_77 : decode cX11_find 77 = .ok (.aload_n 0, 1) := by decide +kernel
theorem dX11_find_78 : decode cX11_find 78 = .ok (.aload_n 0, 1) := by decide +kernel
theorem dX11_find_79 : decode cX11_find 79 = .ok (.getfield 26, 3) := by decide +kernel
theorem dX11_find_82 : decode cX11_find 82 = .ok (.iload 4, 2) := by decide +kernel
theorem dX11_find_84 : decode cX11_find 84 = .ok (.iaload, 1) := by decide +kernel
theorem dX11_find_85 : decode cX11_find 85 = .ok (.putfield 124, 3) := by decide +kernel
theorem dX11_find_88 : decode cX11_find 88 = .ok (.aload_n 0, 1) := by decide +kernel
theorem dX11_find_89 : decode cX11_find 89 = .ok (.iload 5, 2) := by decide +kernel
theorem dX11_find_91 : decode cX11_find 91 = .ok (.putfield 134, 3) := by decide +kernel
theorem dX11_find_94 : decode cX11_find 94 = .ok (.aload_n 0, 1) := by decide +kernel
theorem dX11_find_95 : decode cX11_find 95 = .ok (.iload 6, 2) := by decide +kernel
theorem dX11_find_97 : decode cX11_find 97 = .ok (.iload 5, 2) := by decide +kernel
theorem dX11_find_99 : decode cX11_find 99 = .ok (.isub, 1) := by decide +kernel
theorem dX11_find_100 : decode cX11_find 100 = .ok (.iconst 1, 1) := by decide +kernel
theorem dX11_find_101 : decode cX11_find 101 = .ok (.iadd, 1) := by decide +kernel
theorem dX11_find_102 : decode cX11_find 102 = .ok (.putfield 137, 3) := by decide +kernel
theorem dX11_find_105 : decode cX11_find 105 = .ok (.iinc 6 1, 3) := by decide +kernel
theorem dX11_find_108 : decode cX11_find 108 = .ok (.goto (-70), 3) := by decide +kernel
theorem dX11_find_111 : decode cX11_find 111 = .ok (.iinc 5 1, 3) := by decide +kernel
theorem dX11_find_114 : decode cX11_find 114 = .ok (.goto (-97), 3) := by decide +kernel
theorem dX11_find_117 : decode cX11_find 117 = .ok (.return_, 1) := by decide +kernel
set_option maxRecDepth 20000 in
theorem ggX11_changesOf_X11_source : GoodIn wsX11_changesOf wsX11_source := goodIn_r _ [6, 7, 8, 9, 5, 10, 11, 40, 41, 42, 43, 44, 45, 46, 47, 48, 49, 50, 51, 52, 53, 54, 55, 56, 57, 58, 59, 60, 61, 62, 63] (by decide +kernel) (by decide +kernel)
set_option maxRecDepth 20000 in
theorem gX11_changesOf_X11_source : GoodIn wsX11_changesOf (wsV RX11 140 RX11 yX11_source wsX11_source) := goodIn_app (goodIn_of _ (by decide +kernel)) ggX11_changesOf_X11_source
set_option maxRecDepth 20000 in
theorem ggX11_changesOf_X11_find : GoodIn wsX11_changesOf wsX11_find := goodIn_r _ [15, 1, 16, 17, 18, 19, 20, 21, 5, 22, 7, 8, 9, 10, 11, 23, 24, 25, 26, 27, 28, 29, 30, 31, 32, 33, 34, 35, 36, 37, 38, 39, 40, 41, 42, 43, 44, 45, 46, 47, 48, 49, 50, 51, 52, 53, 54, 55, 56, 57, 58, 59, 60, 61, 62, 63] (by decide +kernel) (by decide +kernel)
set_option maxRecDepth 20000 in
theorem gX11_changesOf_X11_find : GoodIn wsX11_changesOf (wsV RX11 143 RX11 yX11_find wsX11_find) := goodIn_app (goodIn_of _ (by decide +kernel)) ggX11_changesOf_X11_find
theorem dX11_changesOf_0 : decode cX11_changesOf 0 = .ok (.aload_n 0, 1) := by decide +kernel
theorem dX11_changesOf_1 : decode cX11_changesOf 1 = .ok (.iload_n 1, 1) := by decide +kernel
theorem dX11_changesOf_2 : decode cX11_changesOf 2 = .ok (.iload_n 2, 1) := by decide +kernel
theorem dX11_changesOf_3 : decode cX11_changesOf 3 = .ok (.aload_n 0, 1) := by decide +kernel
theorem dX11_changesOf_4 : decode cX11_changesOf 4 = .ok (.iload_n 1, 1) := by decide +kernel
theorem dX11_changesOf_5 : decode cX11_changesOf 5 = .ok (.iload_n 2, 1) := by decide +kernel
theorem dX11_changesOf_6 : decode cX11_changesOf 6 = .ok (.invokevirtual 140, 3) := by decide +kernel
theorem dX11_changesOf_9 : decode cX11_changesOf 9 = .ok (.invokevirtual 143, 3) := by decide +kernel
theorem dX11_changesOf_12 : decode cX11_changesOf 12 = .ok (.aload_n 0, 1) := by decide +kernel
theorem dX11_changesOf_13 : decode cX11_changesOf 13 = .ok (.getfield 124, 3) := by decide +kernel
theorem dX11_changesOf_16 : decode cX11_changesOf 16 = .ok (.ireturn, 1) := by decide +kernel
set_option maxRecDepth 20000 in
theorem ggX11_byTable_X11_size : GoodIn wsX11_byTable wsX11_size := goodIn_r _ [6, 7, 8, 9, 5, 10, 11, 33, 34, 35, 36, 37, 38, 39, 40, 41, 42, 43, 44, 45, 46, 47, 48, 49, 50, 51, 52, 53, 54, 55, 56] (by decide +kernel) (by decide +kernel)
set_option maxRecDepth 20000 in
theorem gX11_byTable_X11_size : GoodIn wsX11_byTable (wsV RX11 115 RX11 yX11_size wsX11_size) := goodIn_app (goodIn_of _ (by decide +kernel)) ggX11_byTable_X11_size
set_option maxRecDepth 20000 in
theorem ggX11_byTable_X11_source : GoodIn wsX11_byTable wsX11_source := goodIn_r _ [15, 7, 8, 9, 5, 10, 11, 33, 34, 35, 36, 37, 38, 39, 40, 41, 42, 43, 44, 45, 46, 47, 48, 49, 50, 51, 52, 53, 54, 55, 56] (by decide +kernel) (by decide +kernel)
set_option maxRecDepth 20000 in
theorem gX11_byTable_X11_source : GoodIn wsX11_byTable (wsV RX11 140 RX11 yX11_source wsX11_source) := goodIn_app (goodIn_of _ (by decide +kernel)) ggX11_byTable_X11_source
set_option maxRecDepth 20000 in
theorem ggX11_byTable_X11_start : GoodIn wsX11_byTable wsX11_start := goodIn_r _ [19, 1, 33, 34, 35, 36, 37, 38, 39, 40, 41, 42, 43, 44, 45, 46, 47, 48, 49, 50, 51, 52, 53, 54, 55, 56] (by decide +kernel) (by decide +kernel)
set_option maxRecDepth 20000 in
theorem gX11_byTable_X11_start : GoodIn wsX11_byTable (wsV RX11 127 RX11 yX11_start wsX11_start) := goodIn_app (goodIn_of _ (by decide +kernel)) ggX11_byTable_X11_start
set_option maxRecDepth 20000 in
theorem ggX11_byTable_X11_get : GoodIn wsX11_byTable wsX11_get := goodIn_r _ [10, 11, 33, 34, 35, 36, 37, 38, 39, 40, 41, 42, 43, 44, 45, 46, 47, 48, 49, 50, 51, 52, 53, 54, 55, 56] (by decide +kernel) (by decide +kernel)
set_option maxRecDepth 20000 in
theorem gX11_byTable_X11_get : GoodIn wsX11_byTable (wsV RX11 53 RX11 yX11_get wsX11_get) := goodIn_app (goodIn_of _ (by decide +kernel)) ggX11_byTable_X11_get
set_option maxRecDepth 20000 in
theorem ggX11_byTable_X11_word : GoodIn wsX11_byTable wsX11_word := goodIn_r _ [23, 24, 33, 34, 35, 36, 37, 38, 39, 40, 41, 42, 43, 44, 45, 46, 47, 48, 49, 50, 51, 52, 53, 54, 55, 56] (by decide +kernel) (by decide +kernel)
set_option maxRecDepth 20000 in
theorem gX11_byTable_X11_word : GoodIn wsX11_byTable (wsV RX11 121 RX11 yX11_word wsX11_word) := goodIn_app (goodIn_of _ (by decide +kernel)) ggX11_byTable_X11_word
set_option maxRecDepth 20000 in
theorem ggX11_byTable_X11_goOn : GoodIn wsX11_byTable wsX11_goOn := goodIn_r _ [28, 1, 2, 3, 4, 5, 6, 7, 8, 9, 10, 11, 29, 30, 31, 32, 20, 21, 22, 23, 24, 33, 34, 35, 36, 37, 38, 39, 40, 41, 42, 43, 44, 45, 46, 47, 48, 49, 50, 51, 52, 53, 54, 55, 56] (by decide +kernel) (by decide +kernel)
set_option maxRecDepth 20000 in
theorem gX11_byTable_X11_goOn : GoodIn wsX11_byTable (wsV RX11 130 RX11 yX11_goOn wsX11_goOn) := goodIn_app (goodIn_of _ (by decide +kernel)) ggX11_byTable_X11_goOn
theorem dX11_byTable_0 : decode cX11_byTable 0 = .ok (.aload_n 0, 1) := by decide +kernel
theorem dX11_byTable_1 : decode cX11_byTable 1 = .ok (.iload_n 1, 1) := by decide +kernel
theorem dX11_byTable_2 : decode cX11_byTable 2 = .ok (.iload_n 2, 1) := by decide +kernel
theorem dX11_byTable_3 : decode cX11_byTable 3 = .ok (.invokevirtual 115, 3) := by decide +kernel
theorem dX11_byTable_6 : decode cX11_byTable 6 = .ok (.istore_n 3, 1) := by decide +kernel
theorem dX11_byTable_7 : decode cX11_byTable 7 = .ok (.aload_n 0, 1) := by decide +kernel
theorem dX11_byTable_8 : decode cX11_byTable 8 = .ok (.iload_n 1, 1) := by decide +kernel
theorem dX11_byTable_9 : decode cX11_byTable 9 = .ok (.iload_n 2, 1) := by decide +kernel
theorem dX11_byTable_10 : decode cX11_byTable 10 = .ok (.invokevirtual 140, 3) := by decide +kernel
theorem dX11_byTable_13 : decode cX11_byTable 13 = .ok (.istore 4, 2) := by decide +kernel
theorem dX11_byTable_15 : decode cX11_byTable 15 = .ok (.iload_n 3, 1) := by decide +kernel
theorem dX11_byTable_16 : decode cX11_byTable 16 = .ok (.istore 5, 2) := by decide +kernel
theorem dX11_byTable_18 : decode cX11_byTable 18 = .ok (.aload_n 0, 1) := by decide +kernel
theorem dX11_byTable_19 : decode cX11_byTable 19 = .ok (.iload_n 3, 1) := by decide +kernel
theorem dX11_byTable_20 : decode cX11_byTable 20 = .ok (.invokevirtual 127, 3) := by decide +kernel
theorem dX11_byTable_23 : decode cX11_byTable 23 = .ok (.iconst 0, 1) := by decide +kernel
theorem dX11_byTable_24 : decode cX11_byTable 24 = .ok (.istore 6, 2) := by decide +kernel
theorem dX11_byTable_26 : decode cX11_byTable 26 = .ok (.iload 6, 2) := by decide +kernel
theorem dX11_byTable_28 : decode cX11_byTable 28 = .ok (.aload_n 0, 1) := by decide +kernel
theorem dX11_byTable_29 : decode cX11_byTable 29 = .ok (.iload 4, 2) := by decide +kernel
theorem dX11_byTable_31 : decode cX11_byTable 31 = .ok (.iconst 4, 1) := by decide +kernel
theorem dX11_byTable_32 : decode cX11_byTable 32 = .ok (.invokevirtual 53, 3) := by decide +kernel
theorem dX11_byTable_35 : decode cX11_byTable 35 = .ok (.if_icmp .ge 48, 3) := by decide +kernel
theorem dX11_byTable_38 : decode cX11_byTable 38 = .ok (.aload_n 0, 1) := by decide +kernel
theorem dX11_byTable_39 : decode cX11_byTable 39 = .ok (.iload_n 1, 1) := by decide +kernel
theorem dX11_byTable_40 : decode cX11_byTable 40 = .ok (.iload_n 2, 1) := by decide +kernel
theorem dX11_byTable_41 : decode cX11_byTable 41 = .ok (.aload_n 0, 1) := by decide +kernel
theorem dX11_byTable_42 : decode cX11_byTable 42 = .ok (.iload 4, 2) := by decide +kernel
theorem dX11_byTable_44 : decode cX11_byTable 44 = .ok (.iload 6, 2) := by decide +kernel
theorem dX11_byTable_46 : decode cX11_byTable 46 = .ok (.invokevirtual 121, 3) := by decide +kernel
theorem dX11_byTable_49 : decode cX11_byTable 49 = .ok (.iconst 1, 1) := by decide +kernel
theorem dX11_byTable_50 : decode cX11_byTable 50 = .ok (.invokevirtual 130, 3) := by decide +kernel
theorem dX11_byTable_53 : decode cX11_byTable 53 = .ok (.aload_n 0, 1) := by decide +kernel
theorem dX11_byTable_54 : decode cX11_byTable 54 = .ok (.getfield 26, 3) := by decide +kernel
theorem dX11_byTable_57 : decode cX11_byTable 57 = .ok (.iload_n 3, 1) := by decide +kernel
theorem dX11_byTable_58 : decode cX11_byTable 58 = .ok (.iaload, 1) := by decide +kernel
theorem dX11_byTable_59 : decode cX11_byTable 59 = .ok (.iload 5, 2) := by decide +kernel
theorem dX11_byTable_61 : decode cX11_byTable 61 = .ok (.if_icmp .ge 12, 3) := by decide +kernel
theorem dX11_byTable_64 : decode cX11_byTable 64 = .ok (.aload_n 0, 1) := by decide +kernel
theorem dX11_byTable_65 : decode cX11_byTable 65 = .ok (.getfield 26, 3) := by decide +kernel
theorem dX11_byTable_68 : decode cX11_byTable 68 = .ok (.iload_n 3, 1) := by decide +kernel
theorem dX11_byTable_69 : decode cX11_byTable 69 = .ok (.iaload, 1) := by decide +kernel
theorem dX11_byTable_70 : decode cX11_byTable 70 = .ok (.goto 5, 3) := by decide +kernel
theorem dX11_byTable_73 : decode cX11_byTable 73 = .ok (.iload 5, 2) := by decide +kernel
theorem dX11_byTable_75 : decode cX11_byTable 75 = .ok (.istore 5, 2) := by decide +kernel
theorem dX11_byTable_77 : decode cX11_byTable 77 = .ok (.iinc 6 1, 3) := by decide +kernel
theorem dX11_byTable_80 : decode cX11_byTable 80 = .ok (.goto (-54), 3) := by decide +kernel
theorem dX11_byTable_83 : decode cX11_byTable 83 = .ok (.iload 5, 2) := by decide +kernel
theorem dX11_byTable_85 : decode cX11_byTable 85 = .ok (.ireturn, 1) := by decide +kernel
set_option maxRecDepth 20000 in
theorem ggX11_from_X11_source : GoodIn wsX11_from wsX11_source := goodIn_r _ [7, 8, 9, 10, 6, 11, 12, 40, 41, 42, 43, 44, 45, 46, 47, 48, 49, 50, 51, 52, 53, 54, 55, 56, 57, 58, 59, 60, 61, 62, 63] (by decide +kernel) (by decide +kernel)
set_option maxRecDepth 20000 in
theorem gX11_from_X11_source : GoodIn wsX11_from (wsV RX11 140 RX11 yX11_source wsX11_source) := goodIn_app (goodIn_of _ (by decide +kernel)) ggX11_from_X11_source
set_option maxRecDepth 20000 in
theorem ggX11_from_X11_find : GoodIn wsX11_from wsX11_find := goodIn_r _ [16, 17, 18, 1, 2, 19, 20, 21, 6, 22, 8, 9, 10, 11, 12, 23, 24, 25, 26, 27, 28, 29, 30, 31, 32, 33, 34, 35, 36, 37, 38, 39, 40, 41, 42, 43, 44, 45, 46, 47, 48, 49, 50, 51, 52, 53, 54, 55, 56, 57, 58, 59, 60, 61, 62, 63] (by decide +kernel) (by decide +kernel)
set_option maxRecDepth 20000 in
theorem gX11_from_X11_find : GoodIn wsX11_from (wsV RX11 143 RX11 yX11_find wsX11_find) := goodIn_app (goodIn_of _ (by decide +kernel)) ggX11_from_X11_find
set_option maxRecDepth 20000 in
theorem ggX11_from_X11_get : GoodIn wsX11_from wsX11_get := goodIn_r _ [11, 12, 40, 41, 42, 43, 44, 45, 46, 47, 48, 49, 50, 51, 52, 53, 54, 55, 56, 57, 58, 59, 60, 61, 62, 63] (by decide +kernel) (by decide +kernel)
set_option maxRecDepth 20000 in
theorem gX11_from_X11_get : GoodIn wsX11_from (wsV RX11 53 RX11 yX11_get wsX11_get) := goodIn_app (goodIn_of _ (by decide +kernel)) ggX11_from_X11_get
set_option maxRecDepth 20000 in
theorem ggX11_from_X11_begin : GoodIn wsX11_from wsX11_begin := goodIn_r _ [39, 8, 9, 10, 6, 11, 12, 40, 41, 42, 43, 44, 45, 46, 47, 48, 49, 50, 51, 52, 53, 54, 55, 56, 57, 58, 59, 60, 61, 62, 63] (by decide +kernel) (by decide +kernel)
set_option maxRecDepth 20000 in
theorem gX11_from_X11_begin : GoodIn wsX11_from (wsV RX11 118 RX11 yX11_begin wsX11_begin) := goodIn_app (goodIn_of _ (by decide +kernel)) ggX11_from_X11_begin
set_option maxRecDepth 20000 in
theorem ggX11_from_X11_size : GoodIn wsX11_from wsX11_size := goodIn_r _ [22, 8, 9, 10, 6, 11, 12, 40, 41, 42, 43, 44, 45, 46, 47, 48, 49, 50, 51, 52, 53, 54, 55, 56, 57, 58, 59, 60, 61, 62, 63] (by decide +kernel) (by decide +kernel)
set_option maxRecDepth 20000 in
theorem gX11_from_X11_size : GoodIn wsX11_from (wsV RX11 115 RX11 yX11_size wsX11_size) := goodIn_app (goodIn_of _ (by decide +kernel)) ggX11_from_X11_size
theorem dX11_from_0 : decode cX11_from 0 = .ok (.aload_n 0, 1) := by decide +kernel
theorem dX11_from_1 : decode cX11_from 1 = .ok (.iload_n 1, 1) := by decide +kernel
theorem dX11_from_2 : decode cX11_from 2 = .ok (.iload_n 2, 1) := by decide +kernel
theorem dX11_from_3 : decode cX11_from 3 = .ok (.invokevirtual 140, 3) := by decide +kernel
theorem dX11_from_6 : decode cX11_from 6 = .ok (.istore_n 3, 1) := by decide +kernel
theorem dX11_from_7 : decode cX11_from 7 = .ok (.aload_n 0, 1) := by decide +kernel
theorem dX11_from_8 : decode cX11_from 8 = .ok (.iload_n 1, 1) := by decide +kernel
theorem dX11_from_9 : decode cX11_from 9 = .ok (.iload_n 2, 1) := by decide +kernel
theorem dX11_from_10 : decode cX11_from 10 = .ok (.iload_n 3, 1) := by decide +kernel
theorem dX11_from_11 : decode cX11_from 11 = .ok (.invokevirtual 143, 3) := by decide +kernel
theorem dX11_from_14 : decode cX11_from 14 = .ok (.iconst (-1), 1) := by decide +kernel
theorem dX11_from_15 : decode cX11_from 15 = .ok (.istore 4, 2) := by decide +kernel
theorem dX11_from_17 : decode cX11_from 17 = .ok (.iconst 0, 1) := by decide +kernel
theorem dX11_from_18 : decode cX11_from 18 = .ok (.istore 5, 2) := by decide +kernel
theorem dX11_from_20 : decode cX11_from 20 = .ok (.iload 5, 2) := by decide +kernel
theorem dX11_from_22 : decode cX11_from 22 = .ok (.aload_n 0, 1) := by decide +kernel
theorem dX11_from_23 : decode cX11_from 23 = .ok (.iload_n 3, 1) := by decide +kernel
theorem dX11_from_24 : decode cX11_from 24 = .ok (.iconst 5, 1) := by decide +kernel
theorem dX11_from_25 : decode cX11_from 25 = .ok (.invokevirtual 53, 3) := by decide +kernel
theorem dX11_from_28 : decode cX11_from 28 = .ok (.if_icmp .ge 71, 3) := by decide +kernel
theorem dX11_from_31 : decode cX11_from 31 = .ok (.aload_n 0, 1) := by decide +kernel
theorem dX11_from_32 : decode cX11_from 32 = .ok (.getfield 134, 3) := by decide +kernel
theorem dX11_from_35 : decode cX11_from 35 = .ok (.aload_n 0, 1) := by decide +kernel
theorem dX11_from_36 : decode cX11_from 36 = .ok (.iload_n 3, 1) := by decide +kernel
theorem dX11_from_37 : decode cX11_from 37 = .ok (.iload 5, 2) := by decide +kernel
theorem dX11_from_39 : decode cX11_from 39 = .ok (.invokevirtual 118, 3) := by decide +kernel
theorem dX11_from_42 : decode cX11_from 42 = .ok (.if_icmp .lt 34, 3) := by decide +kernel
theorem dX11_from_45 : decode cX11_from 45 = .ok (.aload_n 0, 1) := by decide +kernel
theorem dX11_from_46 : decode cX11_from 46 = .ok (.getfield 134, 3) := by decide +kernel
theorem dX11_from_49 : decode cX11_from 49 = .ok (.aload_n 0, 1) := by decide +kernel
theorem dX11_from_50 : decode cX11_from 50 = .ok (.getfield 137, 3) := by decide +kernel
theorem dX11_from_53 : decode cX11_from 53 = .ok (.iadd, 1) := by decide +kernel
theorem dX11_from_54 : decode cX11_from 54 = .ok (.aload_n 0, 1) := by decide +kernel
theorem dX11_from_55 : decode cX11_from 55 = .ok (.iload_n 3, 1) := by decide +kernel
theorem dX11_from_56 : decode cX11_from 56 = .ok (.iload 5, 2) := by decide +kernel
theorem dX11_from_58 : decode cX11_from 58 = .ok (.invokevirtual 118, 3) := by decide +kernel
theorem dX11_from_61 : decode cX11_from 61 = .ok (.aload_n 0, 1) := by decide +kernel
theorem dX11_from_62 : decode cX11_from 62 = .ok (.iload_n 3, 1) := by decide +kernel
theorem dX11_from_63 : decode cX11_from 63 = .ok (.iload 5, 2) := by decide +kernel
theorem dX11_from_65 : decode cX11_from 65 = .ok (.invokevirtual 115, 3) := by decide +kernel
theorem dX11_from_68 : decode cX11_from 68 = .ok (.iadd, 1) := by decide +kernel
theorem dX11_from_69 : decode cX11_from 69 = .ok (.if_icmp .gt 7, 3) := by decide +kernel
theorem dX11_from_72 : decode cX11_from 72 = .ok (.iconst 1, 1) := by decide +kernel
theorem dX11_from_73 : decode cX11_from 73 = .ok (.goto 4, 3) := by decide +kernel
theorem dX11_from_76 : decode cX11_from 76 = .ok (.iconst 0, 1) := by decide +kernel
theorem dX11_from_77 : decode cX11_from 77 = .ok (.istore 6, 2) := by decide +kernel
theorem dX11_from_79 : decode cX11_from 79 = .ok (.iload 6, 2) := by decide +kernel
theorem dX11_from_81 : decode cX11_from 81 = .ok (.ifCond .eq 8, 3) := by decide +kernel
theorem dX11_from_84 : decode cX11_from 84 = .ok (.iload 5, 2) := by decide +kernel
theorem dX11_from_86 : decode cX11_from 86 = .ok (.goto 5, 3) := by decide +kernel
theorem dX11_from_89 : decode cX11_from 89 = .ok (.iload 4, 2) := by decide +kernel
theorem dX11_from_91 : decode cX11_from 91 = .ok (.istore 4, 2) := by decide +kernel
theorem dX11_from_93 : decode cX11_from 93 = .ok (.iinc 5 1, 3) := by decide +kernel
theorem dX11_from_96 : decode cX11_from 96 = .ok (.goto (-76), 3) := by decide +kernel
theorem dX11_from_99 : decode cX11_from 99 = .ok (.iload 4, 2) := by decide +kernel
theorem dX11_from_101 : decode cX11_from 101 = .ok (.ireturn, 1) := by decide +kernel
set_option maxRecDepth 20000 in
theorem ggX11_trace_X11_from : GoodIn wsX11_trace wsX11_from := goodIn_r _ [7, 8, 9, 10, 11, 12, 6, 13, 14, 15, 16, 17, 18, 19, 20, 21, 22, 23, 24, 25, 26, 27, 28, 29, 30, 31, 32, 33, 34, 35, 36, 37, 38, 39, 40, 41, 42, 43, 44, 45, 46, 47, 48, 49, 50, 51, 52, 53, 54, 55, 56, 57, 58, 59, 60, 61, 62, 63, 64, 65, 66, 67, 68, 69] (by decide +kernel) (by decide +kernel)
set_option maxRecDepth 20000 in
theorem gX11_trace_X11_from : GoodIn wsX11_trace (wsV RX11 147 RX11 yX11_from wsX11_from) := goodIn_app (goodIn_of _ (by decide +kernel)) ggX11_trace_X11_from
set_option maxRecDepth 20000 in
theorem ggX11_trace_X11_source : GoodIn wsX11_trace wsX11_source := goodIn_r _ [13, 14, 15, 16, 6, 17, 18, 46, 47, 48, 49, 50, 51, 52, 53, 54, 55, 56, 57, 58, 59, 60, 61, 62, 63, 64, 65, 66, 67, 68, 69] (by decide +kernel) (by decide +kernel)
set_option maxRecDepth 20000 in
theorem gX11_trace_X11_source : GoodIn wsX11_trace (wsV RX11 140 RX11 yX11_source wsX11_source) := goodIn_app (goodIn_of _ (by decide +kernel)) ggX11_trace_X11_source
theorem dX11_trace_0 : decode cX11_trace 0 = .ok (.iload_n 1, 1) := by decide +kernel
theorem dX11_trace_1 : decode cX11_trace 1 = .ok (.istore_n 3, 1) := by decide +kernel
theorem dX11_trace_2 : decode cX11_trace 2 = .ok (.iload_n 2, 1) := by decide +kernel
theorem dX11_trace_3 : decode cX11_trace 3 = .ok (.istore 4, 2) := by decide +kernel
theorem dX11_trace_5 : decode cX11_trace 5 = .ok (.aload_n 0, 1) := by decide +kernel
theorem dX11_trace_6 : decode cX11_trace 6 = .ok (.iload_n 3, 1) := by decide +kernel
theorem dX11_trace_7 : decode cX11_trace 7 = .ok (.iload 4, 2) := by decide +kernel
theorem dX11_trace_9 : decode cX11_trace 9 = .ok (.invokevirtual 147, 3) := by decide +kernel
theorem dX11_trace_12 : decode cX11_trace 12 = .ok (.istore 5, 2) := by decide +kernel
theorem dX11_trace_14 : decode cX11_trace 14 = .ok (.aload_n 0, 1) := by decide +kernel
theorem dX11_trace_15 : decode cX11_trace 15 = .ok (.iconst 1, 1) := by decide +kernel
theorem dX11_trace_16 : decode cX11_trace 16 = .ok (.putfield 150, 3) := by decide +kernel
theorem dX11_trace_19 : decode cX11_trace 19 = .ok (.iload 5, 2) := by decide +kernel
theorem dX11_trace_21 : decode cX11_trace 21 = .ok (.iconst (-1), 1) := by decide +kernel
theorem dX11_trace_22 : decode cX11_trace 22 = .ok (.if_icmp .eq 37, 3) := by decide +kernel
theorem dX11_trace_25 : decode cX11_trace 25 = .ok (.aload_n 0, 1) := by decide +kernel
theorem dX11_trace_26 : decode cX11_trace 26 = .ok (.iload_n 3, 1) := by decide +kernel
theorem dX11_trace_27 : decode cX11_trace 27 = .ok (.iload 4, 2) := by decide +kernel
theorem dX11_trace_29 : decode cX11_trace 29 = .ok (.invokevirtual 140, 3) := by decide +kernel
theorem dX11_trace_32 : decode cX11_trace 32 = .ok (.istore_n 3, 1) := by decide +kernel
theorem dX11_trace_33 : decode cX11_trace 33 = .ok (.iload 5, 2) := by decide +kernel
theorem dX11_trace_35 : decode cX11_trace 35 = .ok (.istore 4, 2) := by decide +kernel
theorem dX11_trace_37 : decode cX11_trace 37 = .ok (.aload_n 0, 1) := by decide +kernel
theorem dX11_trace_38 : decode cX11_trace 38 = .ok (.iload_n 3, 1) := by decide +kernel
theorem dX11_trace_39 : decode cX11_trace 39 = .ok (.iload 4, 2) := by decide +kernel
theorem dX11_trace_41 : decode cX11_trace 41 = .ok (.invokevirtual 147, 3) := by decide +kernel
theorem dX11_trace_44 : decode cX11_trace 44 = .ok (.istore 5, 2) := by decide +kernel
theorem dX11_trace_46 : decode cX11_trace 46 = .ok (.aload_n 0, 1) := by decide +kernel
theorem dX11_trace_47 : decode cX11_trace 47 = .ok (.dup, 1) := by decide +kernel
theorem dX11_trace_48 : decode cX11_trace 48 = .ok (.getfield 150, 3) := by decide +kernel
theorem dX11_trace_51 : decode cX11_trace 51 = .ok (.iconst 1, 1) := by decide +kernel
theorem dX11_trace_52 : decode cX11_trace 52 = .ok (.iadd, 1) := by decide +kernel
theorem dX11_trace_53 : decode cX11_trace 53 = .ok (.putfield 150, 3) := by decide +kernel
theorem dX11_trace_56 : decode cX11_trace 56 = .ok (.goto (-37), 3) := by decide +kernel
theorem dX11_trace_59 : decode cX11_trace 59 = .ok (.aload_n 0, 1) := by decide +kernel
theorem dX11_trace_60 : decode cX11_trace 60 = .ok (.aload_n 0, 1) := by decide +kernel
theorem dX11_trace_61 : decode cX11_trace 61 = .ok (.iload_n 3, 1) := by decide +kernel
theorem dX11_trace_62 : decode cX11_trace 62 = .ok (.iload 4, 2) := by decide +kernel
theorem dX11_trace_64 : decode cX11_trace 64 = .ok (.invokevirtual 140, 3) := by decide +kernel
theorem dX11_trace_67 : decode cX11_trace 67 = .ok (.putfield 153, 3) := by decide +kernel
theorem dX11_trace_70 : decode cX11_trace 70 = .ok (.return_, 1) := by decide +kernel
set_option maxRecDepth 20000 in
theorem ggX11_print_X11_isAuthor : GoodIn wsX11_print wsX11_isAuthor := goodIn_r _ [8, 9, 10, 7, 11] (by decide +kernel) (by decide +kernel)
set_option maxRecDepth 20000 in
theorem gX11_print_X11_isAuthor : GoodIn wsX11_print (va_wsS RX11 156 yX11_isAuthor wsX11_isAuthor) := goodIn_app (goodIn_of _ (by decide +kernel)) ggX11_print_X11_isAuthor
set_option maxRecDepth 20000 in
theorem ggX11_print_X11_why : GoodIn wsX11_print wsX11_why := goodIn_r _ [15, 1, 16, 17, 18, 19, 7, 20, 21, 2, 3, 4, 22, 23, 24, 25, 26, 27, 28, 29, 30, 31, 32, 33, 34, 35, 36, 37, 38, 39, 9, 10, 11, 40, 41, 42, 43, 44, 45, 46, 47, 48, 49, 50, 51, 52, 53, 54, 71, 72, 73, 74, 75, 76, 77, 78, 79, 80, 81, 82, 83, 84, 85, 86, 87, 88, 89, 90, 91, 92, 93, 94] (by decide +kernel) (by decide +kernel)
set_option maxRecDepth 20000 in
theorem gX11_print_X11_why : GoodIn wsX11_print (wsV RX11 109 RX11 yX11_why wsX11_why) := goodIn_app (goodIn_of _ (by decide +kernel)) ggX11_print_X11_why
set_option maxRecDepth 20000 in
theorem ggX11_print_X11_holds : GoodIn wsX11_print wsX11_holds := goodIn_r _ [58, 59, 71, 72, 73, 74, 75, 76, 77, 78, 79, 80, 81, 82, 83, 84, 85, 86, 87, 88, 89, 90, 91, 92, 93, 94] (by decide +kernel) (by decide +kernel)
set_option maxRecDepth 20000 in
theorem gX11_print_X11_holds : GoodIn wsX11_print (wsV RX11 112 RX11 yX11_holds wsX11_holds) := goodIn_app (goodIn_of _ (by decide +kernel)) ggX11_print_X11_holds
set_option maxRecDepth 20000 in
theorem ggX11_print_X11_save : GoodIn wsX11_print wsX11_save := goodIn_r _ [63, 64, 65, 66, 67, 68, 69, 7, 70, 1, 39, 71, 72, 73, 74, 75, 76, 77, 78, 79, 80, 81, 82, 83, 84, 85, 86, 87, 88, 89, 90, 91, 92, 93, 94] (by decide +kernel) (by decide +kernel)
set_option maxRecDepth 20000 in
theorem gX11_print_X11_save : GoodIn wsX11_print (wsV RX11 159 RX11 yX11_save wsX11_save) := goodIn_app (goodIn_of _ (by decide +kernel)) ggX11_print_X11_save
set_option maxRecDepth 20000 in
theorem ggX11_print_X11_readText : GoodIn wsX11_print wsX11_readText := goodIn_r _ [20, 21, 16, 2, 3, 4, 22, 23, 24, 7, 25, 26, 27, 28, 29, 30, 31, 32, 33, 34, 1, 35, 36, 37, 38, 39, 9, 10, 11, 40, 41, 42, 43, 44, 45, 46, 47, 48, 49, 50, 51, 52, 53, 54, 71, 72, 73, 74, 75, 76, 77, 78, 79, 80, 81, 82, 83, 84, 85, 86, 87, 88, 89, 90, 91, 92, 93, 94] (by decide +kernel) (by decide +kernel)
set_option maxRecDepth 20000 in
theorem gX11_print_X11_readText : GoodIn wsX11_print (wsV RX11 102 RX11 yX11_readText wsX11_readText) := goodIn_app (goodIn_of _ (by decide +kernel)) ggX11_print_X11_readText
theorem dX11_print_0 : decode cX11_print 0 = .ok (.aload_n 0, 1) := by decide +kernel
theorem dX11_print_1 : decode cX11_print 1 = .ok (.iload_n 1, 1) := by decide +kernel
theorem dX11_print_2 : decode cX11_print 2 = .ok (.invokestatic 156, 3) := by decide +kernel
theorem dX11_print_5 : decode cX11_print 5 = .ok (.ifCond .ne 7, 3) := by decide +kernel
theorem dX11_print_8 : decode cX11_print 8 = .ok (.iconst 1, 1) := by decide +kernel
theorem dX11_print_9 : decode cX11_print 9 = .ok (.goto 15, 3) := by decide +kernel
theorem dX11_print_12 : decode cX11_print 12 = .ok (.aload_n 0, 1) := by decide +kernel
theorem dX11_print_13 : decode cX11_print 13 = .ok (.invokevirtual 109, 3) := by decide +kernel
theorem dX11_print_16 : decode cX11_print 16 = .ok (.ifCond .le 7, 3) := by decide +kernel
theorem dX11_print_19 : decode cX11_print 19 = .ok (.iconst 2, 1) := by decide +kernel
theorem dX11_print_20 : decode cX11_print 20 = .ok (.goto 4, 3) := by decide +kernel
theorem dX11_print_23 : decode cX11_print 23 = .ok (.iconst 0, 1) := by decide +kernel
theorem dX11_print_24 : decode cX11_print 24 = .ok (.invokevirtual 112, 3) := by decide +kernel
theorem dX11_print_27 : decode cX11_print 27 = .ok (.ifCond .ne 5, 3) := by decide +kernel
theorem dX11_print_30 : decode cX11_print 30 = .ok (.iconst 0, 1) := by decide +kernel
theorem dX11_print_31 : decode cX11_print 31 = .ok (.ireturn, 1) := by decide +kernel
theorem dX11_print_32 : decode cX11_print 32 = .ok (.aload_n 0, 1) := by decide +kernel
theorem dX11_print_33 : decode cX11_print 33 = .ok (.invokevirtual 159, 3) := by decide +kernel
theorem dX11_print_36 : decode cX11_print 36 = .ok (.aload_n 0, 1) := by decide +kernel
theorem dX11_print_37 : decode cX11_print 37 = .ok (.getfield 7, 3) := by decide +kernel
theorem dX11_print_40 : decode cX11_print 40 = .ok (.iconst 1, 1) := by decide +kernel
theorem dX11_print_41 : decode cX11_print 41 = .ok (.iaload, 1) := by decide +kernel
theorem dX11_print_42 : decode cX11_print 42 = .ok (.istore_n 2, 1) := by decide +kernel
theorem dX11_print_43 : decode cX11_print 43 = .ok (.aload_n 0, 1) := by decide +kernel
theorem dX11_print_44 : decode cX11_print 44 = .ok (.iload_n 2, 1) := by decide +kernel
theorem dX11_print_45 : decode cX11_print 45 = .ok (.invokevirtual 102, 3) := by decide +kernel
theorem dX11_print_48 : decode cX11_print 48 = .ok (.istore_n 3, 1) := by decide +kernel
theorem dX11_print_49 : decode cX11_print 49 = .ok (.aload_n 0, 1) := by decide +kernel
theorem dX11_print_50 : decode cX11_print 50 = .ok (.getfield 7, 3) := by decide +kernel
theorem dX11_print_53 : decode cX11_print 53 = .ok (.bipush 52, 2) := by decide +kernel
theorem dX11_print_55 : decode cX11_print 55 = .ok (.iload_n 2, 1) := by decide +kernel
theorem dX11_print_56 : decode cX11_print 56 = .ok (.imul, 1) := by decide +kernel
theorem dX11_print_57 : decode cX11_print 57 = .ok (.iconst 2, 1) := by decide +kernel
theorem dX11_print_58 : decode cX11_print 58 = .ok (.iadd, 1) := by decide +kernel
theorem dX11_print_59 : decode cX11_print 59 = .ok (.iload_n 1, 1) := by decide +kernel
theorem dX11_print_60 : decode cX11_print 60 = .ok (.iastore, 1) := by decide +kernel
theorem dX11_print_61 : decode cX11_print 61 = .ok (.aload_n 0, 1) := by decide +kernel
theorem dX11_print_62 : decode cX11_print 62 = .ok (.getfield 7, 3) := by decide +kernel
theorem dX11_print_65 : decode cX11_print 65 = .ok (.bipush 52, 2) := by decide +kernel
theorem dX11_print_67 : decode cX11_print 67 = .ok (.iload_n 2, 1) := by decide +kernel
theorem dX11_print_68 : decode cX11_print 68 = .ok (.imul, 1) := by decide +kernel
theorem dX11_print_69 : decode cX11_print 69 = .ok (.iconst 3, 1) := by decide +kernel
theorem dX11_print_70 : decode cX11_print 70 = .ok (.iadd, 1) := by decide +kernel
theorem dX11_print_71 : decode cX11_print 71 = .ok (.aload_n 0, 1) := by decide +kernel
theorem dX11_print_72 : decode cX11_print 72 = .ok (.getfield 7, 3) := by decide +kernel
theorem dX11_print_75 : decode cX11_print 75 = .ok (.iconst 0, 1) := by decide +kernel
theorem dX11_print_76 : decode cX11_print 76 = .ok (.iaload, 1) := by decide +kernel
theorem dX11_print_77 : decode cX11_print 77 = .ok (.iastore, 1) := by decide +kernel
theorem dX11_print_78 : decode cX11_print 78 = .ok (.aload_n 0, 1) := by decide +kernel
theorem dX11_print_79 : decode cX11_print 79 = .ok (.getfield 7, 3) := by decide +kernel
theorem dX11_print_82 : decode cX11_print 82 = .ok (.bipush 52, 2) := by decide +kernel
theorem dX11_print_84 : decode cX11_print 84 = .ok (.iload_n 2, 1) := by decide +kernel
theorem dX11_print_85 : decode cX11_print 85 = .ok (.imul, 1) := by decide +kernel
theorem dX11_print_86 : decode cX11_print 86 = .ok (.iconst 4, 1) := by decide +kernel
theorem dX11_print_87 : decode cX11_print 87 = .ok (.iadd, 1) := by decide +kernel
theorem dX11_print_88 : decode cX11_print 88 = .ok (.aload_n 0, 1) := by decide +kernel
theorem dX11_print_89 : decode cX11_print 89 = .ok (.getfield 76, 3) := by decide +kernel
theorem dX11_print_92 : decode cX11_print 92 = .ok (.iastore, 1) := by decide +kernel
theorem dX11_print_93 : decode cX11_print 93 = .ok (.aload_n 0, 1) := by decide +kernel
theorem dX11_print_94 : decode cX11_print 94 = .ok (.getfield 7, 3) := by decide +kernel
theorem dX11_print_97 : decode cX11_print 97 = .ok (.bipush 52, 2) := by decide +kernel
theorem dX11_print_99 : decode cX11_print 99 = .ok (.iload_n 2, 1) := by decide +kernel
theorem dX11_print_100 : decode cX11_print 100 = .ok (.imul, 1) := by decide +kernel
theorem dX11_print_101 : decode cX11_print 101 = .ok (.iconst 5, 1) := by decide +kernel
theorem dX11_print_102 : decode cX11_print 102 = .ok (.iadd, 1) := by decide +kernel
theorem dX11_print_103 : decode cX11_print 103 = .ok (.aload_n 0, 1) := by decide +kernel
theorem dX11_print_104 : decode cX11_print 104 = .ok (.getfield 93, 3) := by decide +kernel
theorem dX11_print_107 : decode cX11_print 107 = .ok (.iastore, 1) := by decide +kernel
theorem dX11_print_108 : decode cX11_print 108 = .ok (.aload_n 0, 1) := by decide +kernel
theorem dX11_print_109 : decode cX11_print 109 = .ok (.getfield 7, 3) := by decide +kernel
theorem dX11_print_112 : decode cX11_print 112 = .ok (.iconst 1, 1) := by decide +kernel
theorem dX11_print_113 : decode cX11_print 113 = .ok (.dup2, 1) := by decide +kernel
theorem dX11_print_114 : decode cX11_print 114 = .ok (.iaload, 1) := by decide +kernel
theorem dX11_print_115 : decode cX11_print 115 = .ok (.iconst 1, 1) := by decide +kernel
theorem dX11_print_116 : decode cX11_print 116 = .ok (.iadd, 1) := by decide +kernel
theorem dX11_print_117 : decode cX11_print 117 = .ok (.iastore, 1) := by decide +kernel
theorem dX11_print_118 : decode cX11_print 118 = .ok (.aload_n 0, 1) := by decide +kernel
theorem dX11_print_119 : decode cX11_print 119 = .ok (.iconst 0, 1) := by decide +kernel
theorem dX11_print_120 : decode cX11_print 120 = .ok (.putfield 67, 3) := by decide +kernel
theorem dX11_print_123 : decode cX11_print 123 = .ok (.iload_n 2, 1) := by decide +kernel
theorem dX11_print_124 : decode cX11_print 124 = .ok (.ireturn, 1) := by decide +kernel
set_option maxRecDepth 20000 in
theorem ggX11_pass_X11_in : GoodIn wsX11_pass wsX11_in := goodIn_r _ [5] (by decide +kernel) (by decide +kernel)
set_option maxRecDepth 20000 in
theorem gX11_pass_X11_in : GoodIn wsX11_pass (va_wsS RX11 45 yX11_in wsX11_in) := goodIn_app (goodIn_of _ (by decide +kernel)) ggX11_pass_X11_in
set_option maxRecDepth 20000 in
theorem ggX11_pass_X11_holds : GoodIn wsX11_pass wsX11_holds := goodIn_r _ [9, 10, 23, 24, 25, 26, 27, 28, 29, 30, 31, 32, 33, 34, 35, 36, 37, 38, 39, 40, 41, 42, 43, 44, 45, 46] (by decide +kernel) (by decide +kernel)
set_option maxRecDepth 20000 in
theorem gX11_pass_X11_holds : GoodIn wsX11_pass (wsV RX11 112 RX11 yX11_holds wsX11_holds) := goodIn_app (goodIn_of _ (by decide +kernel)) ggX11_pass_X11_holds
set_option maxRecDepth 20000 in
theorem ggX11_pass_X11_save : GoodIn wsX11_pass wsX11_save := goodIn_r _ [14, 15, 16, 17, 18, 19, 20, 4, 21, 1, 22, 23, 24, 25, 26, 27, 28, 29, 30, 31, 32, 33, 34, 35, 36, 37, 38, 39, 40, 41, 42, 43, 44, 45, 46] (by decide +kernel) (by decide +kernel)
set_option maxRecDepth 20000 in
theorem gX11_pass_X11_save : GoodIn wsX11_pass (wsV RX11 159 RX11 yX11_save wsX11_save) := goodIn_app (goodIn_of _ (by decide +kernel)) ggX11_pass_X11_save
theorem dX11_pass_0 : decode cX11_pass 0 = .ok (.aload_n 0, 1) := by decide +kernel
theorem dX11_pass_1 : decode cX11_pass 1 = .ok (.iload_n 1, 1) := by decide +kernel
theorem dX11_pass_2 : decode cX11_pass 2 = .ok (.iconst 1, 1) := by decide +kernel
theorem dX11_pass_3 : decode cX11_pass 3 = .ok (.bipush 100, 2) := by decide +kernel
theorem dX11_pass_5 : decode cX11_pass 5 = .ok (.invokestatic 45, 3) := by decide +kernel
theorem dX11_pass_8 : decode cX11_pass 8 = .ok (.ifCond .eq 7, 3) := by decide +kernel
theorem dX11_pass_11 : decode cX11_pass 11 = .ok (.iconst 0, 1) := by decide +kernel
theorem dX11_pass_12 : decode cX11_pass 12 = .ok (.goto 4, 3) := by decide +kernel
theorem dX11_pass_15 : decode cX11_pass 15 = .ok (.iconst 1, 1) := by decide +kernel
theorem dX11_pass_16 : decode cX11_pass 16 = .ok (.invokevirtual 112, 3) := by decide +kernel
theorem dX11_pass_19 : decode cX11_pass 19 = .ok (.ifCond .ne 5, 3) := by decide +kernel
theorem dX11_pass_22 : decode cX11_pass 22 = .ok (.iconst 0, 1) := by decide +kernel
theorem dX11_pass_23 : decode cX11_pass 23 = .ok (.ireturn, 1) := by decide +kernel
theorem dX11_pass_24 : decode cX11_pass 24 = .ok (.aload_n 0, 1) := by decide +kernel
theorem dX11_pass_25 : decode cX11_pass 25 = .ok (.invokevirtual 159, 3) := by decide +kernel
theorem dX11_pass_28 : decode cX11_pass 28 = .ok (.aload_n 0, 1) := by decide +kernel
theorem dX11_pass_29 : decode cX11_pass 29 = .ok (.getfield 7, 3) := by decide +kernel
theorem dX11_pass_32 : decode cX11_pass 32 = .ok (.iconst 0, 1) := by decide +kernel
theorem dX11_pass_33 : decode cX11_pass 33 = .ok (.dup2, 1) := by decide +kernel
theorem dX11_pass_34 : decode cX11_pass 34 = .ok (.iaload, 1) := by decide +kernel
theorem dX11_pass_35 : decode cX11_pass 35 = .ok (.iload_n 1, 1) := by decide +kernel
theorem dX11_pass_36 : decode cX11_pass 36 = .ok (.iadd, 1) := by decide +kernel
theorem dX11_pass_37 : decode cX11_pass 37 = .ok (.iastore, 1) := by decide +kernel
theorem dX11_pass_38 : decode cX11_pass 38 = .ok (.aload_n 0, 1) := by decide +kernel
theorem dX11_pass_39 : decode cX11_pass 39 = .ok (.getfield 7, 3) := by decide +kernel
theorem dX11_pass_42 : decode cX11_pass 42 = .ok (.iconst 0, 1) := by decide +kernel
theorem dX11_pass_43 : decode cX11_pass 43 = .ok (.iaload, 1) := by decide +kernel
theorem dX11_pass_44 : decode cX11_pass 44 = .ok (.ireturn, 1) := by decide +kernel
set_option maxRecDepth 20000 in
theorem ggX11_canMend_X11_source : GoodIn wsX11_canMend wsX11_source := goodIn_r _ [7, 8, 9, 10, 6, 11, 12, 40, 41, 42, 43, 44, 45, 46, 47, 48, 49, 50, 51, 52, 53, 54, 55, 56, 57, 58, 59, 60, 61, 62, 63] (by decide +kernel) (by decide +kernel)
set_option maxRecDepth 20000 in
theorem gX11_canMend_X11_source : GoodIn wsX11_canMend (wsV RX11 140 RX11 yX11_source wsX11_source) := goodIn_app (goodIn_of _ (by decide +kernel)) ggX11_canMend_X11_source
set_option maxRecDepth 20000 in
theorem ggX11_canMend_X11_find : GoodIn wsX11_canMend wsX11_find := goodIn_r _ [16, 1, 17, 18, 2, 19, 20, 21, 6, 22, 8, 9, 10, 11, 12, 23, 24, 25, 26, 27, 28, 29, 30, 31, 32, 33, 34, 35, 36, 37, 38, 39, 40, 41, 42, 43, 44, 45, 46, 47, 48, 49, 50, 51, 52, 53, 54, 55, 56, 57, 58, 59, 60, 61, 62, 63] (by decide +kernel) (by decide +kernel)
set_option maxRecDepth 20000 in
theorem gX11_canMend_X11_find : GoodIn wsX11_canMend (wsV RX11 143 RX11 yX11_find wsX11_find) := goodIn_app (goodIn_of _ (by decide +kernel)) ggX11_canMend_X11_find
set_option maxRecDepth 20000 in
theorem ggX11_canMend_X11_get : GoodIn wsX11_canMend wsX11_get := goodIn_r _ [11, 12, 40, 41, 42, 43, 44, 45, 46, 47, 48, 49, 50, 51, 52, 53, 54, 55, 56, 57, 58, 59, 60, 61, 62, 63] (by decide +kernel) (by decide +kernel)
set_option maxRecDepth 20000 in
theorem gX11_canMend_X11_get : GoodIn wsX11_canMend (wsV RX11 53 RX11 yX11_get wsX11_get) := goodIn_app (goodIn_of _ (by decide +kernel)) ggX11_canMend_X11_get
set_option maxRecDepth 20000 in
theorem ggX11_canMend_X11_size : GoodIn wsX11_canMend wsX11_size := goodIn_r _ [22, 8, 9, 10, 6, 11, 12, 40, 41, 42, 43, 44, 45, 46, 47, 48, 49, 50, 51, 52, 53, 54, 55, 56, 57, 58, 59, 60, 61, 62, 63] (by decide +kernel) (by decide +kernel)
set_option maxRecDepth 20000 in
theorem gX11_canMend_X11_size : GoodIn wsX11_canMend (wsV RX11 115 RX11 yX11_size wsX11_size) := goodIn_app (goodIn_of _ (by decide +kernel)) ggX11_canMend_X11_size
theorem dX11_canMend_0 : decode cX11_canMend 0 = .ok (.aload_n 0, 1) := by decide +kernel
theorem dX11_canMend_1 : decode cX11_canMend 1 = .ok (.iload_n 1, 1) := by decide +kernel
theorem dX11_canMend_2 : decode cX11_canMend 2 = .ok (.iload_n 2, 1) := by decide +kernel
theorem dX11_canMend_3 : decode cX11_canMend 3 = .ok (.aload_n 0, 1) := by decide +kernel
theorem dX11_canMend_4 : decode cX11_canMend 4 = .ok (.iload_n 1, 1) := by decide +kernel
theorem dX11_canMend_5 : decode cX11_canMend 5 = .ok (.iload_n 2, 1) := by decide +kernel
theorem dX11_canMend_6 : decode cX11_canMend 6 = .ok (.invokevirtual 140, 3) := by decide +kernel
theorem dX11_canMend_9 : decode cX11_canMend 9 = .ok (.invokevirtual 143, 3) := by decide +kernel
theorem dX11_canMend_12 : decode cX11_canMend 12 = .ok (.aload_n 0, 1) := by decide +kernel
theorem dX11_canMend_13 : decode cX11_canMend 13 = .ok (.getfield 124, 3) := by decide +kernel
theorem dX11_canMend_16 : decode cX11_canMend 16 = .ok (.ifCond .le 30, 3) := by decide +kernel
theorem dX11_canMend_19 : decode cX11_canMend 19 = .ok (.aload_n 0, 1) := by decide +kernel
theorem dX11_canMend_20 : decode cX11_canMend 20 = .ok (.iload_n 1, 1) := by decide +kernel
theorem dX11_canMend_21 : decode cX11_canMend 21 = .ok (.iconst 4, 1) := by decide +kernel
theorem dX11_canMend_22 : decode cX11_canMend 22 = .ok (.invokevirtual 53, 3) := by decide +kernel
theorem dX11_canMend_25 : decode cX11_canMend 25 = .ok (.aload_n 0, 1) := by decide +kernel
theorem dX11_canMend_26 : decode cX11_canMend 26 = .ok (.iload_n 1, 1) := by decide +kernel
theorem dX11_canMend_27 : decode cX11_canMend 27 = .ok (.iload_n 2, 1) := by decide +kernel
theorem dX11_canMend_28 : decode cX11_canMend 28 = .ok (.invokevirtual 115, 3) := by decide +kernel
theorem dX11_canMend_31 : decode cX11_canMend 31 = .ok (.isub, 1) := by decide +kernel
theorem dX11_canMend_32 : decode cX11_canMend 32 = .ok (.aload_n 0, 1) := by decide +kernel
theorem dX11_canMend_33 : decode cX11_canMend 33 = .ok (.getfield 137, 3) := by decide +kernel
theorem dX11_canMend_36 : decode cX11_canMend 36 = .ok (.iadd, 1) := by decide +kernel
theorem dX11_canMend_37 : decode cX11_canMend 37 = .ok (.bipush 60, 2) := by decide +kernel
theorem dX11_canMend_39 : decode cX11_canMend 39 = .ok (.if_icmp .gt 7, 3) := by decide +kernel
theorem dX11_canMend_42 : decode cX11_canMend 42 = .ok (.iconst 1, 1) := by decide +kernel
theorem dX11_canMend_43 : decode cX11_canMend 43 = .ok (.goto 4, 3) := by decide +kernel
theorem dX11_canMend_46 : decode cX11_canMend 46 = .ok (.iconst 0, 1) := by decide +kernel
theorem dX11_canMend_47 : decode cX11_canMend 47 = .ok (.ireturn, 1) := by decide +kernel
set_option maxRecDepth 20000 in
theorem ggX11_doMend_X11_size : GoodIn wsX11_doMend wsX11_size := goodIn_r _ [10, 11, 12, 13, 9, 14, 4, 27, 28, 29, 30, 31, 32, 33, 34, 35, 36, 37, 38, 39, 40, 41, 42, 43, 44, 45, 46, 47, 48, 49, 50] (by decide +kernel) (by decide +kernel)
set_option maxRecDepth 20000 in
theorem gX11_doMend_X11_size : GoodIn wsX11_doMend (wsV RX11 115 RX11 yX11_size wsX11_size) := goodIn_app (goodIn_of _ (by decide +kernel)) ggX11_doMend_X11_size
set_option maxRecDepth 20000 in
theorem ggX11_doMend_X11_begin : GoodIn wsX11_doMend wsX11_begin := goodIn_r _ [18, 11, 12, 13, 9, 14, 4, 27, 28, 29, 30, 31, 32, 33, 34, 35, 36, 37, 38, 39, 40, 41, 42, 43, 44, 45, 46, 47, 48, 49, 50] (by decide +kernel) (by decide +kernel)
set_option maxRecDepth 20000 in
theorem gX11_doMend_X11_begin : GoodIn wsX11_doMend (wsV RX11 118 RX11 yX11_begin wsX11_begin) := goodIn_app (goodIn_of _ (by decide +kernel)) ggX11_doMend_X11_begin
set_option maxRecDepth 20000 in
theorem ggX11_doMend_X11_get : GoodIn wsX11_doMend wsX11_get := goodIn_r _ [14, 4, 27, 28, 29, 30, 31, 32, 33, 34, 35, 36, 37, 38, 39, 40, 41, 42, 43, 44, 45, 46, 47, 48, 49, 50] (by decide +kernel) (by decide +kernel)
set_option maxRecDepth 20000 in
theorem gX11_doMend_X11_get : GoodIn wsX11_doMend (wsV RX11 53 RX11 yX11_get wsX11_get) := goodIn_app (goodIn_of _ (by decide +kernel)) ggX11_doMend_X11_get
set_option maxRecDepth 20000 in
theorem ggX11_doMend_X11_source : GoodIn wsX11_doMend wsX11_source := goodIn_r _ [22, 11, 12, 13, 9, 14, 4, 27, 28, 29, 30, 31, 32, 33, 34, 35, 36, 37, 38, 39, 40, 41, 42, 43, 44, 45, 46, 47, 48, 49, 50] (by decide +kernel) (by decide +kernel)
set_option maxRecDepth 20000 in
theorem gX11_doMend_X11_source : GoodIn wsX11_doMend (wsV RX11 140 RX11 yX11_source wsX11_source) := goodIn_app (goodIn_of _ (by decide +kernel)) ggX11_doMend_X11_source
set_option maxRecDepth 20000 in
theorem ggX11_doMend_X11_word : GoodIn wsX11_doMend wsX11_word := goodIn_r _ [26, 2, 27, 28, 29, 30, 31, 32, 33, 34, 35, 36, 37, 38, 39, 40, 41, 42, 43, 44, 45, 46, 47, 48, 49, 50] (by decide +kernel) (by decide +kernel)
set_option maxRecDepth 20000 in
theorem gX11_doMend_X11_word : GoodIn wsX11_doMend (wsV RX11 121 RX11 yX11_word wsX11_word) := goodIn_app (goodIn_of _ (by decide +kernel)) ggX11_doMend_X11_word
theorem dX11_doMend_0 : decode cX11_doMend 0 = .ok (.aload_n 0, 1) := by decide +kernel
theorem dX11_doMend_1 : decode cX11_doMend 1 = .ok (.getfield 137, 3) := by decide +kernel
theorem dX11_doMend_4 : decode cX11_doMend 4 = .ok (.aload_n 0, 1) := by decide +kernel
theorem dX11_doMend_5 : decode cX11_doMend 5 = .ok (.iload_n 1, 1) := by decide +kernel
theorem dX11_doMend_6 : decode cX11_doMend 6 = .ok (.iload_n 2, 1) := by decide +kernel
theorem dX11_doMend_7 : decode cX11_doMend 7 = .ok (.invokevirtual 115, 3) := by decide +kernel
theorem dX11_doMend_10 : decode cX11_doMend 10 = .ok (.isub, 1) := by decide +kernel
theorem dX11_doMend_11 : decode cX11_doMend 11 = .ok (.istore_n 3, 1) := by decide +kernel
theorem dX11_doMend_12 : decode cX11_doMend 12 = .ok (.aload_n 0, 1) := by decide +kernel
theorem dX11_doMend_13 : decode cX11_doMend 13 = .ok (.iload_n 1, 1) := by decide +kernel
theorem dX11_doMend_14 : decode cX11_doMend 14 = .ok (.iload_n 2, 1) := by decide +kernel
theorem dX11_doMend_15 : decode cX11_doMend 15 = .ok (.invokevirtual 118, 3) := by decide +kernel
theorem dX11_doMend_18 : decode cX11_doMend 18 = .ok (.istore 4, 2) := by decide +kernel
theorem dX11_doMend_20 : decode cX11_doMend 20 = .ok (.iload 4, 2) := by decide +kernel
theorem dX11_doMend_22 : decode cX11_doMend 22 = .ok (.aload_n 0, 1) := by decide +kernel
theorem dX11_doMend_23 : decode cX11_doMend 23 = .ok (.iload_n 1, 1) := by decide +kernel
theorem dX11_doMend_24 : decode cX11_doMend 24 = .ok (.iload_n 2, 1) := by decide +kernel
theorem dX11_doMend_25 : decode cX11_doMend 25 = .ok (.invokevirtual 115, 3) := by decide +kernel
theorem dX11_doMend_28 : decode cX11_doMend 28 = .ok (.iadd, 1) := by decide +kernel
theorem dX11_doMend_29 : decode cX11_doMend 29 = .ok (.istore 5, 2) := by decide +kernel
theorem dX11_doMend_31 : decode cX11_doMend 31 = .ok (.bipush 60, 2) := by decide +kernel
theorem dX11_doMend_33 : decode cX11_doMend 33 = .ok (.iload_n 1, 1) := by decide +kernel
theorem dX11_doMend_34 : decode cX11_doMend 34 = .ok (.imul, 1) := by decide +kernel
theorem dX11_doMend_35 : decode cX11_doMend 35 = .ok (.istore 6, 2) := by decide +kernel
theorem dX11_doMend_37 : decode cX11_doMend 37 = .ok (.aload_n 0, 1) := by decide +kernel
theorem dX11_doMend_38 : decode cX11_doMend 38 = .ok (.iload_n 1, 1) := by decide +kernel
theorem dX11_doMend_39 : decode cX11_doMend 39 = .ok (.iconst 4, 1) := by decide +kernel
theorem dX11_doMend_40 : decode cX11_doMend 40 = .ok (.invokevirtual 53, 3) := by decide +kernel
theorem dX11_doMend_43 : decode cX11_doMend 43 = .ok (.istore 7, 2) := by decide +kernel
theorem dX11_doMend_45 : decode cX11_doMend 45 = .ok (.iconst 0, 1) := by decide +kernel
theorem dX11_doMend_46 : decode cX11_doMend 46 = .ok (.istore 8, 2) := by decide +kernel
theorem dX11_doMend_48 : decode cX11_doMend 48 = .ok (.iload 8, 2) := by decide +kernel
theorem dX11_doMend_50 : decode cX11_doMend 50 = .ok (.iload 7, 2) := by decide +kernel
theorem dX11_doMend_52 : decode cX11_doMend 52 = .ok (.iload 5, 2) := by decide +kernel
theorem dX11_doMend_54 : decode cX11_doMend 54 = .ok (.isub, 1) := by decide +kernel
theorem dX11_doMend_55 : decode cX11_doMend 55 = .ok (.if_icmp .ge 52, 3) := by decide +kernel
theorem dX11_doMend_58 : decode cX11_doMend 58 = .ok (.iload_n 3, 1) := by decide +kernel
theorem dX11_doMend_59 : decode cX11_doMend 59 = .ok (.ifCond .le 13, 3) := by decide +kernel
theorem dX11_doMend_62 : decode cX11_doMend 62 = .ok (.iload 7, 2) := by decide +kernel
theorem dX11_doMend_64 : decode cX11_doMend 64 = .ok (.iconst 1, 1) := by decide +kernel
theorem dX11_doMend_65 : decode cX11_doMend 65 = .ok (.isub, 1) := by decide +kernel
theorem dX11_doMend_66 : decode cX11_doMend 66 = .ok (.iload 8, 2) := by decide +kernel
theorem dX11_doMend_68 : decode cX11_doMend 68 = .ok (.isub, 1) := by decide +kernel
theorem dX11_doMend_69 : decode cX11_doMend 69 = .ok (.goto 8, 3) := by decide +kernel
theorem dX11_doMend_72 : decode cX11_doMend 72 = .ok (.iload 5, 2) := by decide +kernel
theorem dX11_doMend_74 : decode cX11_doMend 74 = .ok (.iload 8, 2) := by decide +kernel
theorem dX11_doMend_76 : decode cX11_doMend 76 = .ok (.iadd, 1) := by decide +kernel
theorem dX11_doMend_77 : decode cX11_doMend 77 = .ok (.istore 9, 2) := by decide +kernel
theorem dX11_doMend_79 : decode cX11_doMend 79 = .ok (.aload_n 0, 1) := by decide +kernel
theorem dX11_doMend_80 : decode cX11_doMend 80 = .ok (.getfield 13, 3) := by decide +kernel
theorem dX11_doMend_83 : decode cX11_doMend 83 = .ok (.iload 6, 2) := by decide +kernel
theorem dX11_doMend_85 : decode cX11_doMend 85 = .ok (.iload 9, 2) := by decide +kernel
theorem dX11_doMend_87 : decode cX11_doMend 87 = .ok (.iadd, 1) := by decide +kernel
theorem dX11_doMend_88 : decode cX11_doMend 88 = .ok (.iload_n 3, 1) := by decide +kernel
theorem dX11_doMend_89 : decode cX11_doMend 89 = .ok (.iadd, 1) := by decide +kernel
theorem dX11_doMend_90 : decode cX11_doMend 90 = .ok (.aload_n 0, 1) := by decide +kernel
theorem dX11_doMend_91 : decode cX11_doMend 91 = .ok (.getfield 13, 3) := by decide +kernel
theorem dX11_doMend_94 : decode cX11_doMend 94 = .ok (.iload 6, 2) := by decide +kernel
theorem dX11_doMend_96 : decode cX11_doMend 96 = .ok (.iload 9, 2) := by decide +kernel
theorem dX11_doMend_98 : decode cX11_doMend 98 = .ok (.iadd, 1) := by decide +kernel
theorem dX11_doMend_99 : decode cX11_doMend 99 = .ok (.laload, 1) := by decide +kernel
theorem dX11_doMend_100 : decode cX11_doMend 100 = .ok (.lastore, 1) := by decide +kernel
theorem dX11_doMend_101 : decode cX11_doMend 101 = .ok (.iinc 8 1, 3) := by decide +kernel
theorem dX11_doMend_104 : decode cX11_doMend 104 = .ok (.goto (-56), 3) := by decide +kernel
theorem dX11_doMend_107 : decode cX11_doMend 107 = .ok (.iconst 0, 1) := by decide +kernel
theorem dX11_doMend_108 : decode cX11_doMend 108 = .ok (.istore 8, 2) := by decide +kernel
theorem dX11_doMend_110 : decode cX11_doMend 110 = .ok (.iload 8, 2) := by decide +kernel
theorem dX11_doMend_112 : decode cX11_doMend 112 = .ok (.aload_n 0, 1) := by decide +kernel
theorem dX11_doMend_113 : decode cX11_doMend 113 = .ok (.getfield 137, 3) := by decide +kernel
theorem dX11_doMend_116 : decode cX11_doMend 116 = .ok (.if_icmp .ge 39, 3) := by decide +kernel
theorem dX11_doMend_119 : decode cX11_doMend 119 = .ok (.aload_n 0, 1) := by decide +kernel
theorem dX11_doMend_120 : decode cX11_doMend 120 = .ok (.getfield 13, 3) := by decide +kernel
theorem dX11_doMend_123 : decode cX11_doMend 123 = .ok (.iload 6, 2) := by decide +kernel
theorem dX11_doMend_125 : decode cX11_doMend 125 = .ok (.iload 4, 2) := by decide +kernel
theorem dX11_doMend_127 : decode cX11_doMend 127 = .ok (.iadd, 1) := by decide +kernel
theorem dX11_doMend_128 : decode cX11_doMend 128 = .ok (.iload 8, 2) := by decide +kernel
theorem dX11_doMend_130 : decode cX11_doMend 130 = .ok (.iadd, 1) := by decide +kernel
theorem dX11_doMend_131 : decode cX11_doMend 131 = .ok (.aload_n 0, 1) := by decide +kernel
theorem dX11_doMend_132 : decode cX11_doMend 132 = .ok (.aload_n 0, 1) := by decide +kernel
theorem dX11_doMend_133 : decode cX11_doMend 133 = .ok (.iload_n 1, 1) := by decide +kernel
theorem dX11_doMend_134 : decode cX11_doMend 134 = .ok (.iload_n 2, 1) := by decide +kernel
theorem dX11_doMend_135 : decode cX11_doMend 135 = .ok (.invokevirtual 140, 3) := by decide +kernel
theorem dX11_doMend_138 : decode cX11_doMend 138 = .ok (.aload_n 0, 1) := by decide +kernel
theorem dX11_doMend_139 : decode cX11_doMend 139 = .ok (.getfield 134, 3) := by decide +kernel
theorem dX11_doMend_142 : decode cX11_doMend 142 = .ok (.iload 8, 2) := by decide +kernel
theorem dX11_doMend_144 : decode cX11_doMend 144 = .ok (.iadd, 1) := by decide +kernel
theorem dX11_doMend_145 : decode cX11_doMend 145 = .ok (.invokevirtual 121, 3) := by decide +kernel
theorem dX11_doMend_148 : decode cX11_doMend 148 = .ok (.lastore, 1) := by decide +kernel
theorem dX11_doMend_149 : decode cX11_doMend 149 = .ok (.iinc 8 1, 3) := by decide +kernel
theorem dX11_doMend_152 : decode cX11_doMend 152 = .ok (.goto (-42), 3) := by decide +kernel
theorem dX11_doMend_155 : decode cX11_doMend 155 = .ok (.aload_n 0, 1) := by decide +kernel
theorem dX11_doMend_156 : decode cX11_doMend 156 = .ok (.getfield 7, 3) := by decide +kernel
theorem dX11_doMend_159 : decode cX11_doMend 159 = .ok (.bipush 52, 2) := by decide +kernel
theorem dX11_doMend_161 : decode cX11_doMend 161 = .ok (.iload_n 1, 1) := by decide +kernel
theorem dX11_doMend_162 : decode cX11_doMend 162 = .ok (.imul, 1) := by decide +kernel
theorem dX11_doMend_163 : decode cX11_doMend 163 = .ok (.iconst 4, 1) := by decide +kernel
theorem dX11_doMend_164 : decode cX11_doMend 164 = .ok (.iadd, 1) := by decide +kernel
theorem dX11_doMend_165 : decode cX11_doMend 165 = .ok (.iload 7, 2) := by decide +kernel
theorem dX11_doMend_167 : decode cX11_doMend 167 = .ok (.iload_n 3, 1) := by decide +kernel
theorem dX11_doMend_168 : decode cX11_doMend 168 = .ok (.iadd, 1) := by decide +kernel
theorem dX11_doMend_169 : decode cX11_doMend 169 = .ok (.iastore, 1) := by decide +kernel
theorem dX11_doMend_170 : decode cX11_doMend 170 = .ok (.aload_n 0, 1) := by decide +kernel
theorem dX11_doMend_171 : decode cX11_doMend 171 = .ok (.getfield 7, 3) := by decide +kernel
theorem dX11_doMend_174 : decode cX11_doMend 174 = .ok (.bipush 52, 2) := by decide +kernel
theorem dX11_doMend_176 : decode cX11_doMend 176 = .ok (.iload_n 1, 1) := by decide +kernel
theorem dX11_doMend_177 : decode cX11_doMend 177 = .ok (.imul, 1) := by decide +kernel
theorem dX11_doMend_178 : decode cX11_doMend 178 = .ok (.bipush 6, 2) := by decide +kernel
theorem dX11_doMend_180 : decode cX11_doMend 180 = .ok (.iadd, 1) := by decide +kernel
theorem dX11_doMend_181 : decode cX11_doMend 181 = .ok (.iconst 3, 1) := by decide +kernel
theorem dX11_doMend_182 : decode cX11_doMend 182 = .ok (.iload_n 2, 1) := by decide +kernel
theorem dX11_doMend_183 : decode cX11_doMend 183 = .ok (.imul, 1) := by decide +kernel
theorem dX11_doMend_184 : decode cX11_doMend 184 = .ok (.iadd, 1) := by decide +kernel
theorem dX11_doMend_185 : decode cX11_doMend 185 = .ok (.iconst 2, 1) := by decide +kernel
theorem dX11_doMend_186 : decode cX11_doMend 186 = .ok (.iadd, 1) := by decide +kernel
theorem dX11_doMend_187 : decode cX11_doMend 187 = .ok (.aload_n 0, 1) := by decide +kernel
theorem dX11_doMend_188 : decode cX11_doMend 188 = .ok (.getfield 137, 3) := by decide +kernel
theorem dX11_doMend_191 : decode cX11_doMend 191 = .ok (.iastore, 1) := by decide +kernel
theorem dX11_doMend_192 : decode cX11_doMend 192 = .ok (.iload_n 2, 1) := by decide +kernel
theorem dX11_doMend_193 : decode cX11_doMend 193 = .ok (.iconst 1, 1) := by decide +kernel
theorem dX11_doMend_194 : decode cX11_doMend 194 = .ok (.iadd, 1) := by decide +kernel
theorem dX11_doMend_195 : decode cX11_doMend 195 = .ok (.istore 8, 2) := by decide +kernel
theorem dX11_doMend_197 : decode cX11_doMend 197 = .ok (.iload 8, 2) := by decide +kernel
theorem dX11_doMend_199 : decode cX11_doMend 199 = .ok (.aload_n 0, 1) := by decide +kernel
theorem dX11_doMend_200 : decode cX11_doMend 200 = .ok (.iload_n 1, 1) := by decide +kernel
theorem dX11_doMend_201 : decode cX11_doMend 201 = .ok (.iconst 5, 1) := by decide +kernel
theorem dX11_doMend_202 : decode cX11_doMend 202 = .ok (.invokevirtual 53, 3) := by decide +kernel
theorem dX11_doMend_205 : decode cX11_doMend 205 = .ok (.if_icmp .ge 32, 3) := by decide +kernel
theorem dX11_doMend_208 : decode cX11_doMend 208 = .ok (.aload_n 0, 1) := by decide +kernel
theorem dX11_doMend_209 : decode cX11_doMend 209 = .ok (.getfield 7, 3) := by decide +kernel
theorem dX11_doMend_212 : decode cX11_doMend 212 = .ok (.bipush 52, 2) := by decide +kernel
theorem dX11_doMend_214 : decode cX11_doMend 214 = .ok (.iload_n 1, 1) := by decide +kernel
theorem dX11_doMend_215 : decode cX11_doMend 215 = .ok (.imul, 1) := by decide +kernel
theorem dX11_doMend_216 : decode cX11_doMend 216 = .ok (.bipush 6, 2) := by decide +kernel
theorem dX11_doMend_218 : decode cX11_doMend 218 = .ok (.iadd, 1) := by decide +kernel
theorem dX11_doMend_219 : decode cX11_doMend 219 = .ok (.iconst 3, 1) := by decide +kernel
theorem dX11_doMend_220 : decode cX11_doMend 220 = .ok (.iload 8, 2) := by decide +kernel
theorem dX11_doMend_222 : decode cX11_doMend 222 = .ok (.imul, 1) := by decide +kernel
theorem dX11_doMend_223 : decode cX11_doMend 223 = .ok (.iadd, 1) := by decide +kernel
theorem dX11_doMend_224 : decode cX11_doMend 224 = .ok (.iconst 1, 1) := by decide +kernel
theorem dX11_doMend_225 : decode cX11_doMend 225 = .ok (.iadd, 1) := by decide +kernel
theorem dX11_doMend_226 : decode cX11_doMend 226 = .ok (.dup2, 1) := by decide +kernel
theorem dX11_doMend_227 : decode cX11_doMend 227 = .ok (.iaload, 1) := by decide +kernel
theorem dX11_doMend_228 : decode cX11_doMend 228 = .ok (.iload_n 3, 1) := by decide +kernel
theorem dX11_doMend_229 : decode cX11_doMend 229 = .ok (.iadd, 1) := by decide +kernel
theorem dX11_doMend_230 : decode cX11_doMend 230 = .ok (.iastore, 1) := by decide +kernel
theorem dX11_doMend_231 : decode cX11_doMend 231 = .ok (.iinc 8 1, 3) := by decide +kernel
theorem dX11_doMend_234 : decode cX11_doMend 234 = .ok (.goto (-37), 3) := by decide +kernel
theorem dX11_doMend_237 : decode cX11_doMend 237 = .ok (.aload_n 0, 1) := by decide +kernel
theorem dX11_doMend_238 : decode cX11_doMend 238 = .ok (.getfield 124, 3) := by decide +kernel
theorem dX11_doMend_241 : decode cX11_doMend 241 = .ok (.ireturn, 1) := by decide +kernel
set_option maxRecDepth 20000 in
theorem ggX11_mend_X11_isQuote : GoodIn wsX11_mend wsX11_isQuote := goodIn_r _ [5, 6, 7, 8, 4, 9, 10, 11, 12, 13, 14, 15, 16, 17, 75, 76, 77, 78, 79, 80, 81, 82, 83, 84, 85, 86, 87, 88, 89, 90, 91, 92, 93, 94, 95, 96, 97, 98] (by decide +kernel) (by decide +kernel)
set_option maxRecDepth 20000 in
theorem gX11_mend_X11_isQuote : GoodIn wsX11_mend (wsV RX11 162 RX11 yX11_isQuote wsX11_isQuote) := goodIn_app (goodIn_of _ (by decide +kernel)) ggX11_mend_X11_isQuote
set_option maxRecDepth 20000 in
theorem ggX11_mend_X11_canMend : GoodIn wsX11_mend wsX11_canMend := goodIn_r _ [21, 22, 23, 24, 25, 26, 4, 27, 14, 15, 16, 17, 10, 28, 29, 30, 31, 32, 33, 34, 35, 36, 37, 38, 39, 40, 41, 42, 43, 44, 45, 46, 47, 48, 49, 50, 51, 52, 53, 54, 75, 76, 77, 78, 79, 80, 81, 82, 83, 84, 85, 86, 87, 88, 89, 90, 91, 92, 93, 94, 95, 96, 97, 98] (by decide +kernel) (by decide +kernel)
set_option maxRecDepth 20000 in
theorem gX11_mend_X11_canMend : GoodIn wsX11_mend (wsV RX11 165 RX11 yX11_canMend wsX11_canMend) := goodIn_app (goodIn_of _ (by decide +kernel)) ggX11_mend_X11_canMend
set_option maxRecDepth 20000 in
theorem ggX11_mend_X11_holds : GoodIn wsX11_mend wsX11_holds := goodIn_r _ [58, 59, 75, 76, 77, 78, 79, 80, 81, 82, 83, 84, 85, 86, 87, 88, 89, 90, 91, 92, 93, 94, 95, 96, 97, 98] (by decide +kernel) (by decide +kernel)
set_option maxRecDepth 20000 in
theorem gX11_mend_X11_holds : GoodIn wsX11_mend (wsV RX11 112 RX11 yX11_holds wsX11_holds) := goodIn_app (goodIn_of _ (by decide +kernel)) ggX11_mend_X11_holds
set_option maxRecDepth 20000 in
theorem ggX11_mend_X11_save : GoodIn wsX11_mend wsX11_save := goodIn_r _ [63, 64, 65, 66, 67, 68, 69, 4, 70, 10, 46, 75, 76, 77, 78, 79, 80, 81, 82, 83, 84, 85, 86, 87, 88, 89, 90, 91, 92, 93, 94, 95, 96, 97, 98] (by decide +kernel) (by decide +kernel)
set_option maxRecDepth 20000 in
theorem gX11_mend_X11_save : GoodIn wsX11_mend (wsV RX11 159 RX11 yX11_save wsX11_save) := goodIn_app (goodIn_of _ (by decide +kernel)) ggX11_mend_X11_save
set_option maxRecDepth 20000 in
theorem ggX11_mend_X11_doMend : GoodIn wsX11_mend wsX11_doMend := goodIn_r _ [74, 23, 46, 33, 10, 22, 34, 35, 36, 4, 37, 14, 15, 16, 17, 51, 52, 53, 54, 24, 25, 26, 27, 42, 43, 44, 45, 75, 76, 77, 78, 79, 80, 81, 82, 83, 84, 85, 86, 87, 88, 89, 90, 91, 92, 93, 94, 95, 96, 97, 98] (by decide +kernel) (by decide +kernel)
set_option maxRecDepth 20000 in
theorem gX11_mend_X11_doMend : GoodIn wsX11_mend (wsV RX11 168 RX11 yX11_doMend wsX11_doMend) := goodIn_app (goodIn_of _ (by decide +kernel)) ggX11_mend_X11_doMend
theorem dX11_mend_0 : decode cX11_mend 0 = .ok (.aload_n 0, 1) := by decide +kernel
theorem dX11_mend_1 : decode cX11_mend 1 = .ok (.aload_n 0, 1) := by decide +kernel
theorem dX11_mend_2 : decode cX11_mend 2 = .ok (.iload_n 1, 1) := by decide +kernel
theorem dX11_mend_3 : decode cX11_mend 3 = .ok (.iload_n 2, 1) := by decide +kernel
theorem dX11_mend_4 : decode cX11_mend 4 = .ok (.invokevirtual 162, 3) := by decide +kernel
theorem dX11_mend_7 : decode cX11_mend 7 = .ok (.ifCond .ne 7, 3) := by decide +kernel
theorem dX11_mend_10 : decode cX11_mend 10 = .ok (.iconst 1, 1) := by decide +kernel
theorem dX11_mend_11 : decode cX11_mend 11 = .ok (.goto 17, 3) := by decide +kernel
theorem dX11_mend_14 : decode cX11_mend 14 = .ok (.aload_n 0, 1) := by decide +kernel
theorem dX11_mend_15 : decode cX11_mend 15 = .ok (.iload_n 1, 1) := by decide +kernel
theorem dX11_mend_16 : decode cX11_mend 16 = .ok (.iload_n 2, 1) := by decide +kernel
theorem dX11_mend_17 : decode cX11_mend 17 = .ok (.invokevirtual 165, 3) := by decide +kernel
theorem dX11_mend_20 : decode cX11_mend 20 = .ok (.ifCond .eq 7, 3) := by decide +kernel
theorem dX11_mend_23 : decode cX11_mend 23 = .ok (.iconst 0, 1) := by decide +kernel
theorem dX11_mend_24 : decode cX11_mend 24 = .ok (.goto 4, 3) := by decide +kernel
theorem dX11_mend_27 : decode cX11_mend 27 = .ok (.iconst 2, 1) := by decide +kernel
theorem dX11_mend_28 : decode cX11_mend 28 = .ok (.invokevirtual 112, 3) := by decide +kernel
theorem dX11_mend_31 : decode cX11_mend 31 = .ok (.ifCond .ne 5, 3) := by decide +kernel
theorem dX11_mend_34 : decode cX11_mend 34 = .ok (.iconst 0, 1) := by decide +kernel
theorem dX11_mend_35 : decode cX11_mend 35 = .ok (.ireturn, 1) := by decide +kernel
theorem dX11_mend_36 : decode cX11_mend 36 = .ok (.aload_n 0, 1) := by decide +kernel
theorem dX11_mend_37 : decode cX11_mend 37 = .ok (.invokevirtual 159, 3) := by decide +kernel
theorem dX11_mend_40 : decode cX11_mend 40 = .ok (.aload_n 0, 1) := by decide +kernel
theorem dX11_mend_41 : decode cX11_mend 41 = .ok (.iload_n 1, 1) := by decide +kernel
theorem dX11_mend_42 : decode cX11_mend 42 = .ok (.iload_n 2, 1) := by decide +kernel
theorem dX11_mend_43 : decode cX11_mend 43 = .ok (.invokevirtual 168, 3) := by decide +kernel
theorem dX11_mend_46 : decode cX11_mend 46 = .ok (.ireturn, 1) := by decide +kernel
set_option maxRecDepth 20000 in
theorem ggX11_mendAll_X11_save : GoodIn wsX11_mendAll wsX11_save := goodIn_r _ [7, 8, 9, 10, 11, 12, 13, 6, 14, 2, 15, 60, 61, 62, 63, 64, 65, 66, 67, 68, 69, 70, 71, 72, 73, 74, 75, 76, 77, 78, 79, 80, 81, 82, 83] (by decide +kernel) (by decide +kernel)
set_option maxRecDepth 20000 in
theorem gX11_mendAll_X11_save : GoodIn wsX11_mendAll (wsV RX11 159 RX11 yX11_save wsX11_save) := goodIn_app (goodIn_of _ (by decide +kernel)) ggX11_mendAll_X11_save
set_option maxRecDepth 20000 in
theorem ggX11_mendAll_X11_get : GoodIn wsX11_mendAll wsX11_get := goodIn_r _ [19, 2, 60, 61, 62, 63, 64, 65, 66, 67, 68, 69, 70, 71, 72, 73, 74, 75, 76, 77, 78, 79, 80, 81, 82, 83] (by decide +kernel) (by decide +kernel)
set_option maxRecDepth 20000 in
theorem gX11_mendAll_X11_get : GoodIn wsX11_mendAll (wsV RX11 53 RX11 yX11_get wsX11_get) := goodIn_app (goodIn_of _ (by decide +kernel)) ggX11_mendAll_X11_get
set_option maxRecDepth 20000 in
theorem ggX11_mendAll_X11_canMend : GoodIn wsX11_mendAll wsX11_canMend := goodIn_r _ [23, 24, 25, 26, 27, 28, 6, 29, 16, 17, 18, 19, 2, 30, 31, 32, 33, 34, 35, 36, 37, 38, 39, 40, 41, 42, 43, 44, 45, 46, 47, 15, 48, 49, 50, 51, 52, 53, 54, 55, 60, 61, 62, 63, 64, 65, 66, 67, 68, 69, 70, 71, 72, 73, 74, 75, 76, 77, 78, 79, 80, 81, 82, 83] (by decide +kernel) (by decide +kernel)
set_option maxRecDepth 20000 in
theorem gX11_mendAll_X11_canMend : GoodIn wsX11_mendAll (wsV RX11 165 RX11 yX11_canMend wsX11_canMend) := goodIn_app (goodIn_of _ (by decide +kernel)) ggX11_mendAll_X11_canMend
set_option maxRecDepth 20000 in
theorem ggX11_mendAll_X11_doMend : GoodIn wsX11_mendAll wsX11_doMend := goodIn_r _ [59, 25, 15, 35, 2, 24, 36, 37, 38, 6, 39, 16, 17, 18, 19, 52, 53, 54, 55, 26, 27, 28, 29, 44, 45, 46, 47, 60, 61, 62, 63, 64, 65, 66, 67, 68, 69, 70, 71, 72, 73, 74, 75, 76, 77, 78, 79, 80, 81, 82, 83] (by decide +kernel) (by decide +kernel)
set_option maxRecDepth 20000 in
theorem gX11_mendAll_X11_doMend : GoodIn wsX11_mendAll (wsV RX11 168 RX11 yX11_doMend wsX11_doMend) := goodIn_app (goodIn_of _ (by decide +kernel)) ggX11_mendAll_X11_doMend
theorem dX11_mendAll_0 : decode cX11_mendAll 0 = .ok (.aload_n 0, 1) := by decide +kernel
theorem dX11_mendAll_1 : decode cX11_mendAll 1 = .ok (.iconst 0, 1) := by decide +kernel
theorem dX11_mendAll_2 : decode cX11_mendAll 2 = .ok (.putfield 41, 3) := by decide +kernel
theorem dX11_mendAll_5 : decode cX11_mendAll 5 = .ok (.aload_n 0, 1) := by decide +kernel
theorem dX11_mendAll_6 : decode cX11_mendAll 6 = .ok (.invokevirtual 159, 3) := by decide +kernel
theorem dX11_mendAll_9 : decode cX11_mendAll 9 = .ok (.iconst 0, 1) := by decide +kernel
theorem dX11_mendAll_10 : decode cX11_mendAll 10 = .ok (.istore_n 1, 1) := by decide +kernel
theorem dX11_mendAll_11 : decode cX11_mendAll 11 = .ok (.iconst 0, 1) := by decide +kernel
theorem dX11_mendAll_12 : decode cX11_mendAll 12 = .ok (.istore_n 2, 1) := by decide +kernel
theorem dX11_mendAll_13 : decode cX11_mendAll 13 = .ok (.iload_n 2, 1) := by decide +kernel
theorem dX11_mendAll_14 : decode cX11_mendAll 14 = .ok (.aload_n 0, 1) := by decide +kernel
theorem dX11_mendAll_15 : decode cX11_mendAll 15 = .ok (.getfield 7, 3) := by decide +kernel
theorem dX11_mendAll_18 : decode cX11_mendAll 18 = .ok (.iconst 1, 1) := by decide +kernel
theorem dX11_mendAll_19 : decode cX11_mendAll 19 = .ok (.iaload, 1) := by decide +kernel
theorem dX11_mendAll_20 : decode cX11_mendAll 20 = .ok (.if_icmp .ge 47, 3) := by decide +kernel
theorem dX11_mendAll_23 : decode cX11_mendAll 23 = .ok (.iconst 0, 1) := by decide +kernel
theorem dX11_mendAll_24 : decode cX11_mendAll 24 = .ok (.istore_n 3, 1) := by decide +kernel
theorem dX11_mendAll_25 : decode cX11_mendAll 25 = .ok (.iload_n 3, 1) := by decide +kernel
theorem dX11_mendAll_26 : decode cX11_mendAll 26 = .ok (.aload_n 0, 1) := by decide +kernel
theorem dX11_mendAll_27 : decode cX11_mendAll 27 = .ok (.iload_n 2, 1) := by decide +kernel
theorem dX11_mendAll_28 : decode cX11_mendAll 28 = .ok (.iconst 5, 1) := by decide +kernel
theorem dX11_mendAll_29 : decode cX11_mendAll 29 = .ok (.invokevirtual 53, 3) := by decide +kernel
theorem dX11_mendAll_32 : decode cX11_mendAll 32 = .ok (.if_icmp .ge 29, 3) := by decide +kernel
theorem dX11_mendAll_35 : decode cX11_mendAll 35 = .ok (.aload_n 0, 1) := by decide +kernel
theorem dX11_mendAll_36 : decode cX11_mendAll 36 = .ok (.iload_n 2, 1) := by decide +kernel
theorem dX11_mendAll_37 : decode cX11_mendAll 37 = .ok (.iload_n 3, 1) := by decide +kernel
theorem dX11_mendAll_38 : decode cX11_mendAll 38 = .ok (.invokevirtual 165, 3) := by decide +kernel
theorem dX11_mendAll_41 : decode cX11_mendAll 41 = .ok (.ifCond .eq 14, 3) := by decide +kernel
theorem dX11_mendAll_44 : decode cX11_mendAll 44 = .ok (.aload_n 0, 1) := by decide +kernel
theorem dX11_mendAll_45 : decode cX11_mendAll 45 = .ok (.iload_n 2, 1) := by decide +kernel
theorem dX11_mendAll_46 : decode cX11_mendAll 46 = .ok (.iload_n 3, 1) := by decide +kernel
theorem dX11_mendAll_47 : decode cX11_mendAll 47 = .ok (.invokevirtual 168, 3) := by decide +kernel
theorem dX11_mendAll_50 : decode cX11_mendAll 50 = .ok (.istore 4, 2) := by decide +kernel
theorem dX11_mendAll_52 : decode cX11_mendAll 52 = .ok (.iinc 1 1, 3) := by decide +kernel
theorem dX11_mendAll_55 : decode cX11_mendAll 55 = .ok (.iinc 3 1, 3) := by decide +kernel
theorem dX11_mendAll_58 : decode cX11_mendAll 58 = .ok (.goto (-33), 3) := by decide +kernel
theorem dX11_mendAll_61 : decode cX11_mendAll 61 = .ok (.iinc 2 1, 3) := by decide +kernel
theorem dX11_mendAll_64 : decode cX11_mendAll 64 = .ok (.goto (-51), 3) := by decide +kernel
theorem dX11_mendAll_67 : decode cX11_mendAll 67 = .ok (.iload_n 1, 1) := by decide +kernel
theorem dX11_mendAll_68 : decode cX11_mendAll 68 = .ok (.ireturn, 1) := by decide +kernel
set_option maxRecDepth 20000 in
theorem ggX11_withdraw_X11_get : GoodIn wsX11_withdraw wsX11_get := goodIn_r _ [6, 1, 24, 25, 26, 27, 28, 29, 30, 31, 32, 33, 34, 35, 36, 37, 38, 39, 40, 41, 42, 43, 44, 45, 46, 47] (by decide +kernel) (by decide +kernel)
set_option maxRecDepth 20000 in
theorem gX11_withdraw_X11_get : GoodIn wsX11_withdraw (wsV RX11 53 RX11 yX11_get wsX11_get) := goodIn_app (goodIn_of _ (by decide +kernel)) ggX11_withdraw_X11_get
set_option maxRecDepth 20000 in
theorem ggX11_withdraw_X11_holds : GoodIn wsX11_withdraw wsX11_holds := goodIn_r _ [10, 11, 24, 25, 26, 27, 28, 29, 30, 31, 32, 33, 34, 35, 36, 37, 38, 39, 40, 41, 42, 43, 44, 45, 46, 47] (by decide +kernel) (by decide +kernel)
set_option maxRecDepth 20000 in
theorem gX11_withdraw_X11_holds : GoodIn wsX11_withdraw (wsV RX11 112 RX11 yX11_holds wsX11_holds) := goodIn_app (goodIn_of _ (by decide +kernel)) ggX11_withdraw_X11_holds
set_option maxRecDepth 20000 in
theorem ggX11_withdraw_X11_save : GoodIn wsX11_withdraw wsX11_save := goodIn_r _ [15, 16, 17, 18, 19, 20, 21, 5, 22, 1, 23, 24, 25, 26, 27, 28, 29, 30, 31, 32, 33, 34, 35, 36, 37, 38, 39, 40, 41, 42, 43, 44, 45, 46, 47] (by decide +kernel) (by decide +kernel)
set_option maxRecDepth 20000 in
theorem gX11_withdraw_X11_save : GoodIn wsX11_withdraw (wsV RX11 159 RX11 yX11_save wsX11_save) := goodIn_app (goodIn_of _ (by decide +kernel)) ggX11_withdraw_X11_save
theorem dX11_withdraw_0 : decode cX11_withdraw 0 = .ok (.aload_n 0, 1) := by decide +kernel
theorem dX11_withdraw_1 : decode cX11_withdraw 1 = .ok (.getfield 7, 3) := by decide +kernel
theorem dX11_withdraw_4 : decode cX11_withdraw 4 = .ok (.iconst 1, 1) := by decide +kernel
theorem dX11_withdraw_5 : decode cX11_withdraw 5 = .ok (.iaload, 1) := by decide +kernel
theorem dX11_withdraw_6 : decode cX11_withdraw 6 = .ok (.iconst 1, 1) := by decide +kernel
theorem dX11_withdraw_7 : decode cX11_withdraw 7 = .ok (.isub, 1) := by decide +kernel
theorem dX11_withdraw_8 : decode cX11_withdraw 8 = .ok (.istore_n 1, 1) := by decide +kernel
theorem dX11_withdraw_9 : decode cX11_withdraw 9 = .ok (.aload_n 0, 1) := by decide +kernel
theorem dX11_withdraw_10 : decode cX11_withdraw 10 = .ok (.iload_n 1, 1) := by decide +kernel
theorem dX11_withdraw_11 : decode cX11_withdraw 11 = .ok (.ifCond .lt 22, 3) := by decide +kernel
theorem dX11_withdraw_14 : decode cX11_withdraw 14 = .ok (.aload_n 0, 1) := by decide +kernel
theorem dX11_withdraw_15 : decode cX11_withdraw 15 = .ok (.iload_n 1, 1) := by decide +kernel
theorem dX11_withdraw_16 : decode cX11_withdraw 16 = .ok (.iconst 3, 1) := by decide +kernel
theorem dX11_withdraw_17 : decode cX11_withdraw 17 = .ok (.invokevirtual 53, 3) := by decide +kernel
theorem dX11_withdraw_20 : decode cX11_withdraw 20 = .ok (.aload_n 0, 1) := by decide +kernel
theorem dX11_withdraw_21 : decode cX11_withdraw 21 = .ok (.getfield 7, 3) := by decide +kernel
theorem dX11_withdraw_24 : decode cX11_withdraw 24 = .ok (.iconst 0, 1) := by decide +kernel
theorem dX11_withdraw_25 : decode cX11_withdraw 25 = .ok (.iaload, 1) := by decide +kernel
theorem dX11_withdraw_26 : decode cX11_withdraw 26 = .ok (.if_icmp .ne 7, 3) := by decide +kernel
theorem dX11_withdraw_29 : decode cX11_withdraw 29 = .ok (.iconst 0, 1) := by decide +kernel
theorem dX11_withdraw_30 : decode cX11_withdraw 30 = .ok (.goto 4, 3) := by decide +kernel
theorem dX11_withdraw_33 : decode cX11_withdraw 33 = .ok (.iconst 1, 1) := by decide +kernel
theorem dX11_withdraw_34 : decode cX11_withdraw 34 = .ok (.invokevirtual 112, 3) := by decide +kernel
theorem dX11_withdraw_37 : decode cX11_withdraw 37 = .ok (.ifCond .ne 5, 3) := by decide +kernel
theorem dX11_withdraw_40 : decode cX11_withdraw 40 = .ok (.iconst 0, 1) := by decide +kernel
theorem dX11_withdraw_41 : decode cX11_withdraw 41 = .ok (.ireturn, 1) := by decide +kernel
theorem dX11_withdraw_42 : decode cX11_withdraw 42 = .ok (.aload_n 0, 1) := by decide +kernel
theorem dX11_withdraw_43 : decode cX11_withdraw 43 = .ok (.invokevirtual 159, 3) := by decide +kernel
theorem dX11_withdraw_46 : decode cX11_withdraw 46 = .ok (.aload_n 0, 1) := by decide +kernel
theorem dX11_withdraw_47 : decode cX11_withdraw 47 = .ok (.getfield 7, 3) := by decide +kernel
theorem dX11_withdraw_50 : decode cX11_withdraw 50 = .ok (.iconst 1, 1) := by decide +kernel
theorem dX11_withdraw_51 : decode cX11_withdraw 51 = .ok (.dup2, 1) := by decide +kernel
theorem dX11_withdraw_52 : decode cX11_withdraw 52 = .ok (.iaload, 1) := by decide +kernel
theorem dX11_withdraw_53 : decode cX11_withdraw 53 = .ok (.iconst 1, 1) := by decide +kernel
theorem dX11_withdraw_54 : decode cX11_withdraw 54 = .ok (.isub, 1) := by decide +kernel
theorem dX11_withdraw_55 : decode cX11_withdraw 55 = .ok (.iastore, 1) := by decide +kernel
theorem dX11_withdraw_56 : decode cX11_withdraw 56 = .ok (.aload_n 0, 1) := by decide +kernel
theorem dX11_withdraw_57 : decode cX11_withdraw 57 = .ok (.getfield 7, 3) := by decide +kernel
theorem dX11_withdraw_60 : decode cX11_withdraw 60 = .ok (.iconst 1, 1) := by decide +kernel
theorem dX11_withdraw_61 : decode cX11_withdraw 61 = .ok (.iaload, 1) := by decide +kernel
theorem dX11_withdraw_62 : decode cX11_withdraw 62 = .ok (.ireturn, 1) := by decide +kernel
set_option maxRecDepth 20000 in
theorem ggX11_day_X11_plain : GoodIn wsX11_day wsX11_plain := goodIn_r _ [6, 7, 8, 9, 10, 11, 12, 13, 14, 15, 16, 17, 18, 19, 20, 21, 22, 23, 24, 25, 26, 27, 28, 29, 30, 31] (by decide +kernel) (by decide +kernel)
set_option maxRecDepth 20000 in
theorem gX11_day_X11_plain : GoodIn wsX11_day (wsV RX11 105 RX11 yX11_plain wsX11_plain) := goodIn_app (goodIn_of _ (by decide +kernel)) ggX11_day_X11_plain
theorem dX11_day_0 : decode cX11_day 0 = .ok (.aload_n 0, 1) := by decide +kernel
theorem dX11_day_1 : decode cX11_day 1 = .ok (.aload_n 0, 1) := by decide +kernel
theorem dX11_day_2 : decode cX11_day 2 = .ok (.getfield 7, 3) := by decide +kernel
theorem dX11_day_5 : decode cX11_day 5 = .ok (.iconst 0, 1) := by decide +kernel
theorem dX11_day_6 : decode cX11_day 6 = .ok (.iaload, 1) := by decide +kernel
theorem dX11_day_7 : decode cX11_day 7 = .ok (.invokevirtual 105, 3) := by decide +kernel
theorem dX11_day_10 : decode cX11_day 10 = .ok (.ireturn, 1) := by decide +kernel
set_option maxRecDepth 20000 in
theorem ggX11_pamphlets_X11_plain : GoodIn wsX11_pamphlets wsX11_plain := goodIn_r _ [6, 7, 8, 9, 10, 11, 12, 13, 14, 15, 16, 17, 18, 19, 20, 21, 22, 23, 24, 25, 26, 27, 28, 29, 30, 31] (by decide +kernel) (by decide +kernel)
set_option maxRecDepth 20000 in
theorem gX11_pamphlets_X11_plain : GoodIn wsX11_pamphlets (wsV RX11 105 RX11 yX11_plain wsX11_plain) := goodIn_app (goodIn_of _ (by decide +kernel)) ggX11_pamphlets_X11_plain
theorem dX11_pamphlets_0 : decode cX11_pamphlets 0 = .ok (.aload_n 0, 1) := by decide +kernel
theorem dX11_pamphlets_1 : decode cX11_pamphlets 1 = .ok (.aload_n 0, 1) := by decide +kernel
theorem dX11_pamphlets_2 : decode cX11_pamphlets 2 = .ok (.getfield 7, 3) := by decide +kernel
theorem dX11_pamphlets_5 : decode cX11_pamphlets 5 = .ok (.iconst 1, 1) := by decide +kernel
theorem dX11_pamphlets_6 : decode cX11_pamphlets 6 = .ok (.iaload, 1) := by decide +kernel
theorem dX11_pamphlets_7 : decode cX11_pamphlets 7 = .ok (.invokevirtual 105, 3) := by decide +kernel
theorem dX11_pamphlets_10 : decode cX11_pamphlets 10 = .ok (.ireturn, 1) := by decide +kernel
set_option maxRecDepth 20000 in
theorem ggX11_told_X11_isPamphlet : GoodIn wsX11_told wsX11_isPamphlet := goodIn_r _ [5, 6, 7, 8, 4, 9, 19, 20, 21, 22, 23, 24, 25, 26, 27, 28, 29, 30, 31, 32, 33, 34, 35, 36, 37, 38, 39, 40, 41, 42] (by decide +kernel) (by decide +kernel)
set_option maxRecDepth 20000 in
theorem gX11_told_X11_isPamphlet : GoodIn wsX11_told (wsV RX11 49 RX11 yX11_isPamphlet wsX11_isPamphlet) := goodIn_app (goodIn_of _ (by decide +kernel)) ggX11_told_X11_isPamphlet
set_option maxRecDepth 20000 in
theorem ggX11_told_X11_holds : GoodIn wsX11_told wsX11_holds := goodIn_r _ [13, 14, 19, 20, 21, 22, 23, 24, 25, 26, 27, 28, 29, 30, 31, 32, 33, 34, 35, 36, 37, 38, 39, 40, 41, 42] (by decide +kernel) (by decide +kernel)
set_option maxRecDepth 20000 in
theorem gX11_told_X11_holds : GoodIn wsX11_told (wsV RX11 112 RX11 yX11_holds wsX11_holds) := goodIn_app (goodIn_of _ (by decide +kernel)) ggX11_told_X11_holds
set_option maxRecDepth 20000 in
theorem ggX11_told_X11_get : GoodIn wsX11_told wsX11_get := goodIn_r _ [18, 6, 19, 20, 21, 22, 23, 24, 25, 26, 27, 28, 29, 30, 31, 32, 33, 34, 35, 36, 37, 38, 39, 40, 41, 42] (by decide +kernel) (by decide +kernel)
set_option maxRecDepth 20000 in
theorem gX11_told_X11_get : GoodIn wsX11_told (wsV RX11 53 RX11 yX11_get wsX11_get) := goodIn_app (goodIn_of _ (by decide +kernel)) ggX11_told_X11_get
theorem dX11_told_0 : decode cX11_told 0 = .ok (.aload_n 0, 1) := by decide +kernel
theorem dX11_told_1 : decode cX11_told 1 = .ok (.aload_n 0, 1) := by decide +kernel
theorem dX11_told_2 : decode cX11_told 2 = .ok (.iload_n 1, 1) := by decide +kernel
theorem dX11_told_3 : decode cX11_told 3 = .ok (.invokevirtual 49, 3) := by decide +kernel
theorem dX11_told_6 : decode cX11_told 6 = .ok (.ifCond .eq 7, 3) := by decide +kernel
theorem dX11_told_9 : decode cX11_told 9 = .ok (.iconst 0, 1) := by decide +kernel
theorem dX11_told_10 : decode cX11_told 10 = .ok (.goto 4, 3) := by decide +kernel
theorem dX11_told_13 : decode cX11_told 13 = .ok (.iconst 1, 1) := by decide +kernel
theorem dX11_told_14 : decode cX11_told 14 = .ok (.invokevirtual 112, 3) := by decide +kernel
theorem dX11_told_17 : decode cX11_told 17 = .ok (.ifCond .eq 12, 3) := by decide +kernel
theorem dX11_told_20 : decode cX11_told 20 = .ok (.aload_n 0, 1) := by decide +kernel
theorem dX11_told_21 : decode cX11_told 21 = .ok (.iload_n 1, 1) := by decide +kernel
theorem dX11_told_22 : decode cX11_told 22 = .ok (.iload_n 2, 1) := by decide +kernel
theorem dX11_told_23 : decode cX11_told 23 = .ok (.invokevirtual 53, 3) := by decide +kernel
theorem dX11_told_26 : decode cX11_told 26 = .ok (.goto 4, 3) := by decide +kernel
theorem dX11_told_29 : decode cX11_told 29 = .ok (.iconst 0, 1) := by decide +kernel
theorem dX11_told_30 : decode cX11_told 30 = .ok (.ireturn, 1) := by decide +kernel
set_option maxRecDepth 20000 in
theorem ggX11_authorOf_X11_told : GoodIn wsX11_authorOf wsX11_told := goodIn_r _ [5, 6, 7, 8, 4, 9, 10, 11, 12, 13, 14, 15, 16, 17, 18, 19, 20, 21, 22, 23, 24, 25, 26, 27, 28, 29, 30, 31, 32, 33, 34, 35, 36, 37, 38, 39, 40, 41, 42, 43, 44, 45, 46] (by decide +kernel) (by decide +kernel)
set_option maxRecDepth 20000 in
theorem gX11_authorOf_X11_told : GoodIn wsX11_authorOf (wsV RX11 171 RX11 yX11_told wsX11_told) := goodIn_app (goodIn_of _ (by decide +kernel)) ggX11_authorOf_X11_told
theorem dX11_authorOf_0 : decode cX11_authorOf 0 = .ok (.aload_n 0, 1) := by decide +kernel
theorem dX11_authorOf_1 : decode cX11_authorOf 1 = .ok (.iload_n 1, 1) := by decide +kernel
theorem dX11_authorOf_2 : decode cX11_authorOf 2 = .ok (.iconst 2, 1) := by decide +kernel
theorem dX11_authorOf_3 : decode cX11_authorOf 3 = .ok (.invokevirtual 171, 3) := by decide +kernel
theorem dX11_authorOf_6 : decode cX11_authorOf 6 = .ok (.ireturn, 1) := by decide +kernel
set_option maxRecDepth 20000 in
theorem ggX11_dayOf_X11_told : GoodIn wsX11_dayOf wsX11_told := goodIn_r _ [5, 6, 7, 8, 4, 9, 10, 11, 12, 13, 14, 15, 16, 17, 18, 19, 20, 21, 22, 23, 24, 25, 26, 27, 28, 29, 30, 31, 32, 33, 34, 35, 36, 37, 38, 39, 40, 41, 42, 43, 44, 45, 46] (by decide +kernel) (by decide +kernel)
set_option maxRecDepth 20000 in
theorem gX11_dayOf_X11_told : GoodIn wsX11_dayOf (wsV RX11 171 RX11 yX11_told wsX11_told) := goodIn_app (goodIn_of _ (by decide +kernel)) ggX11_dayOf_X11_told
theorem dX11_dayOf_0 : decode cX11_dayOf 0 = .ok (.aload_n 0, 1) := by decide +kernel
theorem dX11_dayOf_1 : decode cX11_dayOf 1 = .ok (.iload_n 1, 1) := by decide +kernel
theorem dX11_dayOf_2 : decode cX11_dayOf 2 = .ok (.iconst 3, 1) := by decide +kernel
theorem dX11_dayOf_3 : decode cX11_dayOf 3 = .ok (.invokevirtual 171, 3) := by decide +kernel
theorem dX11_dayOf_6 : decode cX11_dayOf 6 = .ok (.ireturn, 1) := by decide +kernel
set_option maxRecDepth 20000 in
theorem ggX11_wordsOf_X11_told : GoodIn wsX11_wordsOf wsX11_told := goodIn_r _ [5, 6, 7, 8, 4, 9, 10, 11, 12, 13, 14, 15, 16, 17, 18, 19, 20, 21, 22, 23, 24, 25, 26, 27, 28, 29, 30, 31, 32, 33, 34, 35, 36, 37, 38, 39, 40, 41, 42, 43, 44, 45, 46] (by decide +kernel) (by decide +kernel)
set_option maxRecDepth 20000 in
theorem gX11_wordsOf_X11_told : GoodIn wsX11_wordsOf (wsV RX11 171 RX11 yX11_told wsX11_told) := goodIn_app (goodIn_of _ (by decide +kernel)) ggX11_wordsOf_X11_told
theorem dX11_wordsOf_0 : decode cX11_wordsOf 0 = .ok (.aload_n 0, 1) := by decide +kernel
theorem dX11_wordsOf_1 : decode cX11_wordsOf 1 = .ok (.iload_n 1, 1) := by decide +kernel
theorem dX11_wordsOf_2 : decode cX11_wordsOf 2 = .ok (.iconst 4, 1) := by decide +kernel
theorem dX11_wordsOf_3 : decode cX11_wordsOf 3 = .ok (.invokevirtual 171, 3) := by decide +kernel
theorem dX11_wordsOf_6 : decode cX11_wordsOf 6 = .ok (.ireturn, 1) := by decide +kernel
set_option maxRecDepth 20000 in
theorem ggX11_pagesOf_X11_isPamphlet : GoodIn wsX11_pagesOf wsX11_isPamphlet := goodIn_r _ [5, 6, 7, 8, 4, 9, 19, 20, 21, 22, 23, 24, 25, 26, 27, 28, 29, 30, 31, 32, 33, 34, 35, 36, 37, 38, 39, 40, 41, 42] (by decide +kernel) (by decide +kernel)
set_option maxRecDepth 20000 in
theorem gX11_pagesOf_X11_isPamphlet : GoodIn wsX11_pagesOf (wsV RX11 49 RX11 yX11_isPamphlet wsX11_isPamphlet) := goodIn_app (goodIn_of _ (by decide +kernel)) ggX11_pagesOf_X11_isPamphlet
set_option maxRecDepth 20000 in
theorem ggX11_pagesOf_X11_holds : GoodIn wsX11_pagesOf wsX11_holds := goodIn_r _ [13, 14, 19, 20, 21, 22, 23, 24, 25, 26, 27, 28, 29, 30, 31, 32, 33, 34, 35, 36, 37, 38, 39, 40, 41, 42] (by decide +kernel) (by decide +kernel)
set_option maxRecDepth 20000 in
theorem gX11_pagesOf_X11_holds : GoodIn wsX11_pagesOf (wsV RX11 112 RX11 yX11_holds wsX11_holds) := goodIn_app (goodIn_of _ (by decide +kernel)) ggX11_pagesOf_X11_holds
set_option maxRecDepth 20000 in
theorem ggX11_pagesOf_X11_get : GoodIn wsX11_pagesOf wsX11_get := goodIn_r _ [18, 6, 19, 20, 21, 22, 23, 24, 25, 26, 27, 28, 29, 30, 31, 32, 33, 34, 35, 36, 37, 38, 39, 40, 41, 42] (by decide +kernel) (by decide +kernel)
set_option maxRecDepth 20000 in
theorem gX11_pagesOf_X11_get : GoodIn wsX11_pagesOf (wsV RX11 53 RX11 yX11_get wsX11_get) := goodIn_app (goodIn_of _ (by decide +kernel)) ggX11_pagesOf_X11_get
theorem dX11_pagesOf_0 : decode cX11_pagesOf 0 = .ok (.aload_n 0, 1) := by decide +kernel
theorem dX11_pagesOf_1 : decode cX11_pagesOf 1 = .ok (.aload_n 0, 1) := by decide +kernel
theorem dX11_pagesOf_2 : decode cX11_pagesOf 2 = .ok (.iload_n 1, 1) := by decide +kernel
theorem dX11_pagesOf_3 : decode cX11_pagesOf 3 = .ok (.invokevirtual 49, 3) := by decide +kernel
theorem dX11_pagesOf_6 : decode cX11_pagesOf 6 = .ok (.ifCond .eq 7, 3) := by decide +kernel
theorem dX11_pagesOf_9 : decode cX11_pagesOf 9 = .ok (.iconst 0, 1) := by decide +kernel
theorem dX11_pagesOf_10 : decode cX11_pagesOf 10 = .ok (.goto 4, 3) := by decide +kernel
theorem dX11_pagesOf_13 : decode cX11_pagesOf 13 = .ok (.iconst 1, 1) := by decide +kernel
theorem dX11_pagesOf_14 : decode cX11_pagesOf 14 = .ok (.invokevirtual 112, 3) := by decide +kernel
theorem dX11_pagesOf_17 : decode cX11_pagesOf 17 = .ok (.ifCond .eq 20, 3) := by decide +kernel
theorem dX11_pagesOf_20 : decode cX11_pagesOf 20 = .ok (.aload_n 0, 1) := by decide +kernel
theorem dX11_pagesOf_21 : decode cX11_pagesOf 21 = .ok (.iload_n 1, 1) := by decide +kernel
theorem dX11_pagesOf_22 : decode cX11_pagesOf 22 = .ok (.iconst 4, 1) := by decide +kernel
theorem dX11_pagesOf_23 : decode cX11_pagesOf 23 = .ok (.invokevirtual 53, 3) := by decide +kernel
theorem dX11_pagesOf_26 : decode cX11_pagesOf 26 = .ok (.bipush 8, 2) := by decide +kernel
theorem dX11_pagesOf_28 : decode cX11_pagesOf 28 = .ok (.iadd, 1) := by decide +kernel
theorem dX11_pagesOf_29 : decode cX11_pagesOf 29 = .ok (.iconst 1, 1) := by decide +kernel
theorem dX11_pagesOf_30 : decode cX11_pagesOf 30 = .ok (.isub, 1) := by decide +kernel
theorem dX11_pagesOf_31 : decode cX11_pagesOf 31 = .ok (.bipush 8, 2) := by decide +kernel
theorem dX11_pagesOf_33 : decode cX11_pagesOf 33 = .ok (.idiv, 1) := by decide +kernel
theorem dX11_pagesOf_34 : decode cX11_pagesOf 34 = .ok (.goto 4, 3) := by decide +kernel
theorem dX11_pagesOf_37 : decode cX11_pagesOf 37 = .ok (.iconst 0, 1) := by decide +kernel
theorem dX11_pagesOf_38 : decode cX11_pagesOf 38 = .ok (.ireturn, 1) := by decide +kernel
set_option maxRecDepth 20000 in
theorem ggX11_wordsOn_X11_isPamphlet : GoodIn wsX11_wordsOn wsX11_isPamphlet := goodIn_r _ [5, 6, 7, 8, 4, 9, 19, 20, 21, 22, 23, 24, 25, 26, 27, 28, 29, 30, 31, 32, 33, 34, 35, 36, 37, 38, 39, 40, 41, 42] (by decide +kernel) (by decide +kernel)
set_option maxRecDepth 20000 in
theorem gX11_wordsOn_X11_isPamphlet : GoodIn wsX11_wordsOn (wsV RX11 49 RX11 yX11_isPamphlet wsX11_isPamphlet) := goodIn_app (goodIn_of _ (by decide +kernel)) ggX11_wordsOn_X11_isPamphlet
set_option maxRecDepth 20000 in
theorem ggX11_wordsOn_X11_get : GoodIn wsX11_wordsOn wsX11_get := goodIn_r _ [13, 6, 19, 20, 21, 22, 23, 24, 25, 26, 27, 28, 29, 30, 31, 32, 33, 34, 35, 36, 37, 38, 39, 40, 41, 42] (by decide +kernel) (by decide +kernel)
set_option maxRecDepth 20000 in
theorem gX11_wordsOn_X11_get : GoodIn wsX11_wordsOn (wsV RX11 53 RX11 yX11_get wsX11_get) := goodIn_app (goodIn_of _ (by decide +kernel)) ggX11_wordsOn_X11_get
set_option maxRecDepth 20000 in
theorem ggX11_wordsOn_X11_holds : GoodIn wsX11_wordsOn wsX11_holds := goodIn_r _ [17, 18, 19, 20, 21, 22, 23, 24, 25, 26, 27, 28, 29, 30, 31, 32, 33, 34, 35, 36, 37, 38, 39, 40, 41, 42] (by decide +kernel) (by decide +kernel)
set_option maxRecDepth 20000 in
theorem gX11_wordsOn_X11_holds : GoodIn wsX11_wordsOn (wsV RX11 112 RX11 yX11_holds wsX11_holds) := goodIn_app (goodIn_of _ (by decide +kernel)) ggX11_wordsOn_X11_holds
theorem dX11_wordsOn_0 : decode cX11_wordsOn 0 = .ok (.aload_n 0, 1) := by decide +kernel
theorem dX11_wordsOn_1 : decode cX11_wordsOn 1 = .ok (.aload_n 0, 1) := by decide +kernel
theorem dX11_wordsOn_2 : decode cX11_wordsOn 2 = .ok (.iload_n 1, 1) := by decide +kernel
theorem dX11_wordsOn_3 : decode cX11_wordsOn 3 = .ok (.invokevirtual 49, 3) := by decide +kernel
theorem dX11_wordsOn_6 : decode cX11_wordsOn 6 = .ok (.ifCond .eq 30, 3) := by decide +kernel
theorem dX11_wordsOn_9 : decode cX11_wordsOn 9 = .ok (.iload_n 2, 1) := by decide +kernel
theorem dX11_wordsOn_10 : decode cX11_wordsOn 10 = .ok (.ifCond .lt 26, 3) := by decide +kernel
theorem dX11_wordsOn_13 : decode cX11_wordsOn 13 = .ok (.iload_n 2, 1) := by decide +kernel
theorem dX11_wordsOn_14 : decode cX11_wordsOn 14 = .ok (.bipush 60, 2) := by decide +kernel
theorem dX11_wordsOn_16 : decode cX11_wordsOn 16 = .ok (.if_icmp .ge 20, 3) := by decide +kernel
theorem dX11_wordsOn_19 : decode cX11_wordsOn 19 = .ok (.bipush 8, 2) := by decide +kernel
theorem dX11_wordsOn_21 : decode cX11_wordsOn 21 = .ok (.iload_n 2, 1) := by decide +kernel
theorem dX11_wordsOn_22 : decode cX11_wordsOn 22 = .ok (.imul, 1) := by decide +kernel
theorem dX11_wordsOn_23 : decode cX11_wordsOn 23 = .ok (.aload_n 0, 1) := by decide +kernel
theorem dX11_wordsOn_24 : decode cX11_wordsOn 24 = .ok (.iload_n 1, 1) := by decide +kernel
theorem dX11_wordsOn_25 : decode cX11_wordsOn 25 = .ok (.iconst 4, 1) := by decide +kernel
theorem dX11_wordsOn_26 : decode cX11_wordsOn 26 = .ok (.invokevirtual 53, 3) := by decide +kernel
theorem dX11_wordsOn_29 : decode cX11_wordsOn 29 = .ok (.if_icmp .ge 7, 3) := by decide +kernel
theorem dX11_wordsOn_32 : decode cX11_wordsOn 32 = .ok (.iconst 0, 1) := by decide +kernel
theorem dX11_wordsOn_33 : decode cX11_wordsOn 33 = .ok (.goto 4, 3) := by decide +kernel
theorem dX11_wordsOn_36 : decode cX11_wordsOn 36 = .ok (.iconst 1, 1) := by decide +kernel
theorem dX11_wordsOn_37 : decode cX11_wordsOn 37 = .ok (.invokevirtual 112, 3) := by decide +kernel
theorem dX11_wordsOn_40 : decode cX11_wordsOn 40 = .ok (.ifCond .ne 5, 3) := by decide +kernel
theorem dX11_wordsOn_43 : decode cX11_wordsOn 43 = .ok (.iconst 0, 1) := by decide +kernel
theorem dX11_wordsOn_44 : decode cX11_wordsOn 44 = .ok (.ireturn, 1) := by decide +kernel
theorem dX11_wordsOn_45 : decode cX11_wordsOn 45 = .ok (.aload_n 0, 1) := by decide +kernel
theorem dX11_wordsOn_46 : decode cX11_wordsOn 46 = .ok (.iload_n 1, 1) := by decide +kernel
theorem dX11_wordsOn_47 : decode cX11_wordsOn 47 = .ok (.iconst 4, 1) := by decide +kernel
theorem dX11_wordsOn_48 : decode cX11_wordsOn 48 = .ok (.invokevirtual 53, 3) := by decide +kernel
theorem dX11_wordsOn_51 : decode cX11_wordsOn 51 = .ok (.bipush 8, 2) := by decide +kernel
theorem dX11_wordsOn_53 : decode cX11_wordsOn 53 = .ok (.iload_n 2, 1) := by decide +kernel
theorem dX11_wordsOn_54 : decode cX11_wordsOn 54 = .ok (.imul, 1) := by decide +kernel
theorem dX11_wordsOn_55 : decode cX11_wordsOn 55 = .ok (.isub, 1) := by decide +kernel
theorem dX11_wordsOn_56 : decode cX11_wordsOn 56 = .ok (.istore_n 3, 1) := by decide +kernel
theorem dX11_wordsOn_57 : decode cX11_wordsOn 57 = .ok (.iload_n 3, 1) := by decide +kernel
theorem dX11_wordsOn_58 : decode cX11_wordsOn 58 = .ok (.bipush 8, 2) := by decide +kernel
theorem dX11_wordsOn_60 : decode cX11_wordsOn 60 = .ok (.if_icmp .ge 7, 3) := by decide +kernel
theorem dX11_wordsOn_63 : decode cX11_wordsOn 63 = .ok (.iload_n 3, 1) := by decide +kernel
theorem dX11_wordsOn_64 : decode cX11_wordsOn 64 = .ok (.goto 5, 3) := by decide +kernel
theorem dX11_wordsOn_67 : decode cX11_wordsOn 67 = .ok (.bipush 8, 2) := by decide +kernel
theorem dX11_wordsOn_69 : decode cX11_wordsOn 69 = .ok (.ireturn, 1) := by decide +kernel
set_option maxRecDepth 20000 in
theorem ggX11_letterOf_X11_isWord : GoodIn wsX11_letterOf wsX11_isWord := goodIn_r _ [5, 6, 7, 8, 4, 9, 10, 11, 12, 13, 14, 15, 16, 17, 32, 33, 34, 35, 36, 37, 38, 39, 40, 41, 42, 43, 44, 45, 46, 47, 48, 49, 50, 51, 52, 53, 54, 55] (by decide +kernel) (by decide +kernel)
set_option maxRecDepth 20000 in
theorem gX11_letterOf_X11_isWord : GoodIn wsX11_letterOf (wsV RX11 174 RX11 yX11_isWord wsX11_isWord) := goodIn_app (goodIn_of _ (by decide +kernel)) ggX11_letterOf_X11_isWord
set_option maxRecDepth 20000 in
theorem ggX11_letterOf_X11_holds : GoodIn wsX11_letterOf wsX11_holds := goodIn_r _ [21, 22, 32, 33, 34, 35, 36, 37, 38, 39, 40, 41, 42, 43, 44, 45, 46, 47, 48, 49, 50, 51, 52, 53, 54, 55] (by decide +kernel) (by decide +kernel)
set_option maxRecDepth 20000 in
theorem gX11_letterOf_X11_holds : GoodIn wsX11_letterOf (wsV RX11 112 RX11 yX11_holds wsX11_holds) := goodIn_app (goodIn_of _ (by decide +kernel)) ggX11_letterOf_X11_holds
set_option maxRecDepth 20000 in
theorem ggX11_letterOf_X11_word : GoodIn wsX11_letterOf wsX11_word := goodIn_r _ [26, 27, 32, 33, 34, 35, 36, 37, 38, 39, 40, 41, 42, 43, 44, 45, 46, 47, 48, 49, 50, 51, 52, 53, 54, 55] (by decide +kernel) (by decide +kernel)
set_option maxRecDepth 20000 in
theorem gX11_letterOf_X11_word : GoodIn wsX11_letterOf (wsV RX11 121 RX11 yX11_word wsX11_word) := goodIn_app (goodIn_of _ (by decide +kernel)) ggX11_letterOf_X11_word
set_option maxRecDepth 20000 in
theorem ggX11_letterOf_X11_letter : GoodIn wsX11_letterOf wsX11_letter := goodIn_r _ [30, 31] (by decide +kernel) (by decide +kernel)
set_option maxRecDepth 20000 in
theorem gX11_letterOf_X11_letter : GoodIn wsX11_letterOf (va_wsS RX11 177 yX11_letter wsX11_letter) := goodIn_app (goodIn_of _ (by decide +kernel)) ggX11_letterOf_X11_letter
theorem dX11_letterOf_0 : decode cX11_letterOf 0 = .ok (.aload_n 0, 1) := by decide +kernel
theorem dX11_letterOf_1 : decode cX11_letterOf 1 = .ok (.aload_n 0, 1) := by decide +kernel
theorem dX11_letterOf_2 : decode cX11_letterOf 2 = .ok (.iload_n 1, 1) := by decide +kernel
theorem dX11_letterOf_3 : decode cX11_letterOf 3 = .ok (.iload_n 2, 1) := by decide +kernel
theorem dX11_letterOf_4 : decode cX11_letterOf 4 = .ok (.invokevirtual 174, 3) := by decide +kernel
theorem dX11_letterOf_7 : decode cX11_letterOf 7 = .ok (.ifCond .eq 11, 3) := by decide +kernel
theorem dX11_letterOf_10 : decode cX11_letterOf 10 = .ok (.iload_n 3, 1) := by decide +kernel
theorem dX11_letterOf_11 : decode cX11_letterOf 11 = .ok (.ifCond .lt 7, 3) := by decide +kernel
theorem dX11_letterOf_14 : decode cX11_letterOf 14 = .ok (.iconst 0, 1) := by decide +kernel
theorem dX11_letterOf_15 : decode cX11_letterOf 15 = .ok (.goto 4, 3) := by decide +kernel
theorem dX11_letterOf_18 : decode cX11_letterOf 18 = .ok (.iconst 1, 1) := by decide +kernel
theorem dX11_letterOf_19 : decode cX11_letterOf 19 = .ok (.invokevirtual 112, 3) := by decide +kernel
theorem dX11_letterOf_22 : decode cX11_letterOf 22 = .ok (.ifCond .eq 16, 3) := by decide +kernel
theorem dX11_letterOf_25 : decode cX11_letterOf 25 = .ok (.aload_n 0, 1) := by decide +kernel
theorem dX11_letterOf_26 : decode cX11_letterOf 26 = .ok (.iload_n 1, 1) := by decide +kernel
theorem dX11_letterOf_27 : decode cX11_letterOf 27 = .ok (.iload_n 2, 1) := by decide +kernel
theorem dX11_letterOf_28 : decode cX11_letterOf 28 = .ok (.invokevirtual 121, 3) := by decide +kernel
theorem dX11_letterOf_31 : decode cX11_letterOf 31 = .ok (.iload_n 3, 1) := by decide +kernel
theorem dX11_letterOf_32 : decode cX11_letterOf 32 = .ok (.invokestatic 177, 3) := by decide +kernel
theorem dX11_letterOf_35 : decode cX11_letterOf 35 = .ok (.goto 4, 3) := by decide +kernel
theorem dX11_letterOf_38 : decode cX11_letterOf 38 = .ok (.iconst 0, 1) := by decide +kernel
theorem dX11_letterOf_39 : decode cX11_letterOf 39 = .ok (.ireturn, 1) := by decide +kernel
set_option maxRecDepth 20000 in
theorem ggX11_isSameWord_X11_isWord : GoodIn wsX11_isSameWord wsX11_isWord := goodIn_r _ [5, 6, 7, 8, 4, 9, 10, 11, 12, 13, 14, 15, 16, 17, 28, 29, 30, 31, 32, 33, 34, 35, 36, 37, 38, 39, 40, 41, 42, 43, 44, 45, 46, 47, 48, 49, 50, 51] (by decide +kernel) (by decide +kernel)
set_option maxRecDepth 20000 in
theorem gX11_isSameWord_X11_isWord : GoodIn wsX11_isSameWord (wsV RX11 174 RX11 yX11_isWord wsX11_isWord) := goodIn_app (goodIn_of _ (by decide +kernel)) ggX11_isSameWord_X11_isWord
set_option maxRecDepth 20000 in
theorem ggX11_isSameWord_X11_holds : GoodIn wsX11_isSameWord wsX11_holds := goodIn_r _ [21, 22, 28, 29, 30, 31, 32, 33, 34, 35, 36, 37, 38, 39, 40, 41, 42, 43, 44, 45, 46, 47, 48, 49, 50, 51] (by decide +kernel) (by decide +kernel)
set_option maxRecDepth 20000 in
theorem gX11_isSameWord_X11_holds : GoodIn wsX11_isSameWord (wsV RX11 112 RX11 yX11_holds wsX11_holds) := goodIn_app (goodIn_of _ (by decide +kernel)) ggX11_isSameWord_X11_holds
set_option maxRecDepth 20000 in
theorem ggX11_isSameWord_X11_word : GoodIn wsX11_isSameWord wsX11_word := goodIn_r _ [26, 27, 28, 29, 30, 31, 32, 33, 34, 35, 36, 37, 38, 39, 40, 41, 42, 43, 44, 45, 46, 47, 48, 49, 50, 51] (by decide +kernel) (by decide +kernel)
set_option maxRecDepth 20000 in
theorem gX11_isSameWord_X11_word : GoodIn wsX11_isSameWord (wsV RX11 121 RX11 yX11_word wsX11_word) := goodIn_app (goodIn_of _ (by decide +kernel)) ggX11_isSameWord_X11_word
theorem dX11_isSameWord_0 : decode cX11_isSameWord 0 = .ok (.aload_n 0, 1) := by decide +kernel
theorem dX11_isSameWord_1 : decode cX11_isSameWord 1 = .ok (.aload_n 0, 1) := by decide +kernel
theorem dX11_isSameWord_2 : decode cX11_isSameWord 2 = .ok (.iload_n 1, 1) := by decide +kernel
theorem dX11_isSameWord_3 : decode cX11_isSameWord 3 = .ok (.iload_n 2, 1) := by decide +kernel
theorem dX11_isSameWord_4 : decode cX11_isSameWord 4 = .ok (.invokevirtual 174, 3) := by decide +kernel
theorem dX11_isSameWord_7 : decode cX11_isSameWord 7 = .ok (.ifCond .eq 17, 3) := by decide +kernel
theorem dX11_isSameWord_10 : decode cX11_isSameWord 10 = .ok (.aload_n 0, 1) := by decide +kernel
theorem dX11_isSameWord_11 : decode cX11_isSameWord 11 = .ok (.iload_n 3, 1) := by decide +kernel
theorem dX11_isSameWord_12 : decode cX11_isSameWord 12 = .ok (.iload 4, 2) := by decide +kernel
theorem dX11_isSameWord_14 : decode cX11_isSameWord 14 = .ok (.invokevirtual 174, 3) := by decide +kernel
theorem dX11_isSameWord_17 : decode cX11_isSameWord 17 = .ok (.ifCond .eq 7, 3) := by decide +kernel
theorem dX11_isSameWord_20 : decode cX11_isSameWord 20 = .ok (.iconst 0, 1) := by decide +kernel
theorem dX11_isSameWord_21 : decode cX11_isSameWord 21 = .ok (.goto 4, 3) := by decide +kernel
theorem dX11_isSameWord_24 : decode cX11_isSameWord 24 = .ok (.iconst 1, 1) := by decide +kernel
theorem dX11_isSameWord_25 : decode cX11_isSameWord 25 = .ok (.invokevirtual 112, 3) := by decide +kernel
theorem dX11_isSameWord_28 : decode cX11_isSameWord 28 = .ok (.ifCond .eq 24, 3) := by decide +kernel
theorem dX11_isSameWord_31 : decode cX11_isSameWord 31 = .ok (.aload_n 0, 1) := by decide +kernel
theorem dX11_isSameWord_32 : decode cX11_isSameWord 32 = .ok (.iload_n 1, 1) := by decide +kernel
theorem dX11_isSameWord_33 : decode cX11_isSameWord 33 = .ok (.iload_n 2, 1) := by decide +kernel
theorem dX11_isSameWord_34 : decode cX11_isSameWord 34 = .ok (.invokevirtual 121, 3) := by decide +kernel
theorem dX11_isSameWord_37 : decode cX11_isSameWord 37 = .ok (.aload_n 0, 1) := by decide +kernel
theorem dX11_isSameWord_38 : decode cX11_isSameWord 38 = .ok (.iload_n 3, 1) := by decide +kernel
theorem dX11_isSameWord_39 : decode cX11_isSameWord 39 = .ok (.iload 4, 2) := by decide +kernel
theorem dX11_isSameWord_41 : decode cX11_isSameWord 41 = .ok (.invokevirtual 121, 3) := by decide +kernel
theorem dX11_isSameWord_44 : decode cX11_isSameWord 44 = .ok (.lcmp, 1) := by decide +kernel
theorem dX11_isSameWord_45 : decode cX11_isSameWord 45 = .ok (.ifCond .ne 7, 3) := by decide +kernel
theorem dX11_isSameWord_48 : decode cX11_isSameWord 48 = .ok (.iconst 1, 1) := by decide +kernel
theorem dX11_isSameWord_49 : decode cX11_isSameWord 49 = .ok (.goto 4, 3) := by decide +kernel
theorem dX11_isSameWord_52 : decode cX11_isSameWord 52 = .ok (.iconst 0, 1) := by decide +kernel
theorem dX11_isSameWord_53 : decode cX11_isSameWord 53 = .ok (.ireturn, 1) := by decide +kernel
set_option maxRecDepth 20000 in
theorem ggX11_quotationsOf_X11_told : GoodIn wsX11_quotationsOf wsX11_told := goodIn_r _ [5, 6, 7, 8, 4, 9, 10, 11, 12, 13, 14, 15, 16, 17, 18, 19, 20, 21, 22, 23, 24, 25, 26, 27, 28, 29, 30, 31, 32, 33, 34, 35, 36, 37, 38, 39, 40, 41, 42, 43, 44, 45, 46] (by decide +kernel) (by decide +kernel)
set_option maxRecDepth 20000 in
theorem gX11_quotationsOf_X11_told : GoodIn wsX11_quotationsOf (wsV RX11 171 RX11 yX11_told wsX11_told) := goodIn_app (goodIn_of _ (by decide +kernel)) ggX11_quotationsOf_X11_told
theorem dX11_quotationsOf_0 : decode cX11_quotationsOf 0 = .ok (.aload_n 0, 1) := by decide +kernel
theorem dX11_quotationsOf_1 : decode cX11_quotationsOf 1 = .ok (.iload_n 1, 1) := by decide +kernel
theorem dX11_quotationsOf_2 : decode cX11_quotationsOf 2 = .ok (.iconst 5, 1) := by decide +kernel
theorem dX11_quotationsOf_3 : decode cX11_quotationsOf 3 = .ok (.invokevirtual 171, 3) := by decide +kernel
theorem dX11_quotationsOf_6 : decode cX11_quotationsOf 6 = .ok (.ireturn, 1) := by decide +kernel
set_option maxRecDepth 20000 in
theorem ggX11_isTold_X11_isQuote : GoodIn wsX11_isTold wsX11_isQuote := goodIn_r _ [5, 6, 7, 8, 4, 9, 10, 11, 12, 13, 14, 15, 16, 17, 23, 24, 25, 26, 27, 28, 29, 30, 31, 32, 33, 34, 35, 36, 37, 38, 39, 40, 41, 42, 43, 44, 45, 46] (by decide +kernel) (by decide +kernel)
set_option maxRecDepth 20000 in
theorem gX11_isTold_X11_isQuote : GoodIn wsX11_isTold (wsV RX11 162 RX11 yX11_isQuote wsX11_isQuote) := goodIn_app (goodIn_of _ (by decide +kernel)) ggX11_isTold_X11_isQuote
set_option maxRecDepth 20000 in
theorem ggX11_isTold_X11_holds : GoodIn wsX11_isTold wsX11_holds := goodIn_r _ [21, 22, 23, 24, 25, 26, 27, 28, 29, 30, 31, 32, 33, 34, 35, 36, 37, 38, 39, 40, 41, 42, 43, 44, 45, 46] (by decide +kernel) (by decide +kernel)
set_option maxRecDepth 20000 in
theorem gX11_isTold_X11_holds : GoodIn wsX11_isTold (wsV RX11 112 RX11 yX11_holds wsX11_holds) := goodIn_app (goodIn_of _ (by decide +kernel)) ggX11_isTold_X11_holds
theorem dX11_isTold_0 : decode cX11_isTold 0 = .ok (.aload_n 0, 1) := by decide +kernel
theorem dX11_isTold_1 : decode cX11_isTold 1 = .ok (.aload_n 0, 1) := by decide +kernel
theorem dX11_isTold_2 : decode cX11_isTold 2 = .ok (.iload_n 1, 1) := by decide +kernel
theorem dX11_isTold_3 : decode cX11_isTold 3 = .ok (.iload_n 2, 1) := by decide +kernel
theorem dX11_isTold_4 : decode cX11_isTold 4 = .ok (.invokevirtual 162, 3) := by decide +kernel
theorem dX11_isTold_7 : decode cX11_isTold 7 = .ok (.ifCond .eq 7, 3) := by decide +kernel
theorem dX11_isTold_10 : decode cX11_isTold 10 = .ok (.iconst 0, 1) := by decide +kernel
theorem dX11_isTold_11 : decode cX11_isTold 11 = .ok (.goto 4, 3) := by decide +kernel
theorem dX11_isTold_14 : decode cX11_isTold 14 = .ok (.iconst 1, 1) := by decide +kernel
theorem dX11_isTold_15 : decode cX11_isTold 15 = .ok (.invokevirtual 112, 3) := by decide +kernel
theorem dX11_isTold_18 : decode cX11_isTold 18 = .ok (.ireturn, 1) := by decide +kernel
set_option maxRecDepth 20000 in
theorem ggX11_sourceOf_X11_isTold : GoodIn wsX11_sourceOf wsX11_isTold := goodIn_r _ [5, 6, 7, 8, 4, 9, 10, 11, 12, 13, 14, 15, 16, 17, 18, 19, 20, 21, 22, 23, 24, 25, 26, 31, 32, 33, 34, 35, 36, 37, 38, 39, 40, 41, 42, 43, 44, 45, 46, 47, 48, 49, 50, 51, 52, 53, 54] (by decide +kernel) (by decide +kernel)
set_option maxRecDepth 20000 in
theorem gX11_sourceOf_X11_isTold : GoodIn wsX11_sourceOf (wsV RX11 181 RX11 yX11_isTold wsX11_isTold) := goodIn_app (goodIn_of _ (by decide +kernel)) ggX11_sourceOf_X11_isTold
set_option maxRecDepth 20000 in
theorem ggX11_sourceOf_X11_source : GoodIn wsX11_sourceOf wsX11_source := goodIn_r _ [30, 18, 19, 20, 4, 21, 14, 31, 32, 33, 34, 35, 36, 37, 38, 39, 40, 41, 42, 43, 44, 45, 46, 47, 48, 49, 50, 51, 52, 53, 54] (by decide +kernel) (by decide +kernel)
set_option maxRecDepth 20000 in
theorem gX11_sourceOf_X11_source : GoodIn wsX11_sourceOf (wsV RX11 140 RX11 yX11_source wsX11_source) := goodIn_app (goodIn_of _ (by decide +kernel)) ggX11_sourceOf_X11_source
theorem dX11_sourceOf_0 : decode cX11_sourceOf 0 = .ok (.aload_n 0, 1) := by decide +kernel
theorem dX11_sourceOf_1 : decode cX11_sourceOf 1 = .ok (.iload_n 1, 1) := by decide +kernel
theorem dX11_sourceOf_2 : decode cX11_sourceOf 2 = .ok (.iload_n 2, 1) := by decide +kernel
theorem dX11_sourceOf_3 : decode cX11_sourceOf 3 = .ok (.invokevirtual 181, 3) := by decide +kernel
theorem dX11_sourceOf_6 : decode cX11_sourceOf 6 = .ok (.ifCond .eq 12, 3) := by decide +kernel
theorem dX11_sourceOf_9 : decode cX11_sourceOf 9 = .ok (.aload_n 0, 1) := by decide +kernel
theorem dX11_sourceOf_10 : decode cX11_sourceOf 10 = .ok (.iload_n 1, 1) := by decide +kernel
theorem dX11_sourceOf_11 : decode cX11_sourceOf 11 = .ok (.iload_n 2, 1) := by decide +kernel
theorem dX11_sourceOf_12 : decode cX11_sourceOf 12 = .ok (.invokevirtual 140, 3) := by decide +kernel
theorem dX11_sourceOf_15 : decode cX11_sourceOf 15 = .ok (.goto 4, 3) := by decide +kernel
theorem dX11_sourceOf_18 : decode cX11_sourceOf 18 = .ok (.iconst 0, 1) := by decide +kernel
theorem dX11_sourceOf_19 : decode cX11_sourceOf 19 = .ok (.ireturn, 1) := by decide +kernel
set_option maxRecDepth 20000 in
theorem ggX11_beginOf_X11_isTold : GoodIn wsX11_beginOf wsX11_isTold := goodIn_r _ [5, 6, 7, 8, 4, 9, 10, 11, 12, 13, 14, 15, 16, 17, 18, 19, 20, 21, 22, 23, 24, 25, 26, 31, 32, 33, 34, 35, 36, 37, 38, 39, 40, 41, 42, 43, 44, 45, 46, 47, 48, 49, 50, 51, 52, 53, 54] (by decide +kernel) (by decide +kernel)
set_option maxRecDepth 20000 in
theorem gX11_beginOf_X11_isTold : GoodIn wsX11_beginOf (wsV RX11 181 RX11 yX11_isTold wsX11_isTold) := goodIn_app (goodIn_of _ (by decide +kernel)) ggX11_beginOf_X11_isTold
set_option maxRecDepth 20000 in
theorem ggX11_beginOf_X11_begin : GoodIn wsX11_beginOf wsX11_begin := goodIn_r _ [30, 18, 19, 20, 4, 21, 14, 31, 32, 33, 34, 35, 36, 37, 38, 39, 40, 41, 42, 43, 44, 45, 46, 47, 48, 49, 50, 51, 52, 53, 54] (by decide +kernel) (by decide +kernel)
set_option maxRecDepth 20000 in
theorem gX11_beginOf_X11_begin : GoodIn wsX11_beginOf (wsV RX11 118 RX11 yX11_begin wsX11_begin) := goodIn_app (goodIn_of _ (by decide +kernel)) ggX11_beginOf_X11_begin
theorem dX11_beginOf_0 : decode cX11_beginOf 0 = .ok (.aload_n 0, 1) := by decide +kernel
theorem dX11_beginOf_1 : decode cX11_beginOf 1 = .ok (.iload_n 1, 1) := by decide +kernel
theorem dX11_beginOf_2 : decode cX11_beginOf 2 = .ok (.iload_n 2, 1) := by decide +kernel
theorem dX11_beginOf_3 : decode cX11_beginOf 3 = .ok (.invokevirtual 181, 3) := by decide +kernel
theorem dX11_beginOf_6 : decode cX11_beginOf 6 = .ok (.ifCond .eq 12, 3) := by decide +kernel
theorem dX11_beginOf_9 : decode cX11_beginOf 9 = .ok (.aload_n 0, 1) := by decide +kernel
theorem dX11_beginOf_10 : decode cX11_beginOf 10 = .ok (.iload_n 1, 1) := by decide +kernel
theorem dX11_beginOf_11 : decode cX11_beginOf 11 = .ok (.iload_n 2, 1) := by decide +kernel
theorem dX11_beginOf_12 : decode cX11_beginOf 12 = .ok (.invokevirtual 118, 3) := by decide +kernel
theorem dX11_beginOf_15 : decode cX11_beginOf 15 = .ok (.goto 4, 3) := by decide +kernel
theorem dX11_beginOf_18 : decode cX11_beginOf 18 = .ok (.iconst 0, 1) := by decide +kernel
theorem dX11_beginOf_19 : decode cX11_beginOf 19 = .ok (.ireturn, 1) := by decide +kernel
set_option maxRecDepth 20000 in
theorem ggX11_lengthOf_X11_isTold : GoodIn wsX11_lengthOf wsX11_isTold := goodIn_r _ [5, 6, 7, 8, 4, 9, 10, 11, 12, 13, 14, 15, 16, 17, 18, 19, 20, 21, 22, 23, 24, 25, 26, 31, 32, 33, 34, 35, 36, 37, 38, 39, 40, 41, 42, 43, 44, 45, 46, 47, 48, 49, 50, 51, 52, 53, 54] (by decide +kernel) (by decide +kernel)
set_option maxRecDepth 20000 in
theorem gX11_lengthOf_X11_isTold : GoodIn wsX11_lengthOf (wsV RX11 181 RX11 yX11_isTold wsX11_isTold) := goodIn_app (goodIn_of _ (by decide +kernel)) ggX11_lengthOf_X11_isTold
set_option maxRecDepth 20000 in
theorem ggX11_lengthOf_X11_size : GoodIn wsX11_lengthOf wsX11_size := goodIn_r _ [30, 18, 19, 20, 4, 21, 14, 31, 32, 33, 34, 35, 36, 37, 38, 39, 40, 41, 42, 43, 44, 45, 46, 47, 48, 49, 50, 51, 52, 53, 54] (by decide +kernel) (by decide +kernel)
set_option maxRecDepth 20000 in
theorem gX11_lengthOf_X11_size : GoodIn wsX11_lengthOf (wsV RX11 115 RX11 yX11_size wsX11_size) := goodIn_app (goodIn_of _ (by decide +kernel)) ggX11_lengthOf_X11_size
theorem dX11_lengthOf_0 : decode cX11_lengthOf 0 = .ok (.aload_n 0, 1) := by decide +kernel
theorem dX11_lengthOf_1 : decode cX11_lengthOf 1 = .ok (.iload_n 1, 1) := by decide +kernel
theorem dX11_lengthOf_2 : decode cX11_lengthOf 2 = .ok (.iload_n 2, 1) := by decide +kernel
theorem dX11_lengthOf_3 : decode cX11_lengthOf 3 = .ok (.invokevirtual 181, 3) := by decide +kernel
theorem dX11_lengthOf_6 : decode cX11_lengthOf 6 = .ok (.ifCond .eq 12, 3) := by decide +kernel
theorem dX11_lengthOf_9 : decode cX11_lengthOf 9 = .ok (.aload_n 0, 1) := by decide +kernel
theorem dX11_lengthOf_10 : decode cX11_lengthOf 10 = .ok (.iload_n 1, 1) := by decide +kernel
theorem dX11_lengthOf_11 : decode cX11_lengthOf 11 = .ok (.iload_n 2, 1) := by decide +kernel
theorem dX11_lengthOf_12 : decode cX11_lengthOf 12 = .ok (.invokevirtual 115, 3) := by decide +kernel
theorem dX11_lengthOf_15 : decode cX11_lengthOf 15 = .ok (.goto 4, 3) := by decide +kernel
theorem dX11_lengthOf_18 : decode cX11_lengthOf 18 = .ok (.iconst 0, 1) := by decide +kernel
theorem dX11_lengthOf_19 : decode cX11_lengthOf 19 = .ok (.ireturn, 1) := by decide +kernel
set_option maxRecDepth 20000 in
theorem ggX11_changesByTable_X11_isTold : GoodIn wsX11_changesByTable wsX11_isTold := goodIn_r _ [5, 6, 7, 8, 4, 9, 10, 11, 12, 13, 14, 15, 16, 17, 18, 19, 20, 21, 22, 23, 24, 25, 26, 57, 58, 59, 60, 61, 62, 63, 64, 65, 66, 67, 68, 69, 70, 71, 72, 73, 74, 75, 76, 77, 78, 79, 80] (by decide +kernel) (by decide +kernel)
set_option maxRecDepth 20000 in
theorem gX11_changesByTable_X11_isTold : GoodIn wsX11_changesByTable (wsV RX11 181 RX11 yX11_isTold wsX11_isTold) := goodIn_app (goodIn_of _ (by decide +kernel)) ggX11_changesByTable_X11_isTold
set_option maxRecDepth 20000 in
theorem ggX11_changesByTable_X11_byTable : GoodIn wsX11_changesByTable wsX11_byTable := goodIn_r _ [30, 31, 32, 33, 34, 4, 35, 18, 19, 20, 21, 14, 36, 37, 38, 39, 40, 41, 42, 43, 44, 45, 46, 47, 48, 49, 50, 51, 52, 53, 54, 55, 56, 57, 58, 59, 60, 61, 62, 63, 64, 65, 66, 67, 68, 69, 70, 71, 72, 73, 74, 75, 76, 77, 78, 79, 80] (by decide +kernel) (by decide +kernel)
set_option maxRecDepth 20000 in
theorem gX11_changesByTable_X11_byTable : GoodIn wsX11_changesByTable (wsV RX11 184 RX11 yX11_byTable wsX11_byTable) := goodIn_app (goodIn_of _ (by decide +kernel)) ggX11_changesByTable_X11_byTable
theorem dX11_changesByTable_0 : decode cX11_changesByTable 0 = .ok (.aload_n 0, 1) := by decide +kernel
theorem dX11_changesByTable_1 : decode cX11_changesByTable 1 = .ok (.iload_n 1, 1) := by decide +kernel
theorem dX11_changesByTable_2 : decode cX11_changesByTable 2 = .ok (.iload_n 2, 1) := by decide +kernel
theorem dX11_changesByTable_3 : decode cX11_changesByTable 3 = .ok (.invokevirtual 181, 3) := by decide +kernel
theorem dX11_changesByTable_6 : decode cX11_changesByTable 6 = .ok (.ifCond .eq 12, 3) := by decide +kernel
theorem dX11_changesByTable_9 : decode cX11_changesByTable 9 = .ok (.aload_n 0, 1) := by decide +kernel
theorem dX11_changesByTable_10 : decode cX11_changesByTable 10 = .ok (.iload_n 1, 1) := by decide +kernel
theorem dX11_changesByTable_11 : decode cX11_changesByTable 11 = .ok (.iload_n 2, 1) := by decide +kernel
theorem dX11_changesByTable_12 : decode cX11_changesByTable 12 = .ok (.invokevirtual 184, 3) := by decide +kernel
theorem dX11_changesByTable_15 : decode cX11_changesByTable 15 = .ok (.goto 4, 3) := by decide +kernel
theorem dX11_changesByTable_18 : decode cX11_changesByTable 18 = .ok (.iconst 0, 1) := by decide +kernel
theorem dX11_changesByTable_19 : decode cX11_changesByTable 19 = .ok (.ireturn, 1) := by decide +kernel
set_option maxRecDepth 20000 in
theorem ggX11_changesByPassages_X11_isTold : GoodIn wsX11_changesByPassages wsX11_isTold := goodIn_r _ [5, 6, 7, 8, 4, 9, 10, 11, 12, 13, 14, 15, 16, 17, 18, 19, 20, 21, 22, 23, 24, 25, 26, 64, 65, 66, 67, 68, 69, 70, 71, 72, 73, 74, 75, 76, 77, 78, 79, 80, 81, 82, 83, 84, 85, 86, 87] (by decide +kernel) (by decide +kernel)
set_option maxRecDepth 20000 in
theorem gX11_changesByPassages_X11_isTold : GoodIn wsX11_changesByPassages (wsV RX11 181 RX11 yX11_isTold wsX11_isTold) := goodIn_app (goodIn_of _ (by decide +kernel)) ggX11_changesByPassages_X11_isTold
set_option maxRecDepth 20000 in
theorem ggX11_changesByPassages_X11_changesOf : GoodIn wsX11_changesByPassages wsX11_changesOf := goodIn_r _ [30, 31, 32, 33, 34, 4, 35, 18, 19, 20, 21, 14, 36, 37, 38, 39, 40, 41, 42, 43, 44, 45, 46, 47, 48, 49, 50, 51, 52, 53, 54, 55, 56, 57, 58, 59, 60, 61, 62, 63, 64, 65, 66, 67, 68, 69, 70, 71, 72, 73, 74, 75, 76, 77, 78, 79, 80, 81, 82, 83, 84, 85, 86, 87] (by decide +kernel) (by decide +kernel)
set_option maxRecDepth 20000 in
theorem gX11_changesByPassages_X11_changesOf : GoodIn wsX11_changesByPassages (wsV RX11 187 RX11 yX11_changesOf wsX11_changesOf) := goodIn_app (goodIn_of _ (by decide +kernel)) ggX11_changesByPassages_X11_changesOf
theorem dX11_changesByPassages_0 : decode cX11_changesByPassages 0 = .ok (.aload_n 0, 1) := by decide +kernel
theorem dX11_changesByPassages_1 : decode cX11_changesByPassages 1 = .ok (.iload_n 1, 1) := by decide +kernel
theorem dX11_changesByPassages_2 : decode cX11_changesByPassages 2 = .ok (.iload_n 2, 1) := by decide +kernel
theorem dX11_changesByPassages_3 : decode cX11_changesByPassages 3 = .ok (.invokevirtual 181, 3) := by decide +kernel
theorem dX11_changesByPassages_6 : decode cX11_changesByPassages 6 = .ok (.ifCond .eq 12, 3) := by decide +kernel
theorem dX11_changesByPassages_9 : decode cX11_changesByPassages 9 = .ok (.aload_n 0, 1) := by decide +kernel
theorem dX11_changesByPassages_10 : decode cX11_changesByPassages 10 = .ok (.iload_n 1, 1) := by decide +kernel
theorem dX11_changesByPassages_11 : decode cX11_changesByPassages 11 = .ok (.iload_n 2, 1) := by decide +kernel
theorem dX11_changesByPassages_12 : decode cX11_changesByPassages 12 = .ok (.invokevirtual 187, 3) := by decide +kernel
theorem dX11_changesByPassages_15 : decode cX11_changesByPassages 15 = .ok (.goto 4, 3) := by decide +kernel
theorem dX11_changesByPassages_18 : decode cX11_changesByPassages 18 = .ok (.iconst 0, 1) := by decide +kernel
theorem dX11_changesByPassages_19 : decode cX11_changesByPassages 19 = .ok (.ireturn, 1) := by decide +kernel
set_option maxRecDepth 20000 in
theorem ggX11_passageOf_X11_isTold : GoodIn wsX11_passageOf wsX11_isTold := goodIn_r _ [6, 7, 8, 9, 5, 10, 11, 12, 13, 14, 15, 16, 17, 18, 19, 20, 21, 22, 23, 24, 25, 26, 27, 60, 61, 62, 63, 64, 65, 66, 67, 68, 69, 70, 71, 72, 73, 74, 75, 76, 77, 78, 79, 80, 81, 82, 83] (by decide +kernel) (by decide +kernel)
set_option maxRecDepth 20000 in
theorem gX11_passageOf_X11_isTold : GoodIn wsX11_passageOf (wsV RX11 181 RX11 yX11_isTold wsX11_isTold) := goodIn_app (goodIn_of _ (by decide +kernel)) ggX11_passageOf_X11_isTold
set_option maxRecDepth 20000 in
theorem ggX11_passageOf_X11_source : GoodIn wsX11_passageOf wsX11_source := goodIn_r _ [31, 19, 20, 21, 5, 22, 15, 60, 61, 62, 63, 64, 65, 66, 67, 68, 69, 70, 71, 72, 73, 74, 75, 76, 77, 78, 79, 80, 81, 82, 83] (by decide +kernel) (by decide +kernel)
set_option maxRecDepth 20000 in
theorem gX11_passageOf_X11_source : GoodIn wsX11_passageOf (wsV RX11 140 RX11 yX11_source wsX11_source) := goodIn_app (goodIn_of _ (by decide +kernel)) ggX11_passageOf_X11_source
set_option maxRecDepth 20000 in
theorem ggX11_passageOf_X11_find : GoodIn wsX11_passageOf wsX11_find := goodIn_r _ [35, 36, 37, 1, 38, 39, 40, 41, 5, 42, 19, 20, 21, 22, 15, 43, 44, 45, 46, 47, 48, 49, 50, 51, 52, 53, 54, 55, 56, 57, 58, 59, 60, 61, 62, 63, 64, 65, 66, 67, 68, 69, 70, 71, 72, 73, 74, 75, 76, 77, 78, 79, 80, 81, 82, 83] (by decide +kernel) (by decide +kernel)
set_option maxRecDepth 20000 in
theorem gX11_passageOf_X11_find : GoodIn wsX11_passageOf (wsV RX11 143 RX11 yX11_find wsX11_find) := goodIn_app (goodIn_of _ (by decide +kernel)) ggX11_passageOf_X11_find
theorem dX11_passageOf_0 : decode cX11_passageOf 0 = .ok (.aload_n 0, 1) := by decide +kernel
theorem dX11_passageOf_1 : decode cX11_passageOf 1 = .ok (.iload_n 1, 1) := by decide +kernel
theorem dX11_passageOf_2 : decode cX11_passageOf 2 = .ok (.iload_n 2, 1) := by decide +kernel
theorem dX11_passageOf_3 : decode cX11_passageOf 3 = .ok (.invokevirtual 181, 3) := by decide +kernel
theorem dX11_passageOf_6 : decode cX11_passageOf 6 = .ok (.ifCond .ne 5, 3) := by decide +kernel
theorem dX11_passageOf_9 : decode cX11_passageOf 9 = .ok (.iconst 0, 1) := by decide +kernel
theorem dX11_passageOf_10 : decode cX11_passageOf 10 = .ok (.ireturn, 1) := by decide +kernel
theorem dX11_passageOf_11 : decode cX11_passageOf 11 = .ok (.aload_n 0, 1) := by decide +kernel
theorem dX11_passageOf_12 : decode cX11_passageOf 12 = .ok (.iload_n 1, 1) := by decide +kernel
theorem dX11_passageOf_13 : decode cX11_passageOf 13 = .ok (.iload_n 2, 1) := by decide +kernel
theorem dX11_passageOf_14 : decode cX11_passageOf 14 = .ok (.aload_n 0, 1) := by decide +kernel
theorem dX11_passageOf_15 : decode cX11_passageOf 15 = .ok (.iload_n 1, 1) := by decide +kernel
theorem dX11_passageOf_16 : decode cX11_passageOf 16 = .ok (.iload_n 2, 1) := by decide +kernel
theorem dX11_passageOf_17 : decode cX11_passageOf 17 = .ok (.invokevirtual 140, 3) := by decide +kernel
theorem dX11_passageOf_20 : decode cX11_passageOf 20 = .ok (.invokevirtual 143, 3) := by decide +kernel
theorem dX11_passageOf_23 : decode cX11_passageOf 23 = .ok (.aload_n 0, 1) := by decide +kernel
theorem dX11_passageOf_24 : decode cX11_passageOf 24 = .ok (.getfield 134, 3) := by decide +kernel
theorem dX11_passageOf_27 : decode cX11_passageOf 27 = .ok (.ireturn, 1) := by decide +kernel
set_option maxRecDepth 20000 in
theorem ggX11_passageLength_X11_isTold : GoodIn wsX11_passageLength wsX11_isTold := goodIn_r _ [6, 7, 8, 9, 5, 10, 11, 12, 13, 14, 15, 16, 17, 18, 19, 20, 21, 22, 23, 24, 25, 26, 27, 60, 61, 62, 63, 64, 65, 66, 67, 68, 69, 70, 71, 72, 73, 74, 75, 76, 77, 78, 79, 80, 81, 82, 83] (by decide +kernel) (by decide +kernel)
set_option maxRecDepth 20000 in
theorem gX11_passageLength_X11_isTold : GoodIn wsX11_passageLength (wsV RX11 181 RX11 yX11_isTold wsX11_isTold) := goodIn_app (goodIn_of _ (by decide +kernel)) ggX11_passageLength_X11_isTold
set_option maxRecDepth 20000 in
theorem ggX11_passageLength_X11_source : GoodIn wsX11_passageLength wsX11_source := goodIn_r _ [31, 19, 20, 21, 5, 22, 15, 60, 61, 62, 63, 64, 65, 66, 67, 68, 69, 70, 71, 72, 73, 74, 75, 76, 77, 78, 79, 80, 81, 82, 83] (by decide +kernel) (by decide +kernel)
set_option maxRecDepth 20000 in
theorem gX11_passageLength_X11_source : GoodIn wsX11_passageLength (wsV RX11 140 RX11 yX11_source wsX11_source) := goodIn_app (goodIn_of _ (by decide +kernel)) ggX11_passageLength_X11_source
set_option maxRecDepth 20000 in
theorem ggX11_passageLength_X11_find : GoodIn wsX11_passageLength wsX11_find := goodIn_r _ [35, 36, 37, 38, 1, 39, 40, 41, 5, 42, 19, 20, 21, 22, 15, 43, 44, 45, 46, 47, 48, 49, 50, 51, 52, 53, 54, 55, 56, 57, 58, 59, 60, 61, 62, 63, 64, 65, 66, 67, 68, 69, 70, 71, 72, 73, 74, 75, 76, 77, 78, 79, 80, 81, 82, 83] (by decide +kernel) (by decide +kernel)
set_option maxRecDepth 20000 in
theorem gX11_passageLength_X11_find : GoodIn wsX11_passageLength (wsV RX11 143 RX11 yX11_find wsX11_find) := goodIn_app (goodIn_of _ (by decide +kernel)) ggX11_passageLength_X11_find
theorem dX11_passageLength_0 : decode cX11_passageLength 0 = .ok (.aload_n 0, 1) := by decide +kernel
theorem dX11_passageLength_1 : decode cX11_passageLength 1 = .ok (.iload_n 1, 1) := by decide +kernel
theorem dX11_passageLength_2 : decode cX11_passageLength 2 = .ok (.iload_n 2, 1) := by decide +kernel
theorem dX11_passageLength_3 : decode cX11_passageLength 3 = .ok (.invokevirtual 181, 3) := by decide +kernel
theorem dX11_passageLength_6 : decode cX11_passageLength 6 = .ok (.ifCond .ne 5, 3) := by decide +kernel
theorem dX11_passageLength_9 : decode cX11_passageLength 9 = .ok (.iconst 0, 1) := by decide +kernel
theorem dX11_passageLength_10 : decode cX11_passageLength 10 = .ok (.ireturn, 1) := by decide +kernel
theorem dX11_passageLength_11 : decode cX11_passageLength 11 = .ok (.aload_n 0, 1) := by decide +kernel
theorem dX11_passageLength_12 : decode cX11_passageLength 12 = .ok (.iload_n 1, 1) := by decide +kernel
theorem dX11_passageLength_13 : decode cX11_passageLength 13 = .ok (.iload_n 2, 1) := by decide +kernel
theorem dX11_passageLength_14 : decode cX11_passageLength 14 = .ok (.aload_n 0, 1) := by decide +kernel
theorem dX11_passageLength_15 : decode cX11_passageLength 15 = .ok (.iload_n 1, 1) := by decide +kernel
theorem dX11_passageLength_16 : decode cX11_passageLength 16 = .ok (.iload_n 2, 1) := by decide +kernel
theorem dX11_passageLength_17 : decode cX11_passageLength 17 = .ok (.invokevirtual 140, 3) := by decide +kernel
theorem dX11_passageLength_20 : decode cX11_passageLength 20 = .ok (.invokevirtual 143, 3) := by decide +kernel
theorem dX11_passageLength_23 : decode cX11_passageLength 23 = .ok (.aload_n 0, 1) := by decide +kernel
theorem dX11_passageLength_24 : decode cX11_passageLength 24 = .ok (.getfield 137, 3) := by decide +kernel
theorem dX11_passageLength_27 : decode cX11_passageLength 27 = .ok (.ireturn, 1) := by decide +kernel
set_option maxRecDepth 20000 in
theorem ggX11_pageOf_X11_isTold : GoodIn wsX11_pageOf wsX11_isTold := goodIn_r _ [6, 7, 8, 9, 5, 10, 11, 12, 13, 14, 15, 16, 17, 18, 19, 20, 21, 22, 23, 24, 25, 26, 27, 60, 61, 62, 63, 64, 65, 66, 67, 68, 69, 70, 71, 72, 73, 74, 75, 76, 77, 78, 79, 80, 81, 82, 83] (by decide +kernel) (by decide +kernel)
set_option maxRecDepth 20000 in
theorem gX11_pageOf_X11_isTold : GoodIn wsX11_pageOf (wsV RX11 181 RX11 yX11_isTold wsX11_isTold) := goodIn_app (goodIn_of _ (by decide +kernel)) ggX11_pageOf_X11_isTold
set_option maxRecDepth 20000 in
theorem ggX11_pageOf_X11_source : GoodIn wsX11_pageOf wsX11_source := goodIn_r _ [31, 19, 20, 21, 5, 22, 15, 60, 61, 62, 63, 64, 65, 66, 67, 68, 69, 70, 71, 72, 73, 74, 75, 76, 77, 78, 79, 80, 81, 82, 83] (by decide +kernel) (by decide +kernel)
set_option maxRecDepth 20000 in
theorem gX11_pageOf_X11_source : GoodIn wsX11_pageOf (wsV RX11 140 RX11 yX11_source wsX11_source) := goodIn_app (goodIn_of _ (by decide +kernel)) ggX11_pageOf_X11_source
set_option maxRecDepth 20000 in
theorem ggX11_pageOf_X11_find : GoodIn wsX11_pageOf wsX11_find := goodIn_r _ [35, 36, 37, 1, 38, 39, 40, 41, 5, 42, 19, 20, 21, 22, 15, 43, 44, 45, 46, 47, 48, 49, 50, 51, 52, 53, 54, 55, 56, 57, 58, 59, 60, 61, 62, 63, 64, 65, 66, 67, 68, 69, 70, 71, 72, 73, 74, 75, 76, 77, 78, 79, 80, 81, 82, 83] (by decide +kernel) (by decide +kernel)
set_option maxRecDepth 20000 in
theorem gX11_pageOf_X11_find : GoodIn wsX11_pageOf (wsV RX11 143 RX11 yX11_find wsX11_find) := goodIn_app (goodIn_of _ (by decide +kernel)) ggX11_pageOf_X11_find
theorem dX11_pageOf_0 : decode cX11_pageOf 0 = .ok (.aload_n 0, 1) := by decide +kernel
theorem dX11_pageOf_1 : decode cX11_pageOf 1 = .ok (.iload_n 1, 1) := by decide +kernel
theorem dX11_pageOf_2 : decode cX11_pageOf 2 = .ok (.iload_n 2, 1) := by decide +kernel
theorem dX11_pageOf_3 : decode cX11_pageOf 3 = .ok (.invokevirtual 181, 3) := by decide +kernel
theorem dX11_pageOf_6 : decode cX11_pageOf 6 = .ok (.ifCond .ne 5, 3) := by decide +kernel
theorem dX11_pageOf_9 : decode cX11_pageOf 9 = .ok (.iconst 0, 1) := by decide +kernel
theorem dX11_pageOf_10 : decode cX11_pageOf 10 = .ok (.ireturn, 1) := by decide +kernel
theorem dX11_pageOf_11 : decode cX11_pageOf 11 = .ok (.aload_n 0, 1) := by decide +kernel
theorem dX11_pageOf_12 : decode cX11_pageOf 12 = .ok (.iload_n 1, 1) := by decide +kernel
theorem dX11_pageOf_13 : decode cX11_pageOf 13 = .ok (.iload_n 2, 1) := by decide +kernel
theorem dX11_pageOf_14 : decode cX11_pageOf 14 = .ok (.aload_n 0, 1) := by decide +kernel
theorem dX11_pageOf_15 : decode cX11_pageOf 15 = .ok (.iload_n 1, 1) := by decide +kernel
theorem dX11_pageOf_16 : decode cX11_pageOf 16 = .ok (.iload_n 2, 1) := by decide +kernel
theorem dX11_pageOf_17 : decode cX11_pageOf 17 = .ok (.invokevirtual 140, 3) := by decide +kernel
theorem dX11_pageOf_20 : decode cX11_pageOf 20 = .ok (.invokevirtual 143, 3) := by decide +kernel
theorem dX11_pageOf_23 : decode cX11_pageOf 23 = .ok (.aload_n 0, 1) := by decide +kernel
theorem dX11_pageOf_24 : decode cX11_pageOf 24 = .ok (.getfield 134, 3) := by decide +kernel
theorem dX11_pageOf_27 : decode cX11_pageOf 27 = .ok (.bipush 8, 2) := by decide +kernel
theorem dX11_pageOf_29 : decode cX11_pageOf 29 = .ok (.idiv, 1) := by decide +kernel
theorem dX11_pageOf_30 : decode cX11_pageOf 30 = .ok (.ireturn, 1) := by decide +kernel
set_option maxRecDepth 20000 in
theorem ggX11_comesFrom_X11_isTold : GoodIn wsX11_comesFrom wsX11_isTold := goodIn_r _ [5, 6, 7, 8, 4, 9, 10, 11, 12, 13, 14, 15, 16, 17, 18, 19, 20, 21, 22, 23, 24, 25, 26, 64, 65, 66, 67, 68, 69, 70, 71, 72, 73, 74, 75, 76, 77, 78, 79, 80, 81, 82, 83, 84, 85, 86, 87] (by decide +kernel) (by decide +kernel)
set_option maxRecDepth 20000 in
theorem gX11_comesFrom_X11_isTold : GoodIn wsX11_comesFrom (wsV RX11 181 RX11 yX11_isTold wsX11_isTold) := goodIn_app (goodIn_of _ (by decide +kernel)) ggX11_comesFrom_X11_isTold
set_option maxRecDepth 20000 in
theorem ggX11_comesFrom_X11_from : GoodIn wsX11_comesFrom wsX11_from := goodIn_r _ [30, 31, 32, 33, 34, 35, 4, 36, 18, 19, 20, 21, 14, 37, 38, 39, 40, 41, 42, 43, 44, 45, 46, 47, 48, 49, 50, 51, 52, 53, 54, 55, 56, 57, 58, 59, 60, 61, 62, 63, 64, 65, 66, 67, 68, 69, 70, 71, 72, 73, 74, 75, 76, 77, 78, 79, 80, 81, 82, 83, 84, 85, 86, 87] (by decide +kernel) (by decide +kernel)
set_option maxRecDepth 20000 in
theorem gX11_comesFrom_X11_from : GoodIn wsX11_comesFrom (wsV RX11 147 RX11 yX11_from wsX11_from) := goodIn_app (goodIn_of _ (by decide +kernel)) ggX11_comesFrom_X11_from
theorem dX11_comesFrom_0 : decode cX11_comesFrom 0 = .ok (.aload_n 0, 1) := by decide +kernel
theorem dX11_comesFrom_1 : decode cX11_comesFrom 1 = .ok (.iload_n 1, 1) := by decide +kernel
theorem dX11_comesFrom_2 : decode cX11_comesFrom 2 = .ok (.iload_n 2, 1) := by decide +kernel
theorem dX11_comesFrom_3 : decode cX11_comesFrom 3 = .ok (.invokevirtual 181, 3) := by decide +kernel
theorem dX11_comesFrom_6 : decode cX11_comesFrom 6 = .ok (.ifCond .eq 12, 3) := by decide +kernel
theorem dX11_comesFrom_9 : decode cX11_comesFrom 9 = .ok (.aload_n 0, 1) := by decide +kernel
theorem dX11_comesFrom_10 : decode cX11_comesFrom 10 = .ok (.iload_n 1, 1) := by decide +kernel
theorem dX11_comesFrom_11 : decode cX11_comesFrom 11 = .ok (.iload_n 2, 1) := by decide +kernel
theorem dX11_comesFrom_12 : decode cX11_comesFrom 12 = .ok (.invokevirtual 147, 3) := by decide +kernel
theorem dX11_comesFrom_15 : decode cX11_comesFrom 15 = .ok (.goto 4, 3) := by decide +kernel
theorem dX11_comesFrom_18 : decode cX11_comesFrom 18 = .ok (.iconst 0, 1) := by decide +kernel
theorem dX11_comesFrom_19 : decode cX11_comesFrom 19 = .ok (.ireturn, 1) := by decide +kernel
set_option maxRecDepth 20000 in
theorem ggX11_originOf_X11_isTold : GoodIn wsX11_originOf wsX11_isTold := goodIn_r _ [6, 7, 8, 9, 5, 10, 11, 12, 13, 14, 15, 16, 17, 18, 19, 20, 21, 22, 23, 24, 25, 26, 27, 70, 71, 72, 73, 74, 75, 76, 77, 78, 79, 80, 81, 82, 83, 84, 85, 86, 87, 88, 89, 90, 91, 92, 93] (by decide +kernel) (by decide +kernel)
set_option maxRecDepth 20000 in
theorem gX11_originOf_X11_isTold : GoodIn wsX11_originOf (wsV RX11 181 RX11 yX11_isTold wsX11_isTold) := goodIn_app (goodIn_of _ (by decide +kernel)) ggX11_originOf_X11_isTold
set_option maxRecDepth 20000 in
theorem ggX11_originOf_X11_trace : GoodIn wsX11_originOf wsX11_trace := goodIn_r _ [31, 32, 1, 33, 34, 35, 5, 36, 37, 38, 39, 40, 41, 42, 19, 20, 21, 22, 15, 43, 44, 45, 46, 47, 48, 49, 50, 51, 52, 53, 54, 55, 56, 57, 58, 59, 60, 61, 62, 63, 64, 65, 66, 67, 68, 69, 70, 71, 72, 73, 74, 75, 76, 77, 78, 79, 80, 81, 82, 83, 84, 85, 86, 87, 88, 89, 90, 91, 92, 93] (by decide +kernel) (by decide +kernel)
set_option maxRecDepth 20000 in
theorem gX11_originOf_X11_trace : GoodIn wsX11_originOf (wsV RX11 190 RX11 yX11_trace wsX11_trace) := goodIn_app (goodIn_of _ (by decide +kernel)) ggX11_originOf_X11_trace
theorem dX11_originOf_0 : decode cX11_originOf 0 = .ok (.aload_n 0, 1) := by decide +kernel
theorem dX11_originOf_1 : decode cX11_originOf 1 = .ok (.iload_n 1, 1) := by decide +kernel
theorem dX11_originOf_2 : decode cX11_originOf 2 = .ok (.iload_n 2, 1) := by decide +kernel
theorem dX11_originOf_3 : decode cX11_originOf 3 = .ok (.invokevirtual 181, 3) := by decide +kernel
theorem dX11_originOf_6 : decode cX11_originOf 6 = .ok (.ifCond .ne 5, 3) := by decide +kernel
theorem dX11_originOf_9 : decode cX11_originOf 9 = .ok (.iconst 0, 1) := by decide +kernel
theorem dX11_originOf_10 : decode cX11_originOf 10 = .ok (.ireturn, 1) := by decide +kernel
theorem dX11_originOf_11 : decode cX11_originOf 11 = .ok (.aload_n 0, 1) := by decide +kernel
theorem dX11_originOf_12 : decode cX11_originOf 12 = .ok (.iload_n 1, 1) := by decide +kernel
theorem dX11_originOf_13 : decode cX11_originOf 13 = .ok (.iload_n 2, 1) := by decide +kernel
theorem dX11_originOf_14 : decode cX11_originOf 14 = .ok (.invokevirtual 190, 3) := by decide +kernel
theorem dX11_originOf_17 : decode cX11_originOf 17 = .ok (.aload_n 0, 1) := by decide +kernel
theorem dX11_originOf_18 : decode cX11_originOf 18 = .ok (.getfield 153, 3) := by decide +kernel
theorem dX11_originOf_21 : decode cX11_originOf 21 = .ok (.ireturn, 1) := by decide +kernel
set_option maxRecDepth 20000 in
theorem ggX11_traceOf_X11_isTold : GoodIn wsX11_traceOf wsX11_isTold := goodIn_r _ [6, 7, 8, 9, 5, 10, 11, 12, 13, 14, 15, 16, 17, 18, 19, 20, 21, 22, 23, 24, 25, 26, 27, 70, 71, 72, 73, 74, 75, 76, 77, 78, 79, 80, 81, 82, 83, 84, 85, 86, 87, 88, 89, 90, 91, 92, 93] (by decide +kernel) (by decide +kernel)
set_option maxRecDepth 20000 in
theorem gX11_traceOf_X11_isTold : GoodIn wsX11_traceOf (wsV RX11 181 RX11 yX11_isTold wsX11_isTold) := goodIn_app (goodIn_of _ (by decide +kernel)) ggX11_traceOf_X11_isTold
set_option maxRecDepth 20000 in
theorem ggX11_traceOf_X11_trace : GoodIn wsX11_traceOf wsX11_trace := goodIn_r _ [31, 1, 32, 33, 34, 35, 5, 36, 37, 38, 39, 40, 41, 42, 19, 20, 21, 22, 15, 43, 44, 45, 46, 47, 48, 49, 50, 51, 52, 53, 54, 55, 56, 57, 58, 59, 60, 61, 62, 63, 64, 65, 66, 67, 68, 69, 70, 71, 72, 73, 74, 75, 76, 77, 78, 79, 80, 81, 82, 83, 84, 85, 86, 87, 88, 89, 90, 91, 92, 93] (by decide +kernel) (by decide +kernel)
set_option maxRecDepth 20000 in
theorem gX11_traceOf_X11_trace : GoodIn wsX11_traceOf (wsV RX11 190 RX11 yX11_trace wsX11_trace) := goodIn_app (goodIn_of _ (by decide +kernel)) ggX11_traceOf_X11_trace
theorem dX11_traceOf_0 : decode cX11_traceOf 0 = .ok (.aload_n 0, 1) := by decide +kernel
theorem dX11_traceOf_1 : decode cX11_traceOf 1 = .ok (.iload_n 1, 1) := by decide +kernel
theorem dX11_traceOf_2 : decode cX11_traceOf 2 = .ok (.iload_n 2, 1) := by decide +kernel
theorem dX11_traceOf_3 : decode cX11_traceOf 3 = .ok (.invokevirtual 181, 3) := by decide +kernel
theorem dX11_traceOf_6 : decode cX11_traceOf 6 = .ok (.ifCond .ne 5, 3) := by decide +kernel
theorem dX11_traceOf_9 : decode cX11_traceOf 9 = .ok (.iconst 0, 1) := by decide +kernel
theorem dX11_traceOf_10 : decode cX11_traceOf 10 = .ok (.ireturn, 1) := by decide +kernel
theorem dX11_traceOf_11 : decode cX11_traceOf 11 = .ok (.aload_n 0, 1) := by decide +kernel
theorem dX11_traceOf_12 : decode cX11_traceOf 12 = .ok (.iload_n 1, 1) := by decide +kernel
theorem dX11_traceOf_13 : decode cX11_traceOf 13 = .ok (.iload_n 2, 1) := by decide +kernel
theorem dX11_traceOf_14 : decode cX11_traceOf 14 = .ok (.invokevirtual 190, 3) := by decide +kernel
theorem dX11_traceOf_17 : decode cX11_traceOf 17 = .ok (.aload_n 0, 1) := by decide +kernel
theorem dX11_traceOf_18 : decode cX11_traceOf 18 = .ok (.getfield 150, 3) := by decide +kernel
theorem dX11_traceOf_21 : decode cX11_traceOf 21 = .ok (.ireturn, 1) := by decide +kernel
set_option maxRecDepth 20000 in
theorem ggX11_changesAtOrigin_X11_isTold : GoodIn wsX11_changesAtOrigin wsX11_isTold := goodIn_r _ [7, 8, 9, 10, 6, 11, 12, 13, 14, 15, 16, 17, 18, 19, 20, 21, 22, 23, 24, 25, 26, 27, 28, 70, 71, 72, 73, 74, 75, 76, 77, 78, 79, 80, 81, 82, 83, 84, 85, 86, 87, 88, 89, 90, 91, 92, 93] (by decide +kernel) (by decide +kernel)
set_option maxRecDepth 20000 in
theorem gX11_changesAtOrigin_X11_isTold : GoodIn wsX11_changesAtOrigin (wsV RX11 181 RX11 yX11_isTold wsX11_isTold) := goodIn_app (goodIn_of _ (by decide +kernel)) ggX11_changesAtOrigin_X11_isTold
set_option maxRecDepth 20000 in
theorem ggX11_changesAtOrigin_X11_trace : GoodIn wsX11_changesAtOrigin wsX11_trace := goodIn_r _ [32, 33, 1, 34, 35, 36, 6, 37, 38, 39, 40, 41, 42, 43, 20, 21, 22, 23, 16, 44, 45, 46, 47, 2, 48, 49, 50, 51, 52, 53, 54, 55, 56, 57, 58, 59, 60, 61, 62, 63, 64, 65, 66, 67, 68, 69, 70, 71, 72, 73, 74, 75, 76, 77, 78, 79, 80, 81, 82, 83, 84, 85, 86, 87, 88, 89, 90, 91, 92, 93] (by decide +kernel) (by decide +kernel)
set_option maxRecDepth 20000 in
theorem gX11_changesAtOrigin_X11_trace : GoodIn wsX11_changesAtOrigin (wsV RX11 190 RX11 yX11_trace wsX11_trace) := goodIn_app (goodIn_of _ (by decide +kernel)) ggX11_changesAtOrigin_X11_trace
set_option maxRecDepth 20000 in
theorem ggX11_changesAtOrigin_X11_find : GoodIn wsX11_changesAtOrigin wsX11_find := goodIn_r _ [47, 2, 48, 38, 39, 49, 50, 51, 6, 52, 20, 21, 22, 23, 16, 53, 54, 55, 56, 57, 58, 59, 60, 61, 62, 63, 64, 65, 66, 67, 68, 69, 70, 71, 72, 73, 74, 75, 76, 77, 78, 79, 80, 81, 82, 83, 84, 85, 86, 87, 88, 89, 90, 91, 92, 93] (by decide +kernel) (by decide +kernel)
set_option maxRecDepth 20000 in
theorem gX11_changesAtOrigin_X11_find : GoodIn wsX11_changesAtOrigin (wsV RX11 143 RX11 yX11_find wsX11_find) := goodIn_app (goodIn_of _ (by decide +kernel)) ggX11_changesAtOrigin_X11_find
theorem dX11_changesAtOrigin_0 : decode cX11_changesAtOrigin 0 = .ok (.aload_n 0, 1) := by decide +kernel
theorem dX11_changesAtOrigin_1 : decode cX11_changesAtOrigin 1 = .ok (.iload_n 1, 1) := by decide +kernel
theorem dX11_changesAtOrigin_2 : decode cX11_changesAtOrigin 2 = .ok (.iload_n 2, 1) := by decide +kernel
theorem dX11_changesAtOrigin_3 : decode cX11_changesAtOrigin 3 = .ok (.invokevirtual 181, 3) := by decide +kernel
theorem dX11_changesAtOrigin_6 : decode cX11_changesAtOrigin 6 = .ok (.ifCond .ne 5, 3) := by decide +kernel
theorem dX11_changesAtOrigin_9 : decode cX11_changesAtOrigin 9 = .ok (.iconst 0, 1) := by decide +kernel
theorem dX11_changesAtOrigin_10 : decode cX11_changesAtOrigin 10 = .ok (.ireturn, 1) := by decide +kernel
theorem dX11_changesAtOrigin_11 : decode cX11_changesAtOrigin 11 = .ok (.aload_n 0, 1) := by decide +kernel
theorem dX11_changesAtOrigin_12 : decode cX11_changesAtOrigin 12 = .ok (.iload_n 1, 1) := by decide +kernel
theorem dX11_changesAtOrigin_13 : decode cX11_changesAtOrigin 13 = .ok (.iload_n 2, 1) := by decide +kernel
theorem dX11_changesAtOrigin_14 : decode cX11_changesAtOrigin 14 = .ok (.invokevirtual 190, 3) := by decide +kernel
theorem dX11_changesAtOrigin_17 : decode cX11_changesAtOrigin 17 = .ok (.aload_n 0, 1) := by decide +kernel
theorem dX11_changesAtOrigin_18 : decode cX11_changesAtOrigin 18 = .ok (.iload_n 1, 1) := by decide +kernel
theorem dX11_changesAtOrigin_19 : decode cX11_changesAtOrigin 19 = .ok (.iload_n 2, 1) := by decide +kernel
theorem dX11_changesAtOrigin_20 : decode cX11_changesAtOrigin 20 = .ok (.aload_n 0, 1) := by decide +kernel
theorem dX11_changesAtOrigin_21 : decode cX11_changesAtOrigin 21 = .ok (.getfield 153, 3) := by decide +kernel
theorem dX11_changesAtOrigin_24 : decode cX11_changesAtOrigin 24 = .ok (.invokevirtual 143, 3) := by decide +kernel
theorem dX11_changesAtOrigin_27 : decode cX11_changesAtOrigin 27 = .ok (.aload_n 0, 1) := by decide +kernel
theorem dX11_changesAtOrigin_28 : decode cX11_changesAtOrigin 28 = .ok (.getfield 124, 3) := by decide +kernel
theorem dX11_changesAtOrigin_31 : decode cX11_changesAtOrigin 31 = .ok (.ireturn, 1) := by decide +kernel
set_option maxRecDepth 20000 in
theorem ggX11_quotedAgain_X11_isTold : GoodIn wsX11_quotedAgain wsX11_isTold := goodIn_r _ [6, 7, 8, 9, 5, 10, 11, 12, 13, 14, 1, 15, 16, 17, 18, 19, 20, 21, 22, 23, 24, 25, 26, 64, 65, 66, 67, 68, 69, 70, 71, 72, 73, 74, 75, 76, 77, 78, 79, 80, 81, 82, 83, 84, 85, 86, 87] (by decide +kernel) (by decide +kernel)
set_option maxRecDepth 20000 in
theorem gX11_quotedAgain_X11_isTold : GoodIn wsX11_quotedAgain (wsV RX11 181 RX11 yX11_isTold wsX11_isTold) := goodIn_app (goodIn_of _ (by decide +kernel)) ggX11_quotedAgain_X11_isTold
set_option maxRecDepth 20000 in
theorem ggX11_quotedAgain_X11_get : GoodIn wsX11_quotedAgain wsX11_get := goodIn_r _ [21, 1, 64, 65, 66, 67, 68, 69, 70, 71, 72, 73, 74, 75, 76, 77, 78, 79, 80, 81, 82, 83, 84, 85, 86, 87] (by decide +kernel) (by decide +kernel)
set_option maxRecDepth 20000 in
theorem gX11_quotedAgain_X11_get : GoodIn wsX11_quotedAgain (wsV RX11 53 RX11 yX11_get wsX11_get) := goodIn_app (goodIn_of _ (by decide +kernel)) ggX11_quotedAgain_X11_get
set_option maxRecDepth 20000 in
theorem ggX11_quotedAgain_X11_source : GoodIn wsX11_quotedAgain wsX11_source := goodIn_r _ [30, 18, 19, 20, 5, 21, 1, 64, 65, 66, 67, 68, 69, 70, 71, 72, 73, 74, 75, 76, 77, 78, 79, 80, 81, 82, 83, 84, 85, 86, 87] (by decide +kernel) (by decide +kernel)
set_option maxRecDepth 20000 in
theorem gX11_quotedAgain_X11_source : GoodIn wsX11_quotedAgain (wsV RX11 140 RX11 yX11_source wsX11_source) := goodIn_app (goodIn_of _ (by decide +kernel)) ggX11_quotedAgain_X11_source
set_option maxRecDepth 20000 in
theorem ggX11_quotedAgain_X11_from : GoodIn wsX11_quotedAgain wsX11_from := goodIn_r _ [34, 35, 36, 27, 28, 29, 5, 30, 18, 19, 20, 21, 1, 37, 38, 39, 40, 41, 42, 43, 44, 45, 46, 47, 48, 49, 50, 51, 52, 53, 54, 55, 56, 57, 58, 59, 60, 61, 62, 63, 64, 65, 66, 67, 68, 69, 70, 71, 72, 73, 74, 75, 76, 77, 78, 79, 80, 81, 82, 83, 84, 85, 86, 87] (by decide +kernel) (by decide +kernel)
set_option maxRecDepth 20000 in
theorem gX11_quotedAgain_X11_from : GoodIn wsX11_quotedAgain (wsV RX11 147 RX11 yX11_from wsX11_from) := goodIn_app (goodIn_of _ (by decide +kernel)) ggX11_quotedAgain_X11_from
theorem dX11_quotedAgain_0 : decode cX11_quotedAgain 0 = .ok (.aload_n 0, 1) := by decide +kernel
theorem dX11_quotedAgain_1 : decode cX11_quotedAgain 1 = .ok (.iload_n 1, 1) := by decide +kernel
theorem dX11_quotedAgain_2 : decode cX11_quotedAgain 2 = .ok (.iload_n 2, 1) := by decide +kernel
theorem dX11_quotedAgain_3 : decode cX11_quotedAgain 3 = .ok (.invokevirtual 181, 3) := by decide +kernel
theorem dX11_quotedAgain_6 : decode cX11_quotedAgain 6 = .ok (.ifCond .ne 5, 3) := by decide +kernel
theorem dX11_quotedAgain_9 : decode cX11_quotedAgain 9 = .ok (.iconst 0, 1) := by decide +kernel
theorem dX11_quotedAgain_10 : decode cX11_quotedAgain 10 = .ok (.ireturn, 1) := by decide +kernel
theorem dX11_quotedAgain_11 : decode cX11_quotedAgain 11 = .ok (.iconst 0, 1) := by decide +kernel
theorem dX11_quotedAgain_12 : decode cX11_quotedAgain 12 = .ok (.istore_n 3, 1) := by decide +kernel
theorem dX11_quotedAgain_13 : decode cX11_quotedAgain 13 = .ok (.iconst 0, 1) := by decide +kernel
theorem dX11_quotedAgain_14 : decode cX11_quotedAgain 14 = .ok (.istore 4, 2) := by decide +kernel
theorem dX11_quotedAgain_16 : decode cX11_quotedAgain 16 = .ok (.iload 4, 2) := by decide +kernel
theorem dX11_quotedAgain_18 : decode cX11_quotedAgain 18 = .ok (.aload_n 0, 1) := by decide +kernel
theorem dX11_quotedAgain_19 : decode cX11_quotedAgain 19 = .ok (.getfield 7, 3) := by decide +kernel
theorem dX11_quotedAgain_22 : decode cX11_quotedAgain 22 = .ok (.iconst 1, 1) := by decide +kernel
theorem dX11_quotedAgain_23 : decode cX11_quotedAgain 23 = .ok (.iaload, 1) := by decide +kernel
theorem dX11_quotedAgain_24 : decode cX11_quotedAgain 24 = .ok (.if_icmp .ge 62, 3) := by decide +kernel
theorem dX11_quotedAgain_27 : decode cX11_quotedAgain 27 = .ok (.iconst 0, 1) := by decide +kernel
theorem dX11_quotedAgain_28 : decode cX11_quotedAgain 28 = .ok (.istore 5, 2) := by decide +kernel
theorem dX11_quotedAgain_30 : decode cX11_quotedAgain 30 = .ok (.iload 5, 2) := by decide +kernel
theorem dX11_quotedAgain_32 : decode cX11_quotedAgain 32 = .ok (.aload_n 0, 1) := by decide +kernel
theorem dX11_quotedAgain_33 : decode cX11_quotedAgain 33 = .ok (.iload 4, 2) := by decide +kernel
theorem dX11_quotedAgain_35 : decode cX11_quotedAgain 35 = .ok (.iconst 5, 1) := by decide +kernel
theorem dX11_quotedAgain_36 : decode cX11_quotedAgain 36 = .ok (.invokevirtual 53, 3) := by decide +kernel
theorem dX11_quotedAgain_39 : decode cX11_quotedAgain 39 = .ok (.if_icmp .ge 41, 3) := by decide +kernel
theorem dX11_quotedAgain_42 : decode cX11_quotedAgain 42 = .ok (.iload_n 3, 1) := by decide +kernel
theorem dX11_quotedAgain_43 : decode cX11_quotedAgain 43 = .ok (.aload_n 0, 1) := by decide +kernel
theorem dX11_quotedAgain_44 : decode cX11_quotedAgain 44 = .ok (.iload 4, 2) := by decide +kernel
theorem dX11_quotedAgain_46 : decode cX11_quotedAgain 46 = .ok (.iload 5, 2) := by decide +kernel
theorem dX11_quotedAgain_48 : decode cX11_quotedAgain 48 = .ok (.invokevirtual 140, 3) := by decide +kernel
theorem dX11_quotedAgain_51 : decode cX11_quotedAgain 51 = .ok (.iload_n 1, 1) := by decide +kernel
theorem dX11_quotedAgain_52 : decode cX11_quotedAgain 52 = .ok (.if_icmp .ne 19, 3) := by decide +kernel
theorem dX11_quotedAgain_55 : decode cX11_quotedAgain 55 = .ok (.aload_n 0, 1) := by decide +kernel
theorem dX11_quotedAgain_56 : decode cX11_quotedAgain 56 = .ok (.iload 4, 2) := by decide +kernel
theorem dX11_quotedAgain_58 : decode cX11_quotedAgain 58 = .ok (.iload 5, 2) := by decide +kernel
theorem dX11_quotedAgain_60 : decode cX11_quotedAgain 60 = .ok (.invokevirtual 147, 3) := by decide +kernel
theorem dX11_quotedAgain_63 : decode cX11_quotedAgain 63 = .ok (.iload_n 2, 1) := by decide +kernel
theorem dX11_quotedAgain_64 : decode cX11_quotedAgain 64 = .ok (.if_icmp .ne 7, 3) := by decide +kernel
theorem dX11_quotedAgain_67 : decode cX11_quotedAgain 67 = .ok (.iconst 1, 1) := by decide +kernel
theorem dX11_quotedAgain_68 : decode cX11_quotedAgain 68 = .ok (.goto 4, 3) := by decide +kernel
theorem dX11_quotedAgain_71 : decode cX11_quotedAgain 71 = .ok (.iconst 0, 1) := by decide +kernel
theorem dX11_quotedAgain_72 : decode cX11_quotedAgain 72 = .ok (.iadd, 1) := by decide +kernel
theorem dX11_quotedAgain_73 : decode cX11_quotedAgain 73 = .ok (.istore_n 3, 1) := by decide +kernel
theorem dX11_quotedAgain_74 : decode cX11_quotedAgain 74 = .ok (.iinc 5 1, 3) := by decide +kernel
theorem dX11_quotedAgain_77 : decode cX11_quotedAgain 77 = .ok (.goto (-47), 3) := by decide +kernel
theorem dX11_quotedAgain_80 : decode cX11_quotedAgain 80 = .ok (.iinc 4 1, 3) := by decide +kernel
theorem dX11_quotedAgain_83 : decode cX11_quotedAgain 83 = .ok (.goto (-67), 3) := by decide +kernel
theorem dX11_quotedAgain_86 : decode cX11_quotedAgain 86 = .ok (.iload_n 3, 1) := by decide +kernel
theorem dX11_quotedAgain_87 : decode cX11_quotedAgain 87 = .ok (.ireturn, 1) := by decide +kernel
set_option maxRecDepth 20000 in
theorem ggX11_blame_X11_get : GoodIn wsX11_blame wsX11_get := goodIn_r _ [6, 1, 44, 45, 46, 47, 48, 49, 50, 51, 52, 53, 54, 55, 56, 57, 58, 59, 60, 61, 62, 63, 64, 65, 66, 67] (by decide +kernel) (by decide +kernel)
set_option maxRecDepth 20000 in
theorem gX11_blame_X11_get : GoodIn wsX11_blame (wsV RX11 53 RX11 yX11_get wsX11_get) := goodIn_app (goodIn_of _ (by decide +kernel)) ggX11_blame_X11_get
set_option maxRecDepth 20000 in
theorem ggX11_blame_X11_source : GoodIn wsX11_blame wsX11_source := goodIn_r _ [10, 2, 3, 4, 5, 6, 1, 44, 45, 46, 47, 48, 49, 50, 51, 52, 53, 54, 55, 56, 57, 58, 59, 60, 61, 62, 63, 64, 65, 66, 67] (by decide +kernel) (by decide +kernel)
set_option maxRecDepth 20000 in
theorem gX11_blame_X11_source : GoodIn wsX11_blame (wsV RX11 140 RX11 yX11_source wsX11_source) := goodIn_app (goodIn_of _ (by decide +kernel)) ggX11_blame_X11_source
set_option maxRecDepth 20000 in
theorem ggX11_blame_X11_changesOf : GoodIn wsX11_blame wsX11_changesOf := goodIn_r _ [14, 15, 7, 8, 9, 5, 10, 2, 3, 4, 6, 1, 16, 17, 18, 19, 20, 21, 22, 23, 24, 25, 26, 27, 28, 29, 30, 31, 32, 33, 34, 35, 36, 37, 38, 39, 40, 41, 42, 43, 44, 45, 46, 47, 48, 49, 50, 51, 52, 53, 54, 55, 56, 57, 58, 59, 60, 61, 62, 63, 64, 65, 66, 67] (by decide +kernel) (by decide +kernel)
set_option maxRecDepth 20000 in
theorem gX11_blame_X11_changesOf : GoodIn wsX11_blame (wsV RX11 187 RX11 yX11_changesOf wsX11_changesOf) := goodIn_app (goodIn_of _ (by decide +kernel)) ggX11_blame_X11_changesOf
theorem dX11_blame_0 : decode cX11_blame 0 = .ok (.iconst 0, 1) := by decide +kernel
theorem dX11_blame_1 : decode cX11_blame 1 = .ok (.istore_n 3, 1) := by decide +kernel
theorem dX11_blame_2 : decode cX11_blame 2 = .ok (.iconst 0, 1) := by decide +kernel
theorem dX11_blame_3 : decode cX11_blame 3 = .ok (.istore 4, 2) := by decide +kernel
theorem dX11_blame_5 : decode cX11_blame 5 = .ok (.iload 4, 2) := by decide +kernel
theorem dX11_blame_7 : decode cX11_blame 7 = .ok (.aload_n 0, 1) := by decide +kernel
theorem dX11_blame_8 : decode cX11_blame 8 = .ok (.getfield 7, 3) := by decide +kernel
theorem dX11_blame_11 : decode cX11_blame 11 = .ok (.iconst 1, 1) := by decide +kernel
theorem dX11_blame_12 : decode cX11_blame 12 = .ok (.iaload, 1) := by decide +kernel
theorem dX11_blame_13 : decode cX11_blame 13 = .ok (.if_icmp .ge 107, 3) := by decide +kernel
theorem dX11_blame_16 : decode cX11_blame 16 = .ok (.iconst 0, 1) := by decide +kernel
theorem dX11_blame_17 : decode cX11_blame 17 = .ok (.istore 5, 2) := by decide +kernel
theorem dX11_blame_19 : decode cX11_blame 19 = .ok (.iload 5, 2) := by decide +kernel
theorem dX11_blame_21 : decode cX11_blame 21 = .ok (.aload_n 0, 1) := by decide +kernel
theorem dX11_blame_22 : decode cX11_blame 22 = .ok (.iload 4, 2) := by decide +kernel
theorem dX11_blame_24 : decode cX11_blame 24 = .ok (.iconst 5, 1) := by decide +kernel
theorem dX11_blame_25 : decode cX11_blame 25 = .ok (.invokevirtual 53, 3) := by decide +kernel
theorem dX11_blame_28 : decode cX11_blame 28 = .ok (.if_icmp .ge 86, 3) := by decide +kernel
theorem dX11_blame_31 : decode cX11_blame 31 = .ok (.iload_n 1, 1) := by decide +kernel
theorem dX11_blame_32 : decode cX11_blame 32 = .ok (.iconst (-1), 1) := by decide +kernel
theorem dX11_blame_33 : decode cX11_blame 33 = .ok (.if_icmp .eq 14, 3) := by decide +kernel
theorem dX11_blame_36 : decode cX11_blame 36 = .ok (.aload_n 0, 1) := by decide +kernel
theorem dX11_blame_37 : decode cX11_blame 37 = .ok (.iload 4, 2) := by decide +kernel
theorem dX11_blame_39 : decode cX11_blame 39 = .ok (.iconst 2, 1) := by decide +kernel
theorem dX11_blame_40 : decode cX11_blame 40 = .ok (.invokevirtual 53, 3) := by decide +kernel
theorem dX11_blame_43 : decode cX11_blame 43 = .ok (.iload_n 1, 1) := by decide +kernel
theorem dX11_blame_44 : decode cX11_blame 44 = .ok (.if_icmp .ne 7, 3) := by decide +kernel
theorem dX11_blame_47 : decode cX11_blame 47 = .ok (.iconst 1, 1) := by decide +kernel
theorem dX11_blame_48 : decode cX11_blame 48 = .ok (.goto 4, 3) := by decide +kernel
theorem dX11_blame_51 : decode cX11_blame 51 = .ok (.iconst 0, 1) := by decide +kernel
theorem dX11_blame_52 : decode cX11_blame 52 = .ok (.istore 6, 2) := by decide +kernel
theorem dX11_blame_54 : decode cX11_blame 54 = .ok (.iload 6, 2) := by decide +kernel
theorem dX11_blame_56 : decode cX11_blame 56 = .ok (.ifCond .eq 29, 3) := by decide +kernel
theorem dX11_blame_59 : decode cX11_blame 59 = .ok (.iload_n 2, 1) := by decide +kernel
theorem dX11_blame_60 : decode cX11_blame 60 = .ok (.iconst (-1), 1) := by decide +kernel
theorem dX11_blame_61 : decode cX11_blame 61 = .ok (.if_icmp .eq 20, 3) := by decide +kernel
theorem dX11_blame_64 : decode cX11_blame 64 = .ok (.aload_n 0, 1) := by decide +kernel
theorem dX11_blame_65 : decode cX11_blame 65 = .ok (.aload_n 0, 1) := by decide +kernel
theorem dX11_blame_66 : decode cX11_blame 66 = .ok (.iload 4, 2) := by decide +kernel
theorem dX11_blame_68 : decode cX11_blame 68 = .ok (.iload 5, 2) := by decide +kernel
theorem dX11_blame_70 : decode cX11_blame 70 = .ok (.invokevirtual 140, 3) := by decide +kernel
theorem dX11_blame_73 : decode cX11_blame 73 = .ok (.iconst 2, 1) := by decide +kernel
theorem dX11_blame_74 : decode cX11_blame 74 = .ok (.invokevirtual 53, 3) := by decide +kernel
theorem dX11_blame_77 : decode cX11_blame 77 = .ok (.iload_n 2, 1) := by decide +kernel
theorem dX11_blame_78 : decode cX11_blame 78 = .ok (.if_icmp .ne 7, 3) := by decide +kernel
theorem dX11_blame_81 : decode cX11_blame 81 = .ok (.iconst 1, 1) := by decide +kernel
theorem dX11_blame_82 : decode cX11_blame 82 = .ok (.goto 4, 3) := by decide +kernel
theorem dX11_blame_85 : decode cX11_blame 85 = .ok (.iconst 0, 1) := by decide +kernel
theorem dX11_blame_86 : decode cX11_blame 86 = .ok (.istore 6, 2) := by decide +kernel
theorem dX11_blame_88 : decode cX11_blame 88 = .ok (.iload_n 3, 1) := by decide +kernel
theorem dX11_blame_89 : decode cX11_blame 89 = .ok (.iload 6, 2) := by decide +kernel
theorem dX11_blame_91 : decode cX11_blame 91 = .ok (.ifCond .eq 14, 3) := by decide +kernel
theorem dX11_blame_94 : decode cX11_blame 94 = .ok (.aload_n 0, 1) := by decide +kernel
theorem dX11_blame_95 : decode cX11_blame 95 = .ok (.iload 4, 2) := by decide +kernel
theorem dX11_blame_97 : decode cX11_blame 97 = .ok (.iload 5, 2) := by decide +kernel
theorem dX11_blame_99 : decode cX11_blame 99 = .ok (.invokevirtual 187, 3) := by decide +kernel
theorem dX11_blame_102 : decode cX11_blame 102 = .ok (.goto 4, 3) := by decide +kernel
theorem dX11_blame_105 : decode cX11_blame 105 = .ok (.iconst 0, 1) := by decide +kernel
theorem dX11_blame_106 : decode cX11_blame 106 = .ok (.iadd, 1) := by decide +kernel
theorem dX11_blame_107 : decode cX11_blame 107 = .ok (.istore_n 3, 1) := by decide +kernel
theorem dX11_blame_108 : decode cX11_blame 108 = .ok (.iinc 5 1, 3) := by decide +kernel
theorem dX11_blame_111 : decode cX11_blame 111 = .ok (.goto (-92), 3) := by decide +kernel
theorem dX11_blame_114 : decode cX11_blame 114 = .ok (.iinc 4 1, 3) := by decide +kernel
theorem dX11_blame_117 : decode cX11_blame 117 = .ok (.goto (-112), 3) := by decide +kernel
theorem dX11_blame_120 : decode cX11_blame 120 = .ok (.iload_n 3, 1) := by decide +kernel
theorem dX11_blame_121 : decode cX11_blame 121 = .ok (.ireturn, 1) := by decide +kernel
set_option maxRecDepth 20000 in
theorem ggX11_blameOf_X11_isAuthor : GoodIn wsX11_blameOf wsX11_isAuthor := goodIn_r _ [4, 5, 6, 3, 7] (by decide +kernel) (by decide +kernel)
set_option maxRecDepth 20000 in
theorem gX11_blameOf_X11_isAuthor : GoodIn wsX11_blameOf (va_wsS RX11 156 yX11_isAuthor wsX11_isAuthor) := goodIn_app (goodIn_of _ (by decide +kernel)) ggX11_blameOf_X11_isAuthor
set_option maxRecDepth 20000 in
theorem ggX11_blameOf_X11_holds : GoodIn wsX11_blameOf wsX11_holds := goodIn_r _ [11, 12, 59, 60, 61, 62, 63, 64, 65, 66, 67, 68, 69, 70, 71, 72, 73, 74, 75, 76, 77, 78, 79, 80, 81, 82] (by decide +kernel) (by decide +kernel)
set_option maxRecDepth 20000 in
theorem gX11_blameOf_X11_holds : GoodIn wsX11_blameOf (wsV RX11 112 RX11 yX11_holds wsX11_holds) := goodIn_app (goodIn_of _ (by decide +kernel)) ggX11_blameOf_X11_holds
set_option maxRecDepth 20000 in
theorem ggX11_blameOf_X11_blame : GoodIn wsX11_blameOf wsX11_blame := goodIn_r _ [16, 17, 18, 19, 20, 3, 21, 22, 23, 24, 25, 26, 27, 28, 29, 30, 31, 32, 33, 34, 35, 36, 37, 38, 39, 40, 41, 42, 43, 44, 45, 46, 47, 48, 49, 50, 51, 52, 53, 54, 55, 56, 57, 58, 59, 60, 61, 62, 63, 64, 65, 66, 67, 68, 69, 70, 71, 72, 73, 74, 75, 76, 77, 78, 79, 80, 81, 82] (by decide +kernel) (by decide +kernel)
set_option maxRecDepth 20000 in
theorem gX11_blameOf_X11_blame : GoodIn wsX11_blameOf (wsV RX11 194 RX11 yX11_blame wsX11_blame) := goodIn_app (goodIn_of _ (by decide +kernel)) ggX11_blameOf_X11_blame
theorem dX11_blameOf_0 : decode cX11_blameOf 0 = .ok (.aload_n 0, 1) := by decide +kernel
theorem dX11_blameOf_1 : decode cX11_blameOf 1 = .ok (.iload_n 1, 1) := by decide +kernel
theorem dX11_blameOf_2 : decode cX11_blameOf 2 = .ok (.invokestatic 156, 3) := by decide +kernel
theorem dX11_blameOf_5 : decode cX11_blameOf 5 = .ok (.ifCond .eq 7, 3) := by decide +kernel
theorem dX11_blameOf_8 : decode cX11_blameOf 8 = .ok (.iconst 0, 1) := by decide +kernel
theorem dX11_blameOf_9 : decode cX11_blameOf 9 = .ok (.goto 4, 3) := by decide +kernel
theorem dX11_blameOf_12 : decode cX11_blameOf 12 = .ok (.iconst 1, 1) := by decide +kernel
theorem dX11_blameOf_13 : decode cX11_blameOf 13 = .ok (.invokevirtual 112, 3) := by decide +kernel
theorem dX11_blameOf_16 : decode cX11_blameOf 16 = .ok (.ifCond .eq 12, 3) := by decide +kernel
theorem dX11_blameOf_19 : decode cX11_blameOf 19 = .ok (.aload_n 0, 1) := by decide +kernel
theorem dX11_blameOf_20 : decode cX11_blameOf 20 = .ok (.iload_n 1, 1) := by decide +kernel
theorem dX11_blameOf_21 : decode cX11_blameOf 21 = .ok (.iconst (-1), 1) := by decide +kernel
theorem dX11_blameOf_22 : decode cX11_blameOf 22 = .ok (.invokevirtual 194, 3) := by decide +kernel
theorem dX11_blameOf_25 : decode cX11_blameOf 25 = .ok (.goto 4, 3) := by decide +kernel
theorem dX11_blameOf_28 : decode cX11_blameOf 28 = .ok (.iconst 0, 1) := by decide +kernel
theorem dX11_blameOf_29 : decode cX11_blameOf 29 = .ok (.ireturn, 1) := by decide +kernel
set_option maxRecDepth 20000 in
theorem ggX11_wrongs_X11_isAuthor : GoodIn wsX11_wrongs wsX11_isAuthor := goodIn_r _ [4, 5, 6, 3, 7] (by decide +kernel) (by decide +kernel)
set_option maxRecDepth 20000 in
theorem gX11_wrongs_X11_isAuthor : GoodIn wsX11_wrongs (va_wsS RX11 156 yX11_isAuthor wsX11_isAuthor) := goodIn_app (goodIn_of _ (by decide +kernel)) ggX11_wrongs_X11_isAuthor
set_option maxRecDepth 20000 in
theorem ggX11_wrongs_X11_holds : GoodIn wsX11_wrongs wsX11_holds := goodIn_r _ [11, 12, 59, 60, 61, 62, 63, 64, 65, 66, 67, 68, 69, 70, 71, 72, 73, 74, 75, 76, 77, 78, 79, 80, 81, 82] (by decide +kernel) (by decide +kernel)
set_option maxRecDepth 20000 in
theorem gX11_wrongs_X11_holds : GoodIn wsX11_wrongs (wsV RX11 112 RX11 yX11_holds wsX11_holds) := goodIn_app (goodIn_of _ (by decide +kernel)) ggX11_wrongs_X11_holds
set_option maxRecDepth 20000 in
theorem ggX11_wrongs_X11_blame : GoodIn wsX11_wrongs wsX11_blame := goodIn_r _ [16, 17, 18, 19, 20, 3, 21, 22, 23, 24, 25, 26, 27, 28, 29, 30, 31, 32, 33, 34, 35, 36, 37, 38, 39, 40, 41, 42, 43, 44, 45, 46, 47, 48, 49, 50, 51, 52, 53, 54, 55, 56, 57, 58, 59, 60, 61, 62, 63, 64, 65, 66, 67, 68, 69, 70, 71, 72, 73, 74, 75, 76, 77, 78, 79, 80, 81, 82] (by decide +kernel) (by decide +kernel)
set_option maxRecDepth 20000 in
theorem gX11_wrongs_X11_blame : GoodIn wsX11_wrongs (wsV RX11 194 RX11 yX11_blame wsX11_blame) := goodIn_app (goodIn_of _ (by decide +kernel)) ggX11_wrongs_X11_blame
theorem dX11_wrongs_0 : decode cX11_wrongs 0 = .ok (.aload_n 0, 1) := by decide +kernel
theorem dX11_wrongs_1 : decode cX11_wrongs 1 = .ok (.iload_n 1, 1) := by decide +kernel
theorem dX11_wrongs_2 : decode cX11_wrongs 2 = .ok (.invokestatic 156, 3) := by decide +kernel
theorem dX11_wrongs_5 : decode cX11_wrongs 5 = .ok (.ifCond .eq 14, 3) := by decide +kernel
theorem dX11_wrongs_8 : decode cX11_wrongs 8 = .ok (.iload_n 2, 1) := by decide +kernel
theorem dX11_wrongs_9 : decode cX11_wrongs 9 = .ok (.invokestatic 156, 3) := by decide +kernel
theorem dX11_wrongs_12 : decode cX11_wrongs 12 = .ok (.ifCond .eq 7, 3) := by decide +kernel
theorem dX11_wrongs_15 : decode cX11_wrongs 15 = .ok (.iconst 0, 1) := by decide +kernel
theorem dX11_wrongs_16 : decode cX11_wrongs 16 = .ok (.goto 4, 3) := by decide +kernel
theorem dX11_wrongs_19 : decode cX11_wrongs 19 = .ok (.iconst 1, 1) := by decide +kernel
theorem dX11_wrongs_20 : decode cX11_wrongs 20 = .ok (.invokevirtual 112, 3) := by decide +kernel
theorem dX11_wrongs_23 : decode cX11_wrongs 23 = .ok (.ifCond .eq 12, 3) := by decide +kernel
theorem dX11_wrongs_26 : decode cX11_wrongs 26 = .ok (.aload_n 0, 1) := by decide +kernel
theorem dX11_wrongs_27 : decode cX11_wrongs 27 = .ok (.iload_n 1, 1) := by decide +kernel
theorem dX11_wrongs_28 : decode cX11_wrongs 28 = .ok (.iload_n 2, 1) := by decide +kernel
theorem dX11_wrongs_29 : decode cX11_wrongs 29 = .ok (.invokevirtual 194, 3) := by decide +kernel
theorem dX11_wrongs_32 : decode cX11_wrongs 32 = .ok (.goto 4, 3) := by decide +kernel
theorem dX11_wrongs_35 : decode cX11_wrongs 35 = .ok (.iconst 0, 1) := by decide +kernel
theorem dX11_wrongs_36 : decode cX11_wrongs 36 = .ok (.ireturn, 1) := by decide +kernel
set_option maxRecDepth 20000 in
theorem ggX11_blameByAuthors_X11_blame : GoodIn wsX11_blameByAuthors wsX11_blame := goodIn_r _ [5, 6, 7, 8, 9, 4, 10, 11, 12, 13, 14, 15, 16, 17, 18, 19, 20, 21, 22, 23, 24, 25, 26, 27, 28, 29, 30, 31, 32, 33, 34, 35, 36, 37, 38, 39, 40, 41, 42, 43, 44, 45, 46, 47, 53, 54, 55, 56, 57, 58, 59, 60, 61, 62, 63, 64, 65, 66, 67, 68, 69, 70, 71, 72, 73, 74, 75, 76] (by decide +kernel) (by decide +kernel)
set_option maxRecDepth 20000 in
theorem gX11_blameByAuthors_X11_blame : GoodIn wsX11_blameByAuthors (wsV RX11 194 RX11 yX11_blame wsX11_blame) := goodIn_app (goodIn_of _ (by decide +kernel)) ggX11_blameByAuthors_X11_blame
set_option maxRecDepth 20000 in
theorem ggX11_blameByAuthors_X11_plain : GoodIn wsX11_blameByAuthors wsX11_plain := goodIn_r _ [51, 52, 53, 54, 55, 56, 57, 58, 59, 60, 61, 62, 63, 64, 65, 66, 67, 68, 69, 70, 71, 72, 73, 74, 75, 76] (by decide +kernel) (by decide +kernel)
set_option maxRecDepth 20000 in
theorem gX11_blameByAuthors_X11_plain : GoodIn wsX11_blameByAuthors (wsV RX11 105 RX11 yX11_plain wsX11_plain) := goodIn_app (goodIn_of _ (by decide +kernel)) ggX11_blameByAuthors_X11_plain
theorem dX11_blameByAuthors_0 : decode cX11_blameByAuthors 0 = .ok (.iconst 0, 1) := by decide +kernel
theorem dX11_blameByAuthors_1 : decode cX11_blameByAuthors 1 = .ok (.istore_n 1, 1) := by decide +kernel
theorem dX11_blameByAuthors_2 : decode cX11_blameByAuthors 2 = .ok (.iconst 0, 1) := by decide +kernel
theorem dX11_blameByAuthors_3 : decode cX11_blameByAuthors 3 = .ok (.istore_n 2, 1) := by decide +kernel
theorem dX11_blameByAuthors_4 : decode cX11_blameByAuthors 4 = .ok (.iload_n 2, 1) := by decide +kernel
theorem dX11_blameByAuthors_5 : decode cX11_blameByAuthors 5 = .ok (.bipush 8, 2) := by decide +kernel
theorem dX11_blameByAuthors_7 : decode cX11_blameByAuthors 7 = .ok (.if_icmp .ge 18, 3) := by decide +kernel
theorem dX11_blameByAuthors_10 : decode cX11_blameByAuthors 10 = .ok (.iload_n 1, 1) := by decide +kernel
theorem dX11_blameByAuthors_11 : decode cX11_blameByAuthors 11 = .ok (.aload_n 0, 1) := by decide +kernel
theorem dX11_blameByAuthors_12 : decode cX11_blameByAuthors 12 = .ok (.iload_n 2, 1) := by decide +kernel
theorem dX11_blameByAuthors_13 : decode cX11_blameByAuthors 13 = .ok (.iconst (-1), 1) := by decide +kernel
theorem dX11_blameByAuthors_14 : decode cX11_blameByAuthors 14 = .ok (.invokevirtual 194, 3) := by decide +kernel
theorem dX11_blameByAuthors_17 : decode cX11_blameByAuthors 17 = .ok (.iadd, 1) := by decide +kernel
theorem dX11_blameByAuthors_18 : decode cX11_blameByAuthors 18 = .ok (.istore_n 1, 1) := by decide +kernel
theorem dX11_blameByAuthors_19 : decode cX11_blameByAuthors 19 = .ok (.iinc 2 1, 3) := by decide +kernel
theorem dX11_blameByAuthors_22 : decode cX11_blameByAuthors 22 = .ok (.goto (-18), 3) := by decide +kernel
theorem dX11_blameByAuthors_25 : decode cX11_blameByAuthors 25 = .ok (.aload_n 0, 1) := by decide +kernel
theorem dX11_blameByAuthors_26 : decode cX11_blameByAuthors 26 = .ok (.iload_n 1, 1) := by decide +kernel
theorem dX11_blameByAuthors_27 : decode cX11_blameByAuthors 27 = .ok (.invokevirtual 105, 3) := by decide +kernel
theorem dX11_blameByAuthors_30 : decode cX11_blameByAuthors 30 = .ok (.ireturn, 1) := by decide +kernel
set_option maxRecDepth 20000 in
theorem ggX11_blameAt_X11_get : GoodIn wsX11_blameAt wsX11_get := goodIn_r _ [6, 1, 37, 38, 39, 40, 41, 42, 43, 44, 45, 46, 47, 48, 49, 50, 51, 52, 53, 54, 55, 56, 57, 58, 59, 60] (by decide +kernel) (by decide +kernel)
set_option maxRecDepth 20000 in
theorem gX11_blameAt_X11_get : GoodIn wsX11_blameAt (wsV RX11 53 RX11 yX11_get wsX11_get) := goodIn_app (goodIn_of _ (by decide +kernel)) ggX11_blameAt_X11_get
set_option maxRecDepth 20000 in
theorem ggX11_blameAt_X11_source : GoodIn wsX11_blameAt wsX11_source := goodIn_r _ [10, 2, 3, 4, 5, 6, 1, 37, 38, 39, 40, 41, 42, 43, 44, 45, 46, 47, 48, 49, 50, 51, 52, 53, 54, 55, 56, 57, 58, 59, 60] (by decide +kernel) (by decide +kernel)
set_option maxRecDepth 20000 in
theorem gX11_blameAt_X11_source : GoodIn wsX11_blameAt (wsV RX11 140 RX11 yX11_source wsX11_source) := goodIn_app (goodIn_of _ (by decide +kernel)) ggX11_blameAt_X11_source
set_option maxRecDepth 20000 in
theorem ggX11_blameAt_X11_byTable : GoodIn wsX11_blameAt wsX11_byTable := goodIn_r _ [14, 15, 16, 17, 18, 5, 19, 2, 3, 4, 6, 1, 7, 8, 9, 10, 20, 21, 22, 23, 24, 25, 26, 27, 28, 29, 30, 31, 32, 33, 34, 35, 36, 37, 38, 39, 40, 41, 42, 43, 44, 45, 46, 47, 48, 49, 50, 51, 52, 53, 54, 55, 56, 57, 58, 59, 60] (by decide +kernel) (by decide +kernel)
set_option maxRecDepth 20000 in
theorem gX11_blameAt_X11_byTable : GoodIn wsX11_blameAt (wsV RX11 184 RX11 yX11_byTable wsX11_byTable) := goodIn_app (goodIn_of _ (by decide +kernel)) ggX11_blameAt_X11_byTable
theorem dX11_blameAt_0 : decode cX11_blameAt 0 = .ok (.iconst 0, 1) := by decide +kernel
theorem dX11_blameAt_1 : decode cX11_blameAt 1 = .ok (.istore_n 2, 1) := by decide +kernel
theorem dX11_blameAt_2 : decode cX11_blameAt 2 = .ok (.iload_n 1, 1) := by decide +kernel
theorem dX11_blameAt_3 : decode cX11_blameAt 3 = .ok (.iconst 1, 1) := by decide +kernel
theorem dX11_blameAt_4 : decode cX11_blameAt 4 = .ok (.iadd, 1) := by decide +kernel
theorem dX11_blameAt_5 : decode cX11_blameAt 5 = .ok (.istore_n 3, 1) := by decide +kernel
theorem dX11_blameAt_6 : decode cX11_blameAt 6 = .ok (.iload_n 3, 1) := by decide +kernel
theorem dX11_blameAt_7 : decode cX11_blameAt 7 = .ok (.aload_n 0, 1) := by decide +kernel
theorem dX11_blameAt_8 : decode cX11_blameAt 8 = .ok (.getfield 7, 3) := by decide +kernel
theorem dX11_blameAt_11 : decode cX11_blameAt 11 = .ok (.iconst 1, 1) := by decide +kernel
theorem dX11_blameAt_12 : decode cX11_blameAt 12 = .ok (.iaload, 1) := by decide +kernel
theorem dX11_blameAt_13 : decode cX11_blameAt 13 = .ok (.if_icmp .ge 54, 3) := by decide +kernel
theorem dX11_blameAt_16 : decode cX11_blameAt 16 = .ok (.iconst 0, 1) := by decide +kernel
theorem dX11_blameAt_17 : decode cX11_blameAt 17 = .ok (.istore 4, 2) := by decide +kernel
theorem dX11_blameAt_19 : decode cX11_blameAt 19 = .ok (.iload 4, 2) := by decide +kernel
theorem dX11_blameAt_21 : decode cX11_blameAt 21 = .ok (.aload_n 0, 1) := by decide +kernel
theorem dX11_blameAt_22 : decode cX11_blameAt 22 = .ok (.iload_n 3, 1) := by decide +kernel
theorem dX11_blameAt_23 : decode cX11_blameAt 23 = .ok (.iconst 5, 1) := by decide +kernel
theorem dX11_blameAt_24 : decode cX11_blameAt 24 = .ok (.invokevirtual 53, 3) := by decide +kernel
theorem dX11_blameAt_27 : decode cX11_blameAt 27 = .ok (.if_icmp .ge 34, 3) := by decide +kernel
theorem dX11_blameAt_30 : decode cX11_blameAt 30 = .ok (.iload_n 2, 1) := by decide +kernel
theorem dX11_blameAt_31 : decode cX11_blameAt 31 = .ok (.aload_n 0, 1) := by decide +kernel
theorem dX11_blameAt_32 : decode cX11_blameAt 32 = .ok (.iload_n 3, 1) := by decide +kernel
theorem dX11_blameAt_33 : decode cX11_blameAt 33 = .ok (.iload 4, 2) := by decide +kernel
theorem dX11_blameAt_35 : decode cX11_blameAt 35 = .ok (.invokevirtual 140, 3) := by decide +kernel
theorem dX11_blameAt_38 : decode cX11_blameAt 38 = .ok (.iload_n 1, 1) := by decide +kernel
theorem dX11_blameAt_39 : decode cX11_blameAt 39 = .ok (.if_icmp .ne 13, 3) := by decide +kernel
theorem dX11_blameAt_42 : decode cX11_blameAt 42 = .ok (.aload_n 0, 1) := by decide +kernel
theorem dX11_blameAt_43 : decode cX11_blameAt 43 = .ok (.iload_n 3, 1) := by decide +kernel
theorem dX11_blameAt_44 : decode cX11_blameAt 44 = .ok (.iload 4, 2) := by decide +kernel
theorem dX11_blameAt_46 : decode cX11_blameAt 46 = .ok (.invokevirtual 184, 3) := by decide +kernel
theorem dX11_blameAt_49 : decode cX11_blameAt 49 = .ok (.goto 4, 3) := by decide +kernel
theorem dX11_blameAt_52 : decode cX11_blameAt 52 = .ok (.iconst 0, 1) := by decide +kernel
theorem dX11_blameAt_53 : decode cX11_blameAt 53 = .ok (.iadd, 1) := by decide +kernel
theorem dX11_blameAt_54 : decode cX11_blameAt 54 = .ok (.istore_n 2, 1) := by decide +kernel
theorem dX11_blameAt_55 : decode cX11_blameAt 55 = .ok (.iinc 4 1, 3) := by decide +kernel
theorem dX11_blameAt_58 : decode cX11_blameAt 58 = .ok (.goto (-39), 3) := by decide +kernel
theorem dX11_blameAt_61 : decode cX11_blameAt 61 = .ok (.iinc 3 1, 3) := by decide +kernel
theorem dX11_blameAt_64 : decode cX11_blameAt 64 = .ok (.goto (-58), 3) := by decide +kernel
theorem dX11_blameAt_67 : decode cX11_blameAt 67 = .ok (.iload_n 2, 1) := by decide +kernel
theorem dX11_blameAt_68 : decode cX11_blameAt 68 = .ok (.ireturn, 1) := by decide +kernel
set_option maxRecDepth 20000 in
theorem ggX11_blameBySources_X11_blameAt : GoodIn wsX11_blameBySources wsX11_blameAt := goodIn_r _ [6, 1, 7, 8, 9, 5, 10, 11, 12, 13, 14, 15, 16, 17, 18, 19, 20, 21, 22, 23, 24, 25, 26, 27, 28, 29, 30, 31, 32, 33, 34, 35, 36, 37, 38, 39, 40, 46, 47, 48, 49, 50, 51, 52, 53, 54, 55, 56, 57, 58, 59, 60, 61, 62, 63, 64, 65, 66, 67, 68, 69] (by decide +kernel) (by decide +kernel)
set_option maxRecDepth 20000 in
theorem gX11_blameBySources_X11_blameAt : GoodIn wsX11_blameBySources (wsV RX11 197 RX11 yX11_blameAt wsX11_blameAt) := goodIn_app (goodIn_of _ (by decide +kernel)) ggX11_blameBySources_X11_blameAt
set_option maxRecDepth 20000 in
theorem ggX11_blameBySources_X11_plain : GoodIn wsX11_blameBySources wsX11_plain := goodIn_r _ [44, 45, 46, 47, 48, 49, 50, 51, 52, 53, 54, 55, 56, 57, 58, 59, 60, 61, 62, 63, 64, 65, 66, 67, 68, 69] (by decide +kernel) (by decide +kernel)
set_option maxRecDepth 20000 in
theorem gX11_blameBySources_X11_plain : GoodIn wsX11_blameBySources (wsV RX11 105 RX11 yX11_plain wsX11_plain) := goodIn_app (goodIn_of _ (by decide +kernel)) ggX11_blameBySources_X11_plain
theorem dX11_blameBySources_0 : decode cX11_blameBySources 0 = .ok (.iconst 0, 1) := by decide +kernel
theorem dX11_blameBySources_1 : decode cX11_blameBySources 1 = .ok (.istore_n 1, 1) := by decide +kernel
theorem dX11_blameBySources_2 : decode cX11_blameBySources 2 = .ok (.iconst 0, 1) := by decide +kernel
theorem dX11_blameBySources_3 : decode cX11_blameBySources 3 = .ok (.istore_n 2, 1) := by decide +kernel
theorem dX11_blameBySources_4 : decode cX11_blameBySources 4 = .ok (.iload_n 2, 1) := by decide +kernel
theorem dX11_blameBySources_5 : decode cX11_blameBySources 5 = .ok (.aload_n 0, 1) := by decide +kernel
theorem dX11_blameBySources_6 : decode cX11_blameBySources 6 = .ok (.getfield 7, 3) := by decide +kernel
theorem dX11_blameBySources_9 : decode cX11_blameBySources 9 = .ok (.iconst 1, 1) := by decide +kernel
theorem dX11_blameBySources_10 : decode cX11_blameBySources 10 = .ok (.iaload, 1) := by decide +kernel
theorem dX11_blameBySources_11 : decode cX11_blameBySources 11 = .ok (.if_icmp .ge 17, 3) := by decide +kernel
theorem dX11_blameBySources_14 : decode cX11_blameBySources 14 = .ok (.iload_n 1, 1) := by decide +kernel
theorem dX11_blameBySources_15 : decode cX11_blameBySources 15 = .ok (.aload_n 0, 1) := by decide +kernel
theorem dX11_blameBySources_16 : decode cX11_blameBySources 16 = .ok (.iload_n 2, 1) := by decide +kernel
theorem dX11_blameBySources_17 : decode cX11_blameBySources 17 = .ok (.invokevirtual 197, 3) := by decide +kernel
theorem dX11_blameBySources_20 : decode cX11_blameBySources 20 = .ok (.iadd, 1) := by decide +kernel
theorem dX11_blameBySources_21 : decode cX11_blameBySources 21 = .ok (.istore_n 1, 1) := by decide +kernel
theorem dX11_blameBySources_22 : decode cX11_blameBySources 22 = .ok (.iinc 2 1, 3) := by decide +kernel
theorem dX11_blameBySources_25 : decode cX11_blameBySources 25 = .ok (.goto (-21), 3) := by decide +kernel
theorem dX11_blameBySources_28 : decode cX11_blameBySources 28 = .ok (.aload_n 0, 1) := by decide +kernel
theorem dX11_blameBySources_29 : decode cX11_blameBySources 29 = .ok (.iload_n 1, 1) := by decide +kernel
theorem dX11_blameBySources_30 : decode cX11_blameBySources 30 = .ok (.invokevirtual 105, 3) := by decide +kernel
theorem dX11_blameBySources_33 : decode cX11_blameBySources 33 = .ok (.ireturn, 1) := by decide +kernel
set_option maxRecDepth 20000 in
theorem ggX11_faithfulShare_X11_get : GoodIn wsX11_faithfulShare wsX11_get := goodIn_r _ [7, 2, 38, 39, 40, 41, 42, 43, 44, 45, 46, 47, 48, 49, 50, 51, 52, 53, 54, 55, 56, 57, 58, 59, 60, 61] (by decide +kernel) (by decide +kernel)
set_option maxRecDepth 20000 in
theorem gX11_faithfulShare_X11_get : GoodIn wsX11_faithfulShare (wsV RX11 53 RX11 yX11_get wsX11_get) := goodIn_app (goodIn_of _ (by decide +kernel)) ggX11_faithfulShare_X11_get
set_option maxRecDepth 20000 in
theorem ggX11_faithfulShare_X11_byTable : GoodIn wsX11_faithfulShare wsX11_byTable := goodIn_r _ [11, 12, 13, 14, 15, 6, 16, 3, 4, 5, 7, 2, 17, 18, 19, 20, 21, 22, 23, 24, 25, 26, 27, 28, 29, 30, 31, 32, 33, 34, 35, 36, 37, 38, 39, 40, 41, 42, 43, 44, 45, 46, 47, 48, 49, 50, 51, 52, 53, 54, 55, 56, 57, 58, 59, 60, 61] (by decide +kernel) (by decide +kernel)
set_option maxRecDepth 20000 in
theorem gX11_faithfulShare_X11_byTable : GoodIn wsX11_faithfulShare (wsV RX11 184 RX11 yX11_byTable wsX11_byTable) := goodIn_app (goodIn_of _ (by decide +kernel)) ggX11_faithfulShare_X11_byTable
theorem dX11_faithfulShare_0 : decode cX11_faithfulShare 0 = .ok (.aload_n 0, 1) := by decide +kernel
theorem dX11_faithfulShare_1 : decode cX11_faithfulShare 1 = .ok (.iconst 0, 1) := by decide +kernel
theorem dX11_faithfulShare_2 : decode cX11_faithfulShare 2 = .ok (.putfield 41, 3) := by decide +kernel
theorem dX11_faithfulShare_5 : decode cX11_faithfulShare 5 = .ok (.iconst 0, 1) := by decide +kernel
theorem dX11_faithfulShare_6 : decode cX11_faithfulShare 6 = .ok (.istore_n 1, 1) := by decide +kernel
theorem dX11_faithfulShare_7 : decode cX11_faithfulShare 7 = .ok (.iconst 0, 1) := by decide +kernel
theorem dX11_faithfulShare_8 : decode cX11_faithfulShare 8 = .ok (.istore_n 2, 1) := by decide +kernel
theorem dX11_faithfulShare_9 : decode cX11_faithfulShare 9 = .ok (.iconst 0, 1) := by decide +kernel
theorem dX11_faithfulShare_10 : decode cX11_faithfulShare 10 = .ok (.istore_n 3, 1) := by decide +kernel
theorem dX11_faithfulShare_11 : decode cX11_faithfulShare 11 = .ok (.iload_n 3, 1) := by decide +kernel
theorem dX11_faithfulShare_12 : decode cX11_faithfulShare 12 = .ok (.aload_n 0, 1) := by decide +kernel
theorem dX11_faithfulShare_13 : decode cX11_faithfulShare 13 = .ok (.getfield 7, 3) := by decide +kernel
theorem dX11_faithfulShare_16 : decode cX11_faithfulShare 16 = .ok (.iconst 1, 1) := by decide +kernel
theorem dX11_faithfulShare_17 : decode cX11_faithfulShare 17 = .ok (.iaload, 1) := by decide +kernel
theorem dX11_faithfulShare_18 : decode cX11_faithfulShare 18 = .ok (.if_icmp .ge 50, 3) := by decide +kernel
theorem dX11_faithfulShare_21 : decode cX11_faithfulShare 21 = .ok (.iconst 0, 1) := by decide +kernel
theorem dX11_faithfulShare_22 : decode cX11_faithfulShare 22 = .ok (.istore 4, 2) := by decide +kernel
theorem dX11_faithfulShare_24 : decode cX11_faithfulShare 24 = .ok (.iload 4, 2) := by decide +kernel
theorem dX11_faithfulShare_26 : decode cX11_faithfulShare 26 = .ok (.aload_n 0, 1) := by decide +kernel
theorem dX11_faithfulShare_27 : decode cX11_faithfulShare 27 = .ok (.iload_n 3, 1) := by decide +kernel
theorem dX11_faithfulShare_28 : decode cX11_faithfulShare 28 = .ok (.iconst 5, 1) := by decide +kernel
theorem dX11_faithfulShare_29 : decode cX11_faithfulShare 29 = .ok (.invokevirtual 53, 3) := by decide +kernel
theorem dX11_faithfulShare_32 : decode cX11_faithfulShare 32 = .ok (.if_icmp .ge 30, 3) := by decide +kernel
theorem dX11_faithfulShare_35 : decode cX11_faithfulShare 35 = .ok (.iinc 1 1, 3) := by decide +kernel
theorem dX11_faithfulShare_38 : decode cX11_faithfulShare 38 = .ok (.iload_n 2, 1) := by decide +kernel
theorem dX11_faithfulShare_39 : decode cX11_faithfulShare 39 = .ok (.aload_n 0, 1) := by decide +kernel
theorem dX11_faithfulShare_40 : decode cX11_faithfulShare 40 = .ok (.iload_n 3, 1) := by decide +kernel
theorem dX11_faithfulShare_41 : decode cX11_faithfulShare 41 = .ok (.iload 4, 2) := by decide +kernel
theorem dX11_faithfulShare_43 : decode cX11_faithfulShare 43 = .ok (.invokevirtual 184, 3) := by decide +kernel
theorem dX11_faithfulShare_46 : decode cX11_faithfulShare 46 = .ok (.ifCond .ne 7, 3) := by decide +kernel
theorem dX11_faithfulShare_49 : decode cX11_faithfulShare 49 = .ok (.iconst 1, 1) := by decide +kernel
theorem dX11_faithfulShare_50 : decode cX11_faithfulShare 50 = .ok (.goto 4, 3) := by decide +kernel
theorem dX11_faithfulShare_53 : decode cX11_faithfulShare 53 = .ok (.iconst 0, 1) := by decide +kernel
theorem dX11_faithfulShare_54 : decode cX11_faithfulShare 54 = .ok (.iadd, 1) := by decide +kernel
theorem dX11_faithfulShare_55 : decode cX11_faithfulShare 55 = .ok (.istore_n 2, 1) := by decide +kernel
theorem dX11_faithfulShare_56 : decode cX11_faithfulShare 56 = .ok (.iinc 4 1, 3) := by decide +kernel
theorem dX11_faithfulShare_59 : decode cX11_faithfulShare 59 = .ok (.goto (-35), 3) := by decide +kernel
theorem dX11_faithfulShare_62 : decode cX11_faithfulShare 62 = .ok (.iinc 3 1, 3) := by decide +kernel
theorem dX11_faithfulShare_65 : decode cX11_faithfulShare 65 = .ok (.goto (-54), 3) := by decide +kernel
theorem dX11_faithfulShare_68 : decode cX11_faithfulShare 68 = .ok (.iload_n 1, 1) := by decide +kernel
theorem dX11_faithfulShare_69 : decode cX11_faithfulShare 69 = .ok (.ifCond .ne 7, 3) := by decide +kernel
theorem dX11_faithfulShare_72 : decode cX11_faithfulShare 72 = .ok (.dconst 0, 1) := by decide +kernel
theorem dX11_faithfulShare_73 : decode cX11_faithfulShare 73 = .ok (.goto 8, 3) := by decide +kernel
theorem dX11_faithfulShare_76 : decode cX11_faithfulShare 76 = .ok (.iload_n 2, 1) := by decide +kernel
theorem dX11_faithfulShare_77 : decode cX11_faithfulShare 77 = .ok (.i2d, 1) := by decide +kernel
theorem dX11_faithfulShare_78 : decode cX11_faithfulShare 78 = .ok (.iload_n 1, 1) := by decide +kernel
theorem dX11_faithfulShare_79 : decode cX11_faithfulShare 79 = .ok (.i2d, 1) := by decide +kernel
theorem dX11_faithfulShare_80 : decode cX11_faithfulShare 80 = .ok (.ddiv, 1) := by decide +kernel
theorem dX11_faithfulShare_81 : decode cX11_faithfulShare 81 = .ok (.dreturn, 1) := by decide +kernel
set_option maxRecDepth 20000 in
theorem ggX11_isAnswer_X11_get : GoodIn wsX11_isAnswer wsX11_get := goodIn_r _ [5, 6, 11, 12, 13, 14, 15, 16, 17, 18, 19, 20, 21, 22, 23, 24, 25, 26, 27, 28, 29, 30, 31, 32, 33, 34] (by decide +kernel) (by decide +kernel)
set_option maxRecDepth 20000 in
theorem gX11_isAnswer_X11_get : GoodIn wsX11_isAnswer (wsV RX11 53 RX11 yX11_get wsX11_get) := goodIn_app (goodIn_of _ (by decide +kernel)) ggX11_isAnswer_X11_get
set_option maxRecDepth 20000 in
theorem ggX11_isAnswer_X11_source : GoodIn wsX11_isAnswer wsX11_source := goodIn_r _ [10, 1, 2, 3, 4, 5, 6, 11, 12, 13, 14, 15, 16, 17, 18, 19, 20, 21, 22, 23, 24, 25, 26, 27, 28, 29, 30, 31, 32, 33, 34] (by decide +kernel) (by decide +kernel)
set_option maxRecDepth 20000 in
theorem gX11_isAnswer_X11_source : GoodIn wsX11_isAnswer (wsV RX11 140 RX11 yX11_source wsX11_source) := goodIn_app (goodIn_of _ (by decide +kernel)) ggX11_isAnswer_X11_source
theorem dX11_isAnswer_0 : decode cX11_isAnswer 0 = .ok (.iconst 0, 1) := by decide +kernel
theorem dX11_isAnswer_1 : decode cX11_isAnswer 1 = .ok (.istore_n 3, 1) := by decide +kernel
theorem dX11_isAnswer_2 : decode cX11_isAnswer 2 = .ok (.iconst 0, 1) := by decide +kernel
theorem dX11_isAnswer_3 : decode cX11_isAnswer 3 = .ok (.istore 4, 2) := by decide +kernel
theorem dX11_isAnswer_5 : decode cX11_isAnswer 5 = .ok (.iload 4, 2) := by decide +kernel
theorem dX11_isAnswer_7 : decode cX11_isAnswer 7 = .ok (.aload_n 0, 1) := by decide +kernel
theorem dX11_isAnswer_8 : decode cX11_isAnswer 8 = .ok (.iload_n 1, 1) := by decide +kernel
theorem dX11_isAnswer_9 : decode cX11_isAnswer 9 = .ok (.iconst 5, 1) := by decide +kernel
theorem dX11_isAnswer_10 : decode cX11_isAnswer 10 = .ok (.invokevirtual 53, 3) := by decide +kernel
theorem dX11_isAnswer_13 : decode cX11_isAnswer 13 = .ok (.if_icmp .ge 30, 3) := by decide +kernel
theorem dX11_isAnswer_16 : decode cX11_isAnswer 16 = .ok (.iload_n 3, 1) := by decide +kernel
theorem dX11_isAnswer_17 : decode cX11_isAnswer 17 = .ok (.ifCond .ne 14, 3) := by decide +kernel
theorem dX11_isAnswer_20 : decode cX11_isAnswer 20 = .ok (.aload_n 0, 1) := by decide +kernel
theorem dX11_isAnswer_21 : decode cX11_isAnswer 21 = .ok (.iload_n 1, 1) := by decide +kernel
theorem dX11_isAnswer_22 : decode cX11_isAnswer 22 = .ok (.iload 4, 2) := by decide +kernel
theorem dX11_isAnswer_24 : decode cX11_isAnswer 24 = .ok (.invokevirtual 140, 3) := by decide +kernel
theorem dX11_isAnswer_27 : decode cX11_isAnswer 27 = .ok (.iload_n 2, 1) := by decide +kernel
theorem dX11_isAnswer_28 : decode cX11_isAnswer 28 = .ok (.if_icmp .ne 7, 3) := by decide +kernel
theorem dX11_isAnswer_31 : decode cX11_isAnswer 31 = .ok (.iconst 1, 1) := by decide +kernel
theorem dX11_isAnswer_32 : decode cX11_isAnswer 32 = .ok (.goto 4, 3) := by decide +kernel
theorem dX11_isAnswer_35 : decode cX11_isAnswer 35 = .ok (.iconst 0, 1) := by decide +kernel
theorem dX11_isAnswer_36 : decode cX11_isAnswer 36 = .ok (.istore_n 3, 1) := by decide +kernel
theorem dX11_isAnswer_37 : decode cX11_isAnswer 37 = .ok (.iinc 4 1, 3) := by decide +kernel
theorem dX11_isAnswer_40 : decode cX11_isAnswer 40 = .ok (.goto (-35), 3) := by decide +kernel
theorem dX11_isAnswer_43 : decode cX11_isAnswer 43 = .ok (.iload_n 3, 1) := by decide +kernel
theorem dX11_isAnswer_44 : decode cX11_isAnswer 44 = .ok (.ireturn, 1) := by decide +kernel
set_option maxRecDepth 20000 in
theorem ggX11_answers_X11_isPamphlet : GoodIn wsX11_answers wsX11_isPamphlet := goodIn_r _ [5, 6, 7, 8, 4, 9, 27, 28, 29, 30, 31, 32, 33, 34, 35, 36, 37, 38, 39, 40, 41, 42, 43, 44, 45, 46, 47, 48, 49, 50] (by decide +kernel) (by decide +kernel)
set_option maxRecDepth 20000 in
theorem gX11_answers_X11_isPamphlet : GoodIn wsX11_answers (wsV RX11 49 RX11 yX11_isPamphlet wsX11_isPamphlet) := goodIn_app (goodIn_of _ (by decide +kernel)) ggX11_answers_X11_isPamphlet
set_option maxRecDepth 20000 in
theorem ggX11_answers_X11_holds : GoodIn wsX11_answers wsX11_holds := goodIn_r _ [13, 14, 27, 28, 29, 30, 31, 32, 33, 34, 35, 36, 37, 38, 39, 40, 41, 42, 43, 44, 45, 46, 47, 48, 49, 50] (by decide +kernel) (by decide +kernel)
set_option maxRecDepth 20000 in
theorem gX11_answers_X11_holds : GoodIn wsX11_answers (wsV RX11 112 RX11 yX11_holds wsX11_holds) := goodIn_app (goodIn_of _ (by decide +kernel)) ggX11_answers_X11_holds
set_option maxRecDepth 20000 in
theorem ggX11_answers_X11_isAnswer : GoodIn wsX11_answers wsX11_isAnswer := goodIn_r _ [18, 19, 20, 21, 4, 22, 6, 23, 24, 25, 26, 27, 28, 29, 30, 31, 32, 33, 34, 35, 36, 37, 38, 39, 40, 41, 42, 43, 44, 45, 46, 47, 48, 49, 50] (by decide +kernel) (by decide +kernel)
set_option maxRecDepth 20000 in
theorem gX11_answers_X11_isAnswer : GoodIn wsX11_answers (wsV RX11 200 RX11 yX11_isAnswer wsX11_isAnswer) := goodIn_app (goodIn_of _ (by decide +kernel)) ggX11_answers_X11_isAnswer
theorem dX11_answers_0 : decode cX11_answers 0 = .ok (.aload_n 0, 1) := by decide +kernel
theorem dX11_answers_1 : decode cX11_answers 1 = .ok (.aload_n 0, 1) := by decide +kernel
theorem dX11_answers_2 : decode cX11_answers 2 = .ok (.iload_n 1, 1) := by decide +kernel
theorem dX11_answers_3 : decode cX11_answers 3 = .ok (.invokevirtual 49, 3) := by decide +kernel
theorem dX11_answers_6 : decode cX11_answers 6 = .ok (.ifCond .eq 15, 3) := by decide +kernel
theorem dX11_answers_9 : decode cX11_answers 9 = .ok (.aload_n 0, 1) := by decide +kernel
theorem dX11_answers_10 : decode cX11_answers 10 = .ok (.iload_n 2, 1) := by decide +kernel
theorem dX11_answers_11 : decode cX11_answers 11 = .ok (.invokevirtual 49, 3) := by decide +kernel
theorem dX11_answers_14 : decode cX11_answers 14 = .ok (.ifCond .eq 7, 3) := by decide +kernel
theorem dX11_answers_17 : decode cX11_answers 17 = .ok (.iconst 0, 1) := by decide +kernel
theorem dX11_answers_18 : decode cX11_answers 18 = .ok (.goto 4, 3) := by decide +kernel
theorem dX11_answers_21 : decode cX11_answers 21 = .ok (.iconst 1, 1) := by decide +kernel
theorem dX11_answers_22 : decode cX11_answers 22 = .ok (.invokevirtual 112, 3) := by decide +kernel
theorem dX11_answers_25 : decode cX11_answers 25 = .ok (.ifCond .eq 16, 3) := by decide +kernel
theorem dX11_answers_28 : decode cX11_answers 28 = .ok (.aload_n 0, 1) := by decide +kernel
theorem dX11_answers_29 : decode cX11_answers 29 = .ok (.iload_n 1, 1) := by decide +kernel
theorem dX11_answers_30 : decode cX11_answers 30 = .ok (.iload_n 2, 1) := by decide +kernel
theorem dX11_answers_31 : decode cX11_answers 31 = .ok (.invokevirtual 200, 3) := by decide +kernel
theorem dX11_answers_34 : decode cX11_answers 34 = .ok (.ifCond .eq 7, 3) := by decide +kernel
theorem dX11_answers_37 : decode cX11_answers 37 = .ok (.iconst 1, 1) := by decide +kernel
theorem dX11_answers_38 : decode cX11_answers 38 = .ok (.goto 4, 3) := by decide +kernel
theorem dX11_answers_41 : decode cX11_answers 41 = .ok (.iconst 0, 1) := by decide +kernel
theorem dX11_answers_42 : decode cX11_answers 42 = .ok (.ireturn, 1) := by decide +kernel
set_option maxRecDepth 20000 in
theorem ggX11_climb_X11_get : GoodIn wsX11_climb wsX11_get := goodIn_r _ [8, 1, 17, 18, 19, 20, 21, 22, 23, 24, 25, 26, 27, 28, 29, 30, 31, 32, 33, 34, 35, 36, 37, 38, 39, 40] (by decide +kernel) (by decide +kernel)
set_option maxRecDepth 20000 in
theorem gX11_climb_X11_get : GoodIn wsX11_climb (wsV RX11 53 RX11 yX11_get wsX11_get) := goodIn_app (goodIn_of _ (by decide +kernel)) ggX11_climb_X11_get
set_option maxRecDepth 20000 in
theorem ggX11_climb_X11_isAnswer : GoodIn wsX11_climb wsX11_isAnswer := goodIn_r _ [12, 4, 5, 6, 7, 8, 1, 13, 14, 15, 16, 17, 18, 19, 20, 21, 22, 23, 24, 25, 26, 27, 28, 29, 30, 31, 32, 33, 34, 35, 36, 37, 38, 39, 40] (by decide +kernel) (by decide +kernel)
set_option maxRecDepth 20000 in
theorem gX11_climb_X11_isAnswer : GoodIn wsX11_climb (wsV RX11 200 RX11 yX11_isAnswer wsX11_isAnswer) := goodIn_app (goodIn_of _ (by decide +kernel)) ggX11_climb_X11_isAnswer
theorem dX11_climb_0 : decode cX11_climb 0 = .ok (.iconst 0, 1) := by decide +kernel
theorem dX11_climb_1 : decode cX11_climb 1 = .ok (.istore_n 1, 1) := by decide +kernel
theorem dX11_climb_2 : decode cX11_climb 2 = .ok (.iload_n 1, 1) := by decide +kernel
theorem dX11_climb_3 : decode cX11_climb 3 = .ok (.aload_n 0, 1) := by decide +kernel
theorem dX11_climb_4 : decode cX11_climb 4 = .ok (.getfield 7, 3) := by decide +kernel
theorem dX11_climb_7 : decode cX11_climb 7 = .ok (.iconst 1, 1) := by decide +kernel
theorem dX11_climb_8 : decode cX11_climb 8 = .ok (.iaload, 1) := by decide +kernel
theorem dX11_climb_9 : decode cX11_climb 9 = .ok (.if_icmp .ge 113, 3) := by decide +kernel
theorem dX11_climb_12 : decode cX11_climb 12 = .ok (.aload_n 0, 1) := by decide +kernel
theorem dX11_climb_13 : decode cX11_climb 13 = .ok (.getfield 29, 3) := by decide +kernel
theorem dX11_climb_16 : decode cX11_climb 16 = .ok (.iload_n 1, 1) := by decide +kernel
theorem dX11_climb_17 : decode cX11_climb 17 = .ok (.iconst 1, 1) := by decide +kernel
theorem dX11_climb_18 : decode cX11_climb 18 = .ok (.iastore, 1) := by decide +kernel
theorem dX11_climb_19 : decode cX11_climb 19 = .ok (.aload_n 0, 1) := by decide +kernel
theorem dX11_climb_20 : decode cX11_climb 20 = .ok (.getfield 32, 3) := by decide +kernel
theorem dX11_climb_23 : decode cX11_climb 23 = .ok (.iload_n 1, 1) := by decide +kernel
theorem dX11_climb_24 : decode cX11_climb 24 = .ok (.aload_n 0, 1) := by decide +kernel
theorem dX11_climb_25 : decode cX11_climb 25 = .ok (.iload_n 1, 1) := by decide +kernel
theorem dX11_climb_26 : decode cX11_climb 26 = .ok (.iconst 5, 1) := by decide +kernel
theorem dX11_climb_27 : decode cX11_climb 27 = .ok (.invokevirtual 53, 3) := by decide +kernel
theorem dX11_climb_30 : decode cX11_climb 30 = .ok (.ifCond .ne 7, 3) := by decide +kernel
theorem dX11_climb_33 : decode cX11_climb 33 = .ok (.iconst 1, 1) := by decide +kernel
theorem dX11_climb_34 : decode cX11_climb 34 = .ok (.goto 4, 3) := by decide +kernel
theorem dX11_climb_37 : decode cX11_climb 37 = .ok (.iconst 0, 1) := by decide +kernel
theorem dX11_climb_38 : decode cX11_climb 38 = .ok (.iastore, 1) := by decide +kernel
theorem dX11_climb_39 : decode cX11_climb 39 = .ok (.iconst 0, 1) := by decide +kernel
theorem dX11_climb_40 : decode cX11_climb 40 = .ok (.istore_n 2, 1) := by decide +kernel
theorem dX11_climb_41 : decode cX11_climb 41 = .ok (.iload_n 2, 1) := by decide +kernel
theorem dX11_climb_42 : decode cX11_climb 42 = .ok (.iload_n 1, 1) := by decide +kernel
theorem dX11_climb_43 : decode cX11_climb 43 = .ok (.if_icmp .ge 73, 3) := by decide +kernel
theorem dX11_climb_46 : decode cX11_climb 46 = .ok (.aload_n 0, 1) := by decide +kernel
theorem dX11_climb_47 : decode cX11_climb 47 = .ok (.iload_n 1, 1) := by decide +kernel
theorem dX11_climb_48 : decode cX11_climb 48 = .ok (.iload_n 2, 1) := by decide +kernel
theorem dX11_climb_49 : decode cX11_climb 49 = .ok (.invokevirtual 200, 3) := by decide +kernel
theorem dX11_climb_52 : decode cX11_climb 52 = .ok (.ifCond .eq 58, 3) := by decide +kernel
theorem dX11_climb_55 : decode cX11_climb 55 = .ok (.aload_n 0, 1) := by decide +kernel
theorem dX11_climb_56 : decode cX11_climb 56 = .ok (.getfield 29, 3) := by decide +kernel
theorem dX11_climb_59 : decode cX11_climb 59 = .ok (.iload_n 1, 1) := by decide +kernel
theorem dX11_climb_60 : decode cX11_climb 60 = .ok (.aload_n 0, 1) := by decide +kernel
theorem dX11_climb_61 : decode cX11_climb 61 = .ok (.getfield 29, 3) := by decide +kernel
theorem dX11_climb_64 : decode cX11_climb 64 = .ok (.iload_n 2, 1) := by decide +kernel
theorem dX11_climb_65 : decode cX11_climb 65 = .ok (.iaload, 1) := by decide +kernel
theorem dX11_climb_66 : decode cX11_climb 66 = .ok (.iconst 1, 1) := by decide +kernel
theorem dX11_climb_67 : decode cX11_climb 67 = .ok (.iadd, 1) := by decide +kernel
theorem dX11_climb_68 : decode cX11_climb 68 = .ok (.aload_n 0, 1) := by decide +kernel
theorem dX11_climb_69 : decode cX11_climb 69 = .ok (.getfield 29, 3) := by decide +kernel
theorem dX11_climb_72 : decode cX11_climb 72 = .ok (.iload_n 1, 1) := by decide +kernel
theorem dX11_climb_73 : decode cX11_climb 73 = .ok (.iaload, 1) := by decide +kernel
theorem dX11_climb_74 : decode cX11_climb 74 = .ok (.if_icmp .le 14, 3) := by decide +kernel
theorem dX11_climb_77 : decode cX11_climb 77 = .ok (.aload_n 0, 1) := by decide +kernel
theorem dX11_climb_78 : decode cX11_climb 78 = .ok (.getfield 29, 3) := by decide +kernel
theorem dX11_climb_81 : decode cX11_climb 81 = .ok (.iload_n 2, 1) := by decide +kernel
theorem dX11_climb_82 : decode cX11_climb 82 = .ok (.iaload, 1) := by decide +kernel
theorem dX11_climb_83 : decode cX11_climb 83 = .ok (.iconst 1, 1) := by decide +kernel
theorem dX11_climb_84 : decode cX11_climb 84 = .ok (.iadd, 1) := by decide +kernel
theorem dX11_climb_85 : decode cX11_climb 85 = .ok (.goto 9, 3) := by decide +kernel
theorem dX11_climb_88 : decode cX11_climb 88 = .ok (.aload_n 0, 1) := by decide +kernel
theorem dX11_climb_89 : decode cX11_climb 89 = .ok (.getfield 29, 3) := by decide +kernel
theorem dX11_climb_92 : decode cX11_climb 92 = .ok (.iload_n 1, 1) := by decide +kernel
theorem dX11_climb_93 : decode cX11_climb 93 = .ok (.iaload, 1) := by decide +kernel
theorem dX11_climb_94 : decode cX11_climb 94 = .ok (.iastore, 1) := by decide +kernel
theorem dX11_climb_95 : decode cX11_climb 95 = .ok (.aload_n 0, 1) := by decide +kernel
theorem dX11_climb_96 : decode cX11_climb 96 = .ok (.getfield 32, 3) := by decide +kernel
theorem dX11_climb_99 : decode cX11_climb 99 = .ok (.iload_n 1, 1) := by decide +kernel
theorem dX11_climb_100 : decode cX11_climb 100 = .ok (.dup2, 1) := by decide +kernel
theorem dX11_climb_101 : decode cX11_climb 101 = .ok (.iaload, 1) := by decide +kernel
theorem dX11_climb_102 : decode cX11_climb 102 = .ok (.aload_n 0, 1) := by decide +kernel
theorem dX11_climb_103 : decode cX11_climb 103 = .ok (.getfield 32, 3) := by decide +kernel
theorem dX11_climb_106 : decode cX11_climb 106 = .ok (.iload_n 2, 1) := by decide +kernel
theorem dX11_climb_107 : decode cX11_climb 107 = .ok (.iaload, 1) := by decide +kernel
theorem dX11_climb_108 : decode cX11_climb 108 = .ok (.iadd, 1) := by decide +kernel
theorem dX11_climb_109 : decode cX11_climb 109 = .ok (.iastore, 1) := by decide +kernel
theorem dX11_climb_110 : decode cX11_climb 110 = .ok (.iinc 2 1, 3) := by decide +kernel
theorem dX11_climb_113 : decode cX11_climb 113 = .ok (.goto (-72), 3) := by decide +kernel
theorem dX11_climb_116 : decode cX11_climb 116 = .ok (.iinc 1 1, 3) := by decide +kernel
theorem dX11_climb_119 : decode cX11_climb 119 = .ok (.goto (-117), 3) := by decide +kernel
theorem dX11_climb_122 : decode cX11_climb 122 = .ok (.return_, 1) := by decide +kernel
set_option maxRecDepth 20000 in
theorem ggX11_ladderOf_X11_climb : GoodIn wsX11_ladderOf wsX11_climb := goodIn_r _ [6, 7, 1, 8, 9, 10, 11, 5, 12, 13, 14, 15, 16, 17, 18, 19, 20, 33, 34, 35, 36, 37, 38, 39, 40, 41, 42, 43, 44, 45, 46, 47, 48, 49, 50, 51, 52, 53, 54, 55, 56] (by decide +kernel) (by decide +kernel)
set_option maxRecDepth 20000 in
theorem gX11_ladderOf_X11_climb : GoodIn wsX11_ladderOf (wsV RX11 203 RX11 yX11_climb wsX11_climb) := goodIn_app (goodIn_of _ (by decide +kernel)) ggX11_ladderOf_X11_climb
set_option maxRecDepth 20000 in
theorem ggX11_ladderOf_X11_isPamphlet : GoodIn wsX11_ladderOf wsX11_isPamphlet := goodIn_r _ [24, 7, 25, 26, 5, 27, 33, 34, 35, 36, 37, 38, 39, 40, 41, 42, 43, 44, 45, 46, 47, 48, 49, 50, 51, 52, 53, 54, 55, 56] (by decide +kernel) (by decide +kernel)
set_option maxRecDepth 20000 in
theorem gX11_ladderOf_X11_isPamphlet : GoodIn wsX11_ladderOf (wsV RX11 49 RX11 yX11_isPamphlet wsX11_isPamphlet) := goodIn_app (goodIn_of _ (by decide +kernel)) ggX11_ladderOf_X11_isPamphlet
set_option maxRecDepth 20000 in
theorem ggX11_ladderOf_X11_holds : GoodIn wsX11_ladderOf wsX11_holds := goodIn_r _ [31, 32, 33, 34, 35, 36, 37, 38, 39, 40, 41, 42, 43, 44, 45, 46, 47, 48, 49, 50, 51, 52, 53, 54, 55, 56] (by decide +kernel) (by decide +kernel)
set_option maxRecDepth 20000 in
theorem gX11_ladderOf_X11_holds : GoodIn wsX11_ladderOf (wsV RX11 112 RX11 yX11_holds wsX11_holds) := goodIn_app (goodIn_of _ (by decide +kernel)) ggX11_ladderOf_X11_holds
theorem dX11_ladderOf_0 : decode cX11_ladderOf 0 = .ok (.aload_n 0, 1) := by decide +kernel
theorem dX11_ladderOf_1 : decode cX11_ladderOf 1 = .ok (.invokevirtual 203, 3) := by decide +kernel
theorem dX11_ladderOf_4 : decode cX11_ladderOf 4 = .ok (.aload_n 0, 1) := by decide +kernel
theorem dX11_ladderOf_5 : decode cX11_ladderOf 5 = .ok (.aload_n 0, 1) := by decide +kernel
theorem dX11_ladderOf_6 : decode cX11_ladderOf 6 = .ok (.iload_n 1, 1) := by decide +kernel
theorem dX11_ladderOf_7 : decode cX11_ladderOf 7 = .ok (.invokevirtual 49, 3) := by decide +kernel
theorem dX11_ladderOf_10 : decode cX11_ladderOf 10 = .ok (.ifCond .eq 7, 3) := by decide +kernel
theorem dX11_ladderOf_13 : decode cX11_ladderOf 13 = .ok (.iconst 0, 1) := by decide +kernel
theorem dX11_ladderOf_14 : decode cX11_ladderOf 14 = .ok (.goto 4, 3) := by decide +kernel
theorem dX11_ladderOf_17 : decode cX11_ladderOf 17 = .ok (.iconst 1, 1) := by decide +kernel
theorem dX11_ladderOf_18 : decode cX11_ladderOf 18 = .ok (.invokevirtual 112, 3) := by decide +kernel
theorem dX11_ladderOf_21 : decode cX11_ladderOf 21 = .ok (.ifCond .eq 12, 3) := by decide +kernel
theorem dX11_ladderOf_24 : decode cX11_ladderOf 24 = .ok (.aload_n 0, 1) := by decide +kernel
theorem dX11_ladderOf_25 : decode cX11_ladderOf 25 = .ok (.getfield 29, 3) := by decide +kernel
theorem dX11_ladderOf_28 : decode cX11_ladderOf 28 = .ok (.iload_n 1, 1) := by decide +kernel
theorem dX11_ladderOf_29 : decode cX11_ladderOf 29 = .ok (.iaload, 1) := by decide +kernel
theorem dX11_ladderOf_30 : decode cX11_ladderOf 30 = .ok (.goto 4, 3) := by decide +kernel
theorem dX11_ladderOf_33 : decode cX11_ladderOf 33 = .ok (.iconst 0, 1) := by decide +kernel
theorem dX11_ladderOf_34 : decode cX11_ladderOf 34 = .ok (.ireturn, 1) := by decide +kernel
set_option maxRecDepth 20000 in
theorem ggX11_laddersOf_X11_climb : GoodIn wsX11_laddersOf wsX11_climb := goodIn_r _ [6, 7, 8, 1, 9, 10, 11, 5, 12, 13, 14, 15, 16, 17, 18, 19, 20, 33, 34, 35, 36, 37, 38, 39, 40, 41, 42, 43, 44, 45, 46, 47, 48, 49, 50, 51, 52, 53, 54, 55, 56] (by decide +kernel) (by decide +kernel)
set_option maxRecDepth 20000 in
theorem gX11_laddersOf_X11_climb : GoodIn wsX11_laddersOf (wsV RX11 203 RX11 yX11_climb wsX11_climb) := goodIn_app (goodIn_of _ (by decide +kernel)) ggX11_laddersOf_X11_climb
set_option maxRecDepth 20000 in
theorem ggX11_laddersOf_X11_isPamphlet : GoodIn wsX11_laddersOf wsX11_isPamphlet := goodIn_r _ [24, 7, 25, 26, 5, 27, 33, 34, 35, 36, 37, 38, 39, 40, 41, 42, 43, 44, 45, 46, 47, 48, 49, 50, 51, 52, 53, 54, 55, 56] (by decide +kernel) (by decide +kernel)
set_option maxRecDepth 20000 in
theorem gX11_laddersOf_X11_isPamphlet : GoodIn wsX11_laddersOf (wsV RX11 49 RX11 yX11_isPamphlet wsX11_isPamphlet) := goodIn_app (goodIn_of _ (by decide +kernel)) ggX11_laddersOf_X11_isPamphlet
set_option maxRecDepth 20000 in
theorem ggX11_laddersOf_X11_holds : GoodIn wsX11_laddersOf wsX11_holds := goodIn_r _ [31, 32, 33, 34, 35, 36, 37, 38, 39, 40, 41, 42, 43, 44, 45, 46, 47, 48, 49, 50, 51, 52, 53, 54, 55, 56] (by decide +kernel) (by decide +kernel)
set_option maxRecDepth 20000 in
theorem gX11_laddersOf_X11_holds : GoodIn wsX11_laddersOf (wsV RX11 112 RX11 yX11_holds wsX11_holds) := goodIn_app (goodIn_of _ (by decide +kernel)) ggX11_laddersOf_X11_holds
theorem dX11_laddersOf_0 : decode cX11_laddersOf 0 = .ok (.aload_n 0, 1) := by decide +kernel
theorem dX11_laddersOf_1 : decode cX11_laddersOf 1 = .ok (.invokevirtual 203, 3) := by decide +kernel
theorem dX11_laddersOf_4 : decode cX11_laddersOf 4 = .ok (.aload_n 0, 1) := by decide +kernel
theorem dX11_laddersOf_5 : decode cX11_laddersOf 5 = .ok (.aload_n 0, 1) := by decide +kernel
theorem dX11_laddersOf_6 : decode cX11_laddersOf 6 = .ok (.iload_n 1, 1) := by decide +kernel
theorem dX11_laddersOf_7 : decode cX11_laddersOf 7 = .ok (.invokevirtual 49, 3) := by decide +kernel
theorem dX11_laddersOf_10 : decode cX11_laddersOf 10 = .ok (.ifCond .eq 7, 3) := by decide +kernel
theorem dX11_laddersOf_13 : decode cX11_laddersOf 13 = .ok (.iconst 0, 1) := by decide +kernel
theorem dX11_laddersOf_14 : decode cX11_laddersOf 14 = .ok (.goto 4, 3) := by decide +kernel
theorem dX11_laddersOf_17 : decode cX11_laddersOf 17 = .ok (.iconst 1, 1) := by decide +kernel
theorem dX11_laddersOf_18 : decode cX11_laddersOf 18 = .ok (.invokevirtual 112, 3) := by decide +kernel
theorem dX11_laddersOf_21 : decode cX11_laddersOf 21 = .ok (.ifCond .eq 12, 3) := by decide +kernel
theorem dX11_laddersOf_24 : decode cX11_laddersOf 24 = .ok (.aload_n 0, 1) := by decide +kernel
theorem dX11_laddersOf_25 : decode cX11_laddersOf 25 = .ok (.getfield 32, 3) := by decide +kernel
theorem dX11_laddersOf_28 : decode cX11_laddersOf 28 = .ok (.iload_n 1, 1) := by decide +kernel
theorem dX11_laddersOf_29 : decode cX11_laddersOf 29 = .ok (.iaload, 1) := by decide +kernel
theorem dX11_laddersOf_30 : decode cX11_laddersOf 30 = .ok (.goto 4, 3) := by decide +kernel
theorem dX11_laddersOf_33 : decode cX11_laddersOf 33 = .ok (.iconst 0, 1) := by decide +kernel
theorem dX11_laddersOf_34 : decode cX11_laddersOf 34 = .ok (.ireturn, 1) := by decide +kernel
set_option maxRecDepth 20000 in
theorem ggX11_reading_X11_get : GoodIn wsX11_reading wsX11_get := goodIn_r _ [5, 6, 11, 12, 13, 14, 15, 16, 17, 18, 19, 20, 21, 22, 23, 24, 25, 26, 27, 28, 29, 30, 31, 32, 33, 34] (by decide +kernel) (by decide +kernel)
set_option maxRecDepth 20000 in
theorem gX11_reading_X11_get : GoodIn wsX11_reading (wsV RX11 53 RX11 yX11_get wsX11_get) := goodIn_app (goodIn_of _ (by decide +kernel)) ggX11_reading_X11_get
set_option maxRecDepth 20000 in
theorem ggX11_reading_X11_source : GoodIn wsX11_reading wsX11_source := goodIn_r _ [10, 1, 2, 3, 4, 5, 6, 11, 12, 13, 14, 15, 16, 17, 18, 19, 20, 21, 22, 23, 24, 25, 26, 27, 28, 29, 30, 31, 32, 33, 34] (by decide +kernel) (by decide +kernel)
set_option maxRecDepth 20000 in
theorem gX11_reading_X11_source : GoodIn wsX11_reading (wsV RX11 140 RX11 yX11_source wsX11_source) := goodIn_app (goodIn_of _ (by decide +kernel)) ggX11_reading_X11_source
theorem dX11_reading_0 : decode cX11_reading 0 = .ok (.iconst 1, 1) := by decide +kernel
theorem dX11_reading_1 : decode cX11_reading 1 = .ok (.iload_n 1, 1) := by decide +kernel
theorem dX11_reading_2 : decode cX11_reading 2 = .ok (.ishl, 1) := by decide +kernel
theorem dX11_reading_3 : decode cX11_reading 3 = .ok (.istore_n 2, 1) := by decide +kernel
theorem dX11_reading_4 : decode cX11_reading 4 = .ok (.iload_n 1, 1) := by decide +kernel
theorem dX11_reading_5 : decode cX11_reading 5 = .ok (.istore_n 3, 1) := by decide +kernel
theorem dX11_reading_6 : decode cX11_reading 6 = .ok (.iload_n 3, 1) := by decide +kernel
theorem dX11_reading_7 : decode cX11_reading 7 = .ok (.ifCond .le 50, 3) := by decide +kernel
theorem dX11_reading_10 : decode cX11_reading 10 = .ok (.iconst 0, 1) := by decide +kernel
theorem dX11_reading_11 : decode cX11_reading 11 = .ok (.istore 4, 2) := by decide +kernel
theorem dX11_reading_13 : decode cX11_reading 13 = .ok (.iload 4, 2) := by decide +kernel
theorem dX11_reading_15 : decode cX11_reading 15 = .ok (.aload_n 0, 1) := by decide +kernel
theorem dX11_reading_16 : decode cX11_reading 16 = .ok (.iload_n 3, 1) := by decide +kernel
theorem dX11_reading_17 : decode cX11_reading 17 = .ok (.iconst 5, 1) := by decide +kernel
theorem dX11_reading_18 : decode cX11_reading 18 = .ok (.invokevirtual 53, 3) := by decide +kernel
theorem dX11_reading_21 : decode cX11_reading 21 = .ok (.if_icmp .ge 30, 3) := by decide +kernel
theorem dX11_reading_24 : decode cX11_reading 24 = .ok (.iload_n 2, 1) := by decide +kernel
theorem dX11_reading_25 : decode cX11_reading 25 = .ok (.iload_n 3, 1) := by decide +kernel
theorem dX11_reading_26 : decode cX11_reading 26 = .ok (.ishr, 1) := by decide +kernel
theorem dX11_reading_27 : decode cX11_reading 27 = .ok (.iconst 1, 1) := by decide +kernel
theorem dX11_reading_28 : decode cX11_reading 28 = .ok (.iand, 1) := by decide +kernel
theorem dX11_reading_29 : decode cX11_reading 29 = .ok (.iconst 1, 1) := by decide +kernel
theorem dX11_reading_30 : decode cX11_reading 30 = .ok (.if_icmp .ne 21, 3) := by decide +kernel
theorem dX11_reading_33 : decode cX11_reading 33 = .ok (.iload_n 2, 1) := by decide +kernel
theorem dX11_reading_34 : decode cX11_reading 34 = .ok (.iconst 1, 1) := by decide +kernel
theorem dX11_reading_35 : decode cX11_reading 35 = .ok (.aload_n 0, 1) := by decide +kernel
theorem dX11_reading_36 : decode cX11_reading 36 = .ok (.iload_n 3, 1) := by decide +kernel
theorem dX11_reading_37 : decode cX11_reading 37 = .ok (.iload 4, 2) := by decide +kernel
theorem dX11_reading_39 : decode cX11_reading 39 = .ok (.invokevirtual 140, 3) := by decide +kernel
theorem dX11_reading_42 : decode cX11_reading 42 = .ok (.ishl, 1) := by decide +kernel
theorem dX11_reading_43 : decode cX11_reading 43 = .ok (.ior, 1) := by decide +kernel
theorem dX11_reading_44 : decode cX11_reading 44 = .ok (.istore_n 2, 1) := by decide +kernel
theorem dX11_reading_45 : decode cX11_reading 45 = .ok (.iinc 4 1, 3) := by decide +kernel
theorem dX11_reading_48 : decode cX11_reading 48 = .ok (.goto (-35), 3) := by decide +kernel
theorem dX11_reading_51 : decode cX11_reading 51 = .ok (.iinc 3 (-1), 3) := by decide +kernel
theorem dX11_reading_54 : decode cX11_reading 54 = .ok (.goto (-48), 3) := by decide +kernel
theorem dX11_reading_57 : decode cX11_reading 57 = .ok (.iload_n 2, 1) := by decide +kernel
theorem dX11_reading_58 : decode cX11_reading 58 = .ok (.ireturn, 1) := by decide +kernel
theorem dX11_many_0 : decode cX11_many 0 = .ok (.iconst 0, 1) := by decide +kernel
theorem dX11_many_1 : decode cX11_many 1 = .ok (.istore_n 1, 1) := by decide +kernel
theorem dX11_many_2 : decode cX11_many 2 = .ok (.iconst 0, 1) := by decide +kernel
theorem dX11_many_3 : decode cX11_many 3 = .ok (.istore_n 2, 1) := by decide +kernel
theorem dX11_many_4 : decode cX11_many 4 = .ok (.iload_n 2, 1) := by decide +kernel
theorem dX11_many_5 : decode cX11_many 5 = .ok (.bipush 20, 2) := by decide +kernel
theorem dX11_many_7 : decode cX11_many 7 = .ok (.if_icmp .ge 17, 3) := by decide +kernel
theorem dX11_many_10 : decode cX11_many 10 = .ok (.iload_n 1, 1) := by decide +kernel
theorem dX11_many_11 : decode cX11_many 11 = .ok (.iload_n 0, 1) := by decide +kernel
theorem dX11_many_12 : decode cX11_many 12 = .ok (.iload_n 2, 1) := by decide +kernel
theorem dX11_many_13 : decode cX11_many 13 = .ok (.ishr, 1) := by decide +kernel
theorem dX11_many_14 : decode cX11_many 14 = .ok (.iconst 1, 1) := by decide +kernel
theorem dX11_many_15 : decode cX11_many 15 = .ok (.iand, 1) := by decide +kernel
theorem dX11_many_16 : decode cX11_many 16 = .ok (.iadd, 1) := by decide +kernel
theorem dX11_many_17 : decode cX11_many 17 = .ok (.istore_n 1, 1) := by decide +kernel
theorem dX11_many_18 : decode cX11_many 18 = .ok (.iinc 2 1, 3) := by decide +kernel
theorem dX11_many_21 : decode cX11_many 21 = .ok (.goto (-17), 3) := by decide +kernel
theorem dX11_many_24 : decode cX11_many 24 = .ok (.iload_n 1, 1) := by decide +kernel
theorem dX11_many_25 : decode cX11_many 25 = .ok (.ireturn, 1) := by decide +kernel
set_option maxRecDepth 20000 in
theorem ggX11_readingOf_X11_isPamphlet : GoodIn wsX11_readingOf wsX11_isPamphlet := goodIn_r _ [5, 6, 7, 8, 4, 9, 30, 31, 32, 33, 34, 35, 36, 37, 38, 39, 40, 41, 42, 43, 44, 45, 46, 47, 48, 49, 50, 51, 52, 53] (by decide +kernel) (by decide +kernel)
set_option maxRecDepth 20000 in
theorem gX11_readingOf_X11_isPamphlet : GoodIn wsX11_readingOf (wsV RX11 49 RX11 yX11_isPamphlet wsX11_isPamphlet) := goodIn_app (goodIn_of _ (by decide +kernel)) ggX11_readingOf_X11_isPamphlet
set_option maxRecDepth 20000 in
theorem ggX11_readingOf_X11_holds : GoodIn wsX11_readingOf wsX11_holds := goodIn_r _ [13, 14, 30, 31, 32, 33, 34, 35, 36, 37, 38, 39, 40, 41, 42, 43, 44, 45, 46, 47, 48, 49, 50, 51, 52, 53] (by decide +kernel) (by decide +kernel)
set_option maxRecDepth 20000 in
theorem gX11_readingOf_X11_holds : GoodIn wsX11_readingOf (wsV RX11 112 RX11 yX11_holds wsX11_holds) := goodIn_app (goodIn_of _ (by decide +kernel)) ggX11_readingOf_X11_holds
set_option maxRecDepth 20000 in
theorem ggX11_readingOf_X11_reading : GoodIn wsX11_readingOf wsX11_reading := goodIn_r _ [18, 19, 20, 21, 4, 22, 6, 23, 24, 25, 26, 30, 31, 32, 33, 34, 35, 36, 37, 38, 39, 40, 41, 42, 43, 44, 45, 46, 47, 48, 49, 50, 51, 52, 53] (by decide +kernel) (by decide +kernel)
set_option maxRecDepth 20000 in
theorem gX11_readingOf_X11_reading : GoodIn wsX11_readingOf (wsV RX11 206 RX11 yX11_reading wsX11_reading) := goodIn_app (goodIn_of _ (by decide +kernel)) ggX11_readingOf_X11_reading
set_option maxRecDepth 20000 in
theorem ggX11_readingOf_X11_many : GoodIn wsX11_readingOf wsX11_many := goodIn_r _ [29] (by decide +kernel) (by decide +kernel)
set_option maxRecDepth 20000 in
theorem gX11_readingOf_X11_many : GoodIn wsX11_readingOf (va_wsS RX11 209 yX11_many wsX11_many) := goodIn_app (goodIn_of _ (by decide +kernel)) ggX11_readingOf_X11_many
theorem dX11_readingOf_0 : decode cX11_readingOf 0 = .ok (.aload_n 0, 1) := by decide +kernel
theorem dX11_readingOf_1 : decode cX11_readingOf 1 = .ok (.aload_n 0, 1) := by decide +kernel
theorem dX11_readingOf_2 : decode cX11_readingOf 2 = .ok (.iload_n 1, 1) := by decide +kernel
theorem dX11_readingOf_3 : decode cX11_readingOf 3 = .ok (.invokevirtual 49, 3) := by decide +kernel
theorem dX11_readingOf_6 : decode cX11_readingOf 6 = .ok (.ifCond .eq 7, 3) := by decide +kernel
theorem dX11_readingOf_9 : decode cX11_readingOf 9 = .ok (.iconst 0, 1) := by decide +kernel
theorem dX11_readingOf_10 : decode cX11_readingOf 10 = .ok (.goto 4, 3) := by decide +kernel
theorem dX11_readingOf_13 : decode cX11_readingOf 13 = .ok (.iconst 1, 1) := by decide +kernel
theorem dX11_readingOf_14 : decode cX11_readingOf 14 = .ok (.invokevirtual 112, 3) := by decide +kernel
theorem dX11_readingOf_17 : decode cX11_readingOf 17 = .ok (.ifCond .eq 14, 3) := by decide +kernel
theorem dX11_readingOf_20 : decode cX11_readingOf 20 = .ok (.aload_n 0, 1) := by decide +kernel
theorem dX11_readingOf_21 : decode cX11_readingOf 21 = .ok (.iload_n 1, 1) := by decide +kernel
theorem dX11_readingOf_22 : decode cX11_readingOf 22 = .ok (.invokevirtual 206, 3) := by decide +kernel
theorem dX11_readingOf_25 : decode cX11_readingOf 25 = .ok (.invokestatic 209, 3) := by decide +kernel
theorem dX11_readingOf_28 : decode cX11_readingOf 28 = .ok (.goto 4, 3) := by decide +kernel
theorem dX11_readingOf_31 : decode cX11_readingOf 31 = .ok (.iconst 0, 1) := by decide +kernel
theorem dX11_readingOf_32 : decode cX11_readingOf 32 = .ok (.ireturn, 1) := by decide +kernel
set_option maxRecDepth 20000 in
theorem ggX11_readAt_X11_isPamphlet : GoodIn wsX11_readAt wsX11_isPamphlet := goodIn_r _ [5, 6, 7, 8, 4, 9, 30, 31, 32, 33, 34, 35, 36, 37, 38, 39, 40, 41, 42, 43, 44, 45, 46, 47, 48, 49, 50, 51, 52, 53] (by decide +kernel) (by decide +kernel)
set_option maxRecDepth 20000 in
theorem gX11_readAt_X11_isPamphlet : GoodIn wsX11_readAt (wsV RX11 49 RX11 yX11_isPamphlet wsX11_isPamphlet) := goodIn_app (goodIn_of _ (by decide +kernel)) ggX11_readAt_X11_isPamphlet
set_option maxRecDepth 20000 in
theorem ggX11_readAt_X11_reading : GoodIn wsX11_readAt wsX11_reading := goodIn_r _ [13, 14, 15, 16, 4, 17, 6, 18, 19, 20, 21, 30, 31, 32, 33, 34, 35, 36, 37, 38, 39, 40, 41, 42, 43, 44, 45, 46, 47, 48, 49, 50, 51, 52, 53] (by decide +kernel) (by decide +kernel)
set_option maxRecDepth 20000 in
theorem gX11_readAt_X11_reading : GoodIn wsX11_readAt (wsV RX11 206 RX11 yX11_reading wsX11_reading) := goodIn_app (goodIn_of _ (by decide +kernel)) ggX11_readAt_X11_reading
set_option maxRecDepth 20000 in
theorem ggX11_readAt_X11_many : GoodIn wsX11_readAt wsX11_many := goodIn_r _ [24] (by decide +kernel) (by decide +kernel)
set_option maxRecDepth 20000 in
theorem gX11_readAt_X11_many : GoodIn wsX11_readAt (va_wsS RX11 209 yX11_many wsX11_many) := goodIn_app (goodIn_of _ (by decide +kernel)) ggX11_readAt_X11_many
set_option maxRecDepth 20000 in
theorem ggX11_readAt_X11_in : GoodIn wsX11_readAt wsX11_in := goodIn_r _ [9] (by decide +kernel) (by decide +kernel)
set_option maxRecDepth 20000 in
theorem gX11_readAt_X11_in : GoodIn wsX11_readAt (va_wsS RX11 45 yX11_in wsX11_in) := goodIn_app (goodIn_of _ (by decide +kernel)) ggX11_readAt_X11_in
set_option maxRecDepth 20000 in
theorem ggX11_readAt_X11_holds : GoodIn wsX11_readAt wsX11_holds := goodIn_r _ [28, 29, 30, 31, 32, 33, 34, 35, 36, 37, 38, 39, 40, 41, 42, 43, 44, 45, 46, 47, 48, 49, 50, 51, 52, 53] (by decide +kernel) (by decide +kernel)
set_option maxRecDepth 20000 in
theorem gX11_readAt_X11_holds : GoodIn wsX11_readAt (wsV RX11 112 RX11 yX11_holds wsX11_holds) := goodIn_app (goodIn_of _ (by decide +kernel)) ggX11_readAt_X11_holds
theorem dX11_readAt_0 : decode cX11_readAt 0 = .ok (.aload_n 0, 1) := by decide +kernel
theorem dX11_readAt_1 : decode cX11_readAt 1 = .ok (.aload_n 0, 1) := by decide +kernel
theorem dX11_readAt_2 : decode cX11_readAt 2 = .ok (.iload_n 1, 1) := by decide +kernel
theorem dX11_readAt_3 : decode cX11_readAt 3 = .ok (.invokevirtual 49, 3) := by decide +kernel
theorem dX11_readAt_6 : decode cX11_readAt 6 = .ok (.ifCond .eq 25, 3) := by decide +kernel
theorem dX11_readAt_9 : decode cX11_readAt 9 = .ok (.iload_n 2, 1) := by decide +kernel
theorem dX11_readAt_10 : decode cX11_readAt 10 = .ok (.iconst 0, 1) := by decide +kernel
theorem dX11_readAt_11 : decode cX11_readAt 11 = .ok (.aload_n 0, 1) := by decide +kernel
theorem dX11_readAt_12 : decode cX11_readAt 12 = .ok (.iload_n 1, 1) := by decide +kernel
theorem dX11_readAt_13 : decode cX11_readAt 13 = .ok (.invokevirtual 206, 3) := by decide +kernel
theorem dX11_readAt_16 : decode cX11_readAt 16 = .ok (.invokestatic 209, 3) := by decide +kernel
theorem dX11_readAt_19 : decode cX11_readAt 19 = .ok (.iconst 1, 1) := by decide +kernel
theorem dX11_readAt_20 : decode cX11_readAt 20 = .ok (.isub, 1) := by decide +kernel
theorem dX11_readAt_21 : decode cX11_readAt 21 = .ok (.invokestatic 45, 3) := by decide +kernel
theorem dX11_readAt_24 : decode cX11_readAt 24 = .ok (.ifCond .eq 7, 3) := by decide +kernel
theorem dX11_readAt_27 : decode cX11_readAt 27 = .ok (.iconst 0, 1) := by decide +kernel
theorem dX11_readAt_28 : decode cX11_readAt 28 = .ok (.goto 4, 3) := by decide +kernel
theorem dX11_readAt_31 : decode cX11_readAt 31 = .ok (.iconst 1, 1) := by decide +kernel
theorem dX11_readAt_32 : decode cX11_readAt 32 = .ok (.invokevirtual 112, 3) := by decide +kernel
theorem dX11_readAt_35 : decode cX11_readAt 35 = .ok (.ifCond .ne 5, 3) := by decide +kernel
theorem dX11_readAt_38 : decode cX11_readAt 38 = .ok (.iconst 0, 1) := by decide +kernel
theorem dX11_readAt_39 : decode cX11_readAt 39 = .ok (.ireturn, 1) := by decide +kernel
theorem dX11_readAt_40 : decode cX11_readAt 40 = .ok (.aload_n 0, 1) := by decide +kernel
theorem dX11_readAt_41 : decode cX11_readAt 41 = .ok (.iload_n 1, 1) := by decide +kernel
theorem dX11_readAt_42 : decode cX11_readAt 42 = .ok (.invokevirtual 206, 3) := by decide +kernel
theorem dX11_readAt_45 : decode cX11_readAt 45 = .ok (.istore_n 3, 1) := by decide +kernel
theorem dX11_readAt_46 : decode cX11_readAt 46 = .ok (.iconst (-1), 1) := by decide +kernel
theorem dX11_readAt_47 : decode cX11_readAt 47 = .ok (.istore 4, 2) := by decide +kernel
theorem dX11_readAt_49 : decode cX11_readAt 49 = .ok (.iconst 0, 1) := by decide +kernel
theorem dX11_readAt_50 : decode cX11_readAt 50 = .ok (.istore 5, 2) := by decide +kernel
theorem dX11_readAt_52 : decode cX11_readAt 52 = .ok (.iload 5, 2) := by decide +kernel
theorem dX11_readAt_54 : decode cX11_readAt 54 = .ok (.iload_n 2, 1) := by decide +kernel
theorem dX11_readAt_55 : decode cX11_readAt 55 = .ok (.if_icmp .gt 27, 3) := by decide +kernel
theorem dX11_readAt_58 : decode cX11_readAt 58 = .ok (.iinc 4 1, 3) := by decide +kernel
theorem dX11_readAt_61 : decode cX11_readAt 61 = .ok (.iload_n 3, 1) := by decide +kernel
theorem dX11_readAt_62 : decode cX11_readAt 62 = .ok (.iload 4, 2) := by decide +kernel
theorem dX11_readAt_64 : decode cX11_readAt 64 = .ok (.ishr, 1) := by decide +kernel
theorem dX11_readAt_65 : decode cX11_readAt 65 = .ok (.iconst 1, 1) := by decide +kernel
theorem dX11_readAt_66 : decode cX11_readAt 66 = .ok (.iand, 1) := by decide +kernel
theorem dX11_readAt_67 : decode cX11_readAt 67 = .ok (.ifCond .ne 9, 3) := by decide +kernel
theorem dX11_readAt_70 : decode cX11_readAt 70 = .ok (.iinc 4 1, 3) := by decide +kernel
theorem dX11_readAt_73 : decode cX11_readAt 73 = .ok (.goto (-12), 3) := by decide +kernel
theorem dX11_readAt_76 : decode cX11_readAt 76 = .ok (.iinc 5 1, 3) := by decide +kernel
theorem dX11_readAt_79 : decode cX11_readAt 79 = .ok (.goto (-27), 3) := by decide +kernel
theorem dX11_readAt_82 : decode cX11_readAt 82 = .ok (.iload 4, 2) := by decide +kernel
theorem dX11_readAt_84 : decode cX11_readAt 84 = .ok (.ireturn, 1) := by decide +kernel
theorem dX11_count_0 : decode cX11_count 0 = .ok (.iconst 0, 1) := by decide +kernel
theorem dX11_count_1 : decode cX11_count 1 = .ok (.istore_n 3, 1) := by decide +kernel
theorem dX11_count_2 : decode cX11_count 2 = .ok (.iload_n 3, 1) := by decide +kernel
theorem dX11_count_3 : decode cX11_count 3 = .ok (.aload_n 0, 1) := by decide +kernel
theorem dX11_count_4 : decode cX11_count 4 = .ok (.getfield 212, 3) := by decide +kernel
theorem dX11_count_7 : decode cX11_count 7 = .ok (.if_icmp .ge 20, 3) := by decide +kernel
theorem dX11_count_10 : decode cX11_count 10 = .ok (.aload_n 0, 1) := by decide +kernel
theorem dX11_count_11 : decode cX11_count 11 = .ok (.getfield 35, 3) := by decide +kernel
theorem dX11_count_14 : decode cX11_count 14 = .ok (.iload_n 3, 1) := by decide +kernel
theorem dX11_count_15 : decode cX11_count 15 = .ok (.laload, 1) := by decide +kernel
theorem dX11_count_16 : decode cX11_count 16 = .ok (.lload_n 1, 1) := by decide +kernel
theorem dX11_count_17 : decode cX11_count 17 = .ok (.lcmp, 1) := by decide +kernel
theorem dX11_count_18 : decode cX11_count 18 = .ok (.ifCond .eq 9, 3) := by decide +kernel
theorem dX11_count_21 : decode cX11_count 21 = .ok (.iinc 3 1, 3) := by decide +kernel
theorem dX11_count_24 : decode cX11_count 24 = .ok (.goto (-22), 3) := by decide +kernel
theorem dX11_count_27 : decode cX11_count 27 = .ok (.iload_n 3, 1) := by decide +kernel
theorem dX11_count_28 : decode cX11_count 28 = .ok (.aload_n 0, 1) := by decide +kernel
theorem dX11_count_29 : decode cX11_count 29 = .ok (.getfield 212, 3) := by decide +kernel
theorem dX11_count_32 : decode cX11_count 32 = .ok (.if_icmp .ne 27, 3) := by decide +kernel
theorem dX11_count_35 : decode cX11_count 35 = .ok (.aload_n 0, 1) := by decide +kernel
theorem dX11_count_36 : decode cX11_count 36 = .ok (.getfield 35, 3) := by decide +kernel
theorem dX11_count_39 : decode cX11_count 39 = .ok (.iload_n 3, 1) := by decide +kernel
theorem dX11_count_40 : decode cX11_count 40 = .ok (.lload_n 1, 1) := by decide +kernel
theorem dX11_count_41 : decode cX11_count 41 = .ok (.lastore, 1) := by decide +kernel
theorem dX11_count_42 : decode cX11_count 42 = .ok (.aload_n 0, 1) := by decide +kernel
theorem dX11_count_43 : decode cX11_count 43 = .ok (.getfield 38, 3) := by decide +kernel
theorem dX11_count_46 : decode cX11_count 46 = .ok (.iload_n 3, 1) := by decide +kernel
theorem dX11_count_47 : decode cX11_count 47 = .ok (.iconst 0, 1) := by decide +kernel
theorem dX11_count_48 : decode cX11_count 48 = .ok (.iastore, 1) := by decide +kernel
theorem dX11_count_49 : decode cX11_count 49 = .ok (.aload_n 0, 1) := by decide +kernel
theorem dX11_count_50 : decode cX11_count 50 = .ok (.dup, 1) := by decide +kernel
theorem dX11_count_51 : decode cX11_count 51 = .ok (.getfield 212, 3) := by decide +kernel
theorem dX11_count_54 : decode cX11_count 54 = .ok (.iconst 1, 1) := by decide +kernel
theorem dX11_count_55 : decode cX11_count 55 = .ok (.iadd, 1) := by decide +kernel
theorem dX11_count_56 : decode cX11_count 56 = .ok (.putfield 212, 3) := by decide +kernel
theorem dX11_count_59 : decode cX11_count 59 = .ok (.aload_n 0, 1) := by decide +kernel
theorem dX11_count_60 : decode cX11_count 60 = .ok (.getfield 38, 3) := by decide +kernel
theorem dX11_count_63 : decode cX11_count 63 = .ok (.iload_n 3, 1) := by decide +kernel
theorem dX11_count_64 : decode cX11_count 64 = .ok (.dup2, 1) := by decide +kernel
theorem dX11_count_65 : decode cX11_count 65 = .ok (.iaload, 1) := by decide +kernel
theorem dX11_count_66 : decode cX11_count 66 = .ok (.iconst 1, 1) := by decide +kernel
theorem dX11_count_67 : decode cX11_count 67 = .ok (.iadd, 1) := by decide +kernel
theorem dX11_count_68 : decode cX11_count 68 = .ok (.iastore, 1) := by decide +kernel
theorem dX11_count_69 : decode cX11_count 69 = .ok (.return_, 1) := by decide +kernel
theorem dX11_isAhead_0 : decode cX11_isAhead 0 = .ok (.iload_n 0, 1) := by decide +kernel
theorem dX11_isAhead_1 : decode cX11_isAhead 1 = .ok (.iload_n 3, 1) := by decide +kernel
theorem dX11_isAhead_2 : decode cX11_isAhead 2 = .ok (.if_icmp .gt 15, 3) := by decide +kernel
theorem dX11_isAhead_5 : decode cX11_isAhead 5 = .ok (.iload_n 0, 1) := by decide +kernel
theorem dX11_isAhead_6 : decode cX11_isAhead 6 = .ok (.iload_n 3, 1) := by decide +kernel
theorem dX11_isAhead_7 : decode cX11_isAhead 7 = .ok (.if_icmp .ne 14, 3) := by decide +kernel
theorem dX11_isAhead_10 : decode cX11_isAhead 10 = .ok (.lload_n 1, 1) := by decide +kernel
theorem dX11_isAhead_11 : decode cX11_isAhead 11 = .ok (.lload 4, 2) := by decide +kernel
theorem dX11_isAhead_13 : decode cX11_isAhead 13 = .ok (.lcmp, 1) := by decide +kernel
theorem dX11_isAhead_14 : decode cX11_isAhead 14 = .ok (.ifCond .ge 7, 3) := by decide +kernel
theorem dX11_isAhead_17 : decode cX11_isAhead 17 = .ok (.iconst 1, 1) := by decide +kernel
theorem dX11_isAhead_18 : decode cX11_isAhead 18 = .ok (.goto 4, 3) := by decide +kernel
theorem dX11_isAhead_21 : decode cX11_isAhead 21 = .ok (.iconst 0, 1) := by decide +kernel
theorem dX11_isAhead_22 : decode cX11_isAhead 22 = .ok (.ireturn, 1) := by decide +kernel
set_option maxRecDepth 20000 in
theorem ggX11_gloss_X11_get : GoodIn wsX11_gloss wsX11_get := goodIn_r _ [9, 2, 22, 23, 24, 25, 26, 27, 28, 29, 30, 31, 32, 33, 34, 35, 36, 37, 38, 39, 40, 41, 42, 43, 44, 45] (by decide +kernel) (by decide +kernel)
set_option maxRecDepth 20000 in
theorem gX11_gloss_X11_get : GoodIn wsX11_gloss (wsV RX11 53 RX11 yX11_get wsX11_get) := goodIn_app (goodIn_of _ (by decide +kernel)) ggX11_gloss_X11_get
set_option maxRecDepth 20000 in
theorem ggX11_gloss_X11_word : GoodIn wsX11_gloss wsX11_word := goodIn_r _ [13, 14, 22, 23, 24, 25, 26, 27, 28, 29, 30, 31, 32, 33, 34, 35, 36, 37, 38, 39, 40, 41, 42, 43, 44, 45] (by decide +kernel) (by decide +kernel)
set_option maxRecDepth 20000 in
theorem gX11_gloss_X11_word : GoodIn wsX11_gloss (wsV RX11 121 RX11 yX11_word wsX11_word) := goodIn_app (goodIn_of _ (by decide +kernel)) ggX11_gloss_X11_word
set_option maxRecDepth 20000 in
theorem ggX11_gloss_X11_count : GoodIn wsX11_gloss wsX11_count := goodIn_r _ [18, 1, 3, 4, 22, 23, 24, 25, 26, 27, 28, 29, 30, 31, 32, 33, 34, 35, 36, 37, 38, 39, 40, 41, 42, 43, 44, 45] (by decide +kernel) (by decide +kernel)
set_option maxRecDepth 20000 in
theorem gX11_gloss_X11_count : GoodIn wsX11_gloss (wsV RX11 215 RX11 yX11_count wsX11_count) := goodIn_app (goodIn_of _ (by decide +kernel)) ggX11_gloss_X11_count
set_option maxRecDepth 20000 in
theorem ggX11_gloss_X11_isAhead : GoodIn wsX11_gloss wsX11_isAhead := goodIn_r _ [21] (by decide +kernel) (by decide +kernel)
set_option maxRecDepth 20000 in
theorem gX11_gloss_X11_isAhead : GoodIn wsX11_gloss (va_wsS RX11 219 yX11_isAhead wsX11_isAhead) := goodIn_app (goodIn_of _ (by decide +kernel)) ggX11_gloss_X11_isAhead
theorem dX11_gloss_0 : decode cX11_gloss 0 = .ok (.aload_n 0, 1) := by decide +kernel
theorem dX11_gloss_1 : decode cX11_gloss 1 = .ok (.iconst 0, 1) := by decide +kernel
theorem dX11_gloss_2 : decode cX11_gloss 2 = .ok (.putfield 212, 3) := by decide +kernel
theorem dX11_gloss_5 : decode cX11_gloss 5 = .ok (.iconst 0, 1) := by decide +kernel
theorem dX11_gloss_6 : decode cX11_gloss 6 = .ok (.istore_n 1, 1) := by decide +kernel
theorem dX11_gloss_7 : decode cX11_gloss 7 = .ok (.iload_n 1, 1) := by decide +kernel
theorem dX11_gloss_8 : decode cX11_gloss 8 = .ok (.aload_n 0, 1) := by decide +kernel
theorem dX11_gloss_9 : decode cX11_gloss 9 = .ok (.getfield 7, 3) := by decide +kernel
theorem dX11_gloss_12 : decode cX11_gloss 12 = .ok (.iconst 1, 1) := by decide +kernel
theorem dX11_gloss_13 : decode cX11_gloss 13 = .ok (.iaload, 1) := by decide +kernel
theorem dX11_gloss_14 : decode cX11_gloss 14 = .ok (.if_icmp .ge 37, 3) := by decide +kernel
theorem dX11_gloss_17 : decode cX11_gloss 17 = .ok (.iconst 0, 1) := by decide +kernel
theorem dX11_gloss_18 : decode cX11_gloss 18 = .ok (.istore_n 2, 1) := by decide +kernel
theorem dX11_gloss_19 : decode cX11_gloss 19 = .ok (.iload_n 2, 1) := by decide +kernel
theorem dX11_gloss_20 : decode cX11_gloss 20 = .ok (.aload_n 0, 1) := by decide +kernel
theorem dX11_gloss_21 : decode cX11_gloss 21 = .ok (.iload_n 1, 1) := by decide +kernel
theorem dX11_gloss_22 : decode cX11_gloss 22 = .ok (.iconst 4, 1) := by decide +kernel
theorem dX11_gloss_23 : decode cX11_gloss 23 = .ok (.invokevirtual 53, 3) := by decide +kernel
theorem dX11_gloss_26 : decode cX11_gloss 26 = .ok (.if_icmp .ge 19, 3) := by decide +kernel
theorem dX11_gloss_29 : decode cX11_gloss 29 = .ok (.aload_n 0, 1) := by decide +kernel
theorem dX11_gloss_30 : decode cX11_gloss 30 = .ok (.aload_n 0, 1) := by decide +kernel
theorem dX11_gloss_31 : decode cX11_gloss 31 = .ok (.iload_n 1, 1) := by decide +kernel
theorem dX11_gloss_32 : decode cX11_gloss 32 = .ok (.iload_n 2, 1) := by decide +kernel
theorem dX11_gloss_33 : decode cX11_gloss 33 = .ok (.invokevirtual 121, 3) := by decide +kernel
theorem dX11_gloss_36 : decode cX11_gloss 36 = .ok (.invokevirtual 215, 3) := by decide +kernel
theorem dX11_gloss_39 : decode cX11_gloss 39 = .ok (.iinc 2 1, 3) := by decide +kernel
theorem dX11_gloss_42 : decode cX11_gloss 42 = .ok (.goto (-23), 3) := by decide +kernel
theorem dX11_gloss_45 : decode cX11_gloss 45 = .ok (.iinc 1 1, 3) := by decide +kernel
theorem dX11_gloss_48 : decode cX11_gloss 48 = .ok (.goto (-41), 3) := by decide +kernel
theorem dX11_gloss_51 : decode cX11_gloss 51 = .ok (.iconst 1, 1) := by decide +kernel
theorem dX11_gloss_52 : decode cX11_gloss 52 = .ok (.istore_n 1, 1) := by decide +kernel
theorem dX11_gloss_53 : decode cX11_gloss 53 = .ok (.iload_n 1, 1) := by decide +kernel
theorem dX11_gloss_54 : decode cX11_gloss 54 = .ok (.aload_n 0, 1) := by decide +kernel
theorem dX11_gloss_55 : decode cX11_gloss 55 = .ok (.getfield 212, 3) := by decide +kernel
theorem dX11_gloss_58 : decode cX11_gloss 58 = .ok (.if_icmp .ge 114, 3) := by decide +kernel
theorem dX11_gloss_61 : decode cX11_gloss 61 = .ok (.aload_n 0, 1) := by decide +kernel
theorem dX11_gloss_62 : decode cX11_gloss 62 = .ok (.getfield 35, 3) := by decide +kernel
theorem dX11_gloss_65 : decode cX11_gloss 65 = .ok (.iload_n 1, 1) := by decide +kernel
theorem dX11_gloss_66 : decode cX11_gloss 66 = .ok (.laload, 1) := by decide +kernel
theorem dX11_gloss_67 : decode cX11_gloss 67 = .ok (.lstore_n 2, 1) := by decide +kernel
theorem dX11_gloss_68 : decode cX11_gloss 68 = .ok (.aload_n 0, 1) := by decide +kernel
theorem dX11_gloss_69 : decode cX11_gloss 69 = .ok (.getfield 38, 3) := by decide +kernel
theorem dX11_gloss_72 : decode cX11_gloss 72 = .ok (.iload_n 1, 1) := by decide +kernel
theorem dX11_gloss_73 : decode cX11_gloss 73 = .ok (.iaload, 1) := by decide +kernel
theorem dX11_gloss_74 : decode cX11_gloss 74 = .ok (.istore 4, 2) := by decide +kernel
theorem dX11_gloss_76 : decode cX11_gloss 76 = .ok (.iload_n 1, 1) := by decide +kernel
theorem dX11_gloss_77 : decode cX11_gloss 77 = .ok (.istore 5, 2) := by decide +kernel
theorem dX11_gloss_79 : decode cX11_gloss 79 = .ok (.iload 5, 2) := by decide +kernel
theorem dX11_gloss_81 : decode cX11_gloss 81 = .ok (.ifCond .le 68, 3) := by decide +kernel
theorem dX11_gloss_84 : decode cX11_gloss 84 = .ok (.iload 4, 2) := by decide +kernel
theorem dX11_gloss_86 : decode cX11_gloss 86 = .ok (.lload_n 2, 1) := by decide +kernel
theorem dX11_gloss_87 : decode cX11_gloss 87 = .ok (.aload_n 0, 1) := by decide +kernel
theorem dX11_gloss_88 : decode cX11_gloss 88 = .ok (.getfield 38, 3) := by decide +kernel
theorem dX11_gloss_91 : decode cX11_gloss 91 = .ok (.iload 5, 2) := by decide +kernel
theorem dX11_gloss_93 : decode cX11_gloss 93 = .ok (.iconst 1, 1) := by decide +kernel
theorem dX11_gloss_94 : decode cX11_gloss 94 = .ok (.isub, 1) := by decide +kernel
theorem dX11_gloss_95 : decode cX11_gloss 95 = .ok (.iaload, 1) := by decide +kernel
theorem dX11_gloss_96 : decode cX11_gloss 96 = .ok (.aload_n 0, 1) := by decide +kernel
theorem dX11_gloss_97 : decode cX11_gloss 97 = .ok (.getfield 35, 3) := by decide +kernel
theorem dX11_gloss_100 : decode cX11_gloss 100 = .ok (.iload 5, 2) := by decide +kernel
theorem dX11_gloss_102 : decode cX11_gloss 102 = .ok (.iconst 1, 1) := by decide +kernel
theorem dX11_gloss_103 : decode cX11_gloss 103 = .ok (.isub, 1) := by decide +kernel
theorem dX11_gloss_104 : decode cX11_gloss 104 = .ok (.laload, 1) := by decide +kernel
theorem dX11_gloss_105 : decode cX11_gloss 105 = .ok (.invokestatic 219, 3) := by decide +kernel
theorem dX11_gloss_108 : decode cX11_gloss 108 = .ok (.ifCond .eq 41, 3) := by decide +kernel
theorem dX11_gloss_111 : decode cX11_gloss 111 = .ok (.aload_n 0, 1) := by decide +kernel
theorem dX11_gloss_112 : decode cX11_gloss 112 = .ok (.getfield 35, 3) := by decide +kernel
theorem dX11_gloss_115 : decode cX11_gloss 115 = .ok (.iload 5, 2) := by decide +kernel
theorem dX11_gloss_117 : decode cX11_gloss 117 = .ok (.aload_n 0, 1) := by decide +kernel
theorem dX11_gloss_118 : decode cX11_gloss 118 = .ok (.getfield 35, 3) := by decide +kernel
theorem dX11_gloss_121 : decode cX11_gloss 121 = .ok (.iload 5, 2) := by decide +kernel
theorem dX11_gloss_123 : decode cX11_gloss 123 = .ok (.iconst 1, 1) := by decide +kernel
theorem dX11_gloss_124 : decode cX11_gloss 124 = .ok (.isub, 1) := by decide +kernel
theorem dX11_gloss_125 : decode cX11_gloss 125 = .ok (.laload, 1) := by decide +kernel
theorem dX11_gloss_126 : decode cX11_gloss 126 = .ok (.lastore, 1) := by decide +kernel
theorem dX11_gloss_127 : decode cX11_gloss 127 = .ok (.aload_n 0, 1) := by decide +kernel
theorem dX11_gloss_128 : decode cX11_gloss 128 = .ok (.getfield 38, 3) := by decide +kernel
theorem dX11_gloss_131 : decode cX11_gloss 131 = .ok (.iload 5, 2) := by decide +kernel
theorem dX11_gloss_133 : decode cX11_gloss 133 = .ok (.aload_n 0, 1) := by decide +kernel
theorem dX11_gloss_134 : decode cX11_gloss 134 = .ok (.getfield 38, 3) := by decide +kernel
theorem dX11_gloss_137 : decode cX11_gloss 137 = .ok (.iload 5, 2) := by decide +kernel
theorem dX11_gloss_139 : decode cX11_gloss 139 = .ok (.iconst 1, 1) := by decide +kernel
theorem dX11_gloss_140 : decode cX11_gloss 140 = .ok (.isub, 1) := by decide +kernel
theorem dX11_gloss_141 : decode cX11_gloss 141 = .ok (.iaload, 1) := by decide +kernel
theorem dX11_gloss_142 : decode cX11_gloss 142 = .ok (.iastore, 1) := by decide +kernel
theorem dX11_gloss_143 : decode cX11_gloss 143 = .ok (.iinc 5 (-1), 3) := by decide +kernel
theorem dX11_gloss_146 : decode cX11_gloss 146 = .ok (.goto (-67), 3) := by decide +kernel
theorem dX11_gloss_149 : decode cX11_gloss 149 = .ok (.aload_n 0, 1) := by decide +kernel
theorem dX11_gloss_150 : decode cX11_gloss 150 = .ok (.getfield 35, 3) := by decide +kernel
theorem dX11_gloss_153 : decode cX11_gloss 153 = .ok (.iload 5, 2) := by decide +kernel
theorem dX11_gloss_155 : decode cX11_gloss 155 = .ok (.lload_n 2, 1) := by decide +kernel
theorem dX11_gloss_156 : decode cX11_gloss 156 = .ok (.lastore, 1) := by decide +kernel
theorem dX11_gloss_157 : decode cX11_gloss 157 = .ok (.aload_n 0, 1) := by decide +kernel
theorem dX11_gloss_158 : decode cX11_gloss 158 = .ok (.getfield 38, 3) := by decide +kernel
theorem dX11_gloss_161 : decode cX11_gloss 161 = .ok (.iload 5, 2) := by decide +kernel
theorem dX11_gloss_163 : decode cX11_gloss 163 = .ok (.iload 4, 2) := by decide +kernel
theorem dX11_gloss_165 : decode cX11_gloss 165 = .ok (.iastore, 1) := by decide +kernel
theorem dX11_gloss_166 : decode cX11_gloss 166 = .ok (.iinc 1 1, 3) := by decide +kernel
theorem dX11_gloss_169 : decode cX11_gloss 169 = .ok (.goto (-116), 3) := by decide +kernel
theorem dX11_gloss_172 : decode cX11_gloss 172 = .ok (.return_, 1) := by decide +kernel
set_option maxRecDepth 20000 in
theorem ggX11_glossary_X11_gloss : GoodIn wsX11_glossary wsX11_gloss := goodIn_r _ [6, 1, 7, 8, 9, 10, 11, 12, 5, 13, 14, 15, 16, 17, 18, 19, 20, 21, 22, 23, 24, 25, 31, 32, 33, 34, 35, 36, 37, 38, 39, 40, 41, 42, 43, 44, 45, 46, 47, 48, 49, 50, 51, 52, 53, 54] (by decide +kernel) (by decide +kernel)
set_option maxRecDepth 20000 in
theorem gX11_glossary_X11_gloss : GoodIn wsX11_glossary (wsV RX11 223 RX11 yX11_gloss wsX11_gloss) := goodIn_app (goodIn_of _ (by decide +kernel)) ggX11_glossary_X11_gloss
set_option maxRecDepth 20000 in
theorem ggX11_glossary_X11_plain : GoodIn wsX11_glossary wsX11_plain := goodIn_r _ [29, 30, 31, 32, 33, 34, 35, 36, 37, 38, 39, 40, 41, 42, 43, 44, 45, 46, 47, 48, 49, 50, 51, 52, 53, 54] (by decide +kernel) (by decide +kernel)
set_option maxRecDepth 20000 in
theorem gX11_glossary_X11_plain : GoodIn wsX11_glossary (wsV RX11 105 RX11 yX11_plain wsX11_plain) := goodIn_app (goodIn_of _ (by decide +kernel)) ggX11_glossary_X11_plain
theorem dX11_glossary_0 : decode cX11_glossary 0 = .ok (.aload_n 0, 1) := by decide +kernel
theorem dX11_glossary_1 : decode cX11_glossary 1 = .ok (.invokevirtual 223, 3) := by decide +kernel
theorem dX11_glossary_4 : decode cX11_glossary 4 = .ok (.aload_n 0, 1) := by decide +kernel
theorem dX11_glossary_5 : decode cX11_glossary 5 = .ok (.aload_n 0, 1) := by decide +kernel
theorem dX11_glossary_6 : decode cX11_glossary 6 = .ok (.getfield 212, 3) := by decide +kernel
theorem dX11_glossary_9 : decode cX11_glossary 9 = .ok (.invokevirtual 105, 3) := by decide +kernel
theorem dX11_glossary_12 : decode cX11_glossary 12 = .ok (.ireturn, 1) := by decide +kernel
set_option maxRecDepth 20000 in
theorem ggX11_timesOf_X11_gloss : GoodIn wsX11_timesOf wsX11_gloss := goodIn_r _ [7, 1, 8, 9, 2, 10, 11, 12, 6, 13, 14, 15, 16, 17, 18, 19, 20, 21, 22, 23, 24, 25, 34, 35, 36, 37, 38, 39, 40, 41, 42, 43, 44, 45, 46, 47, 48, 49, 50, 51, 52, 53, 54, 55, 56, 57] (by decide +kernel) (by decide +kernel)
set_option maxRecDepth 20000 in
theorem gX11_timesOf_X11_gloss : GoodIn wsX11_timesOf (wsV RX11 223 RX11 yX11_gloss wsX11_gloss) := goodIn_app (goodIn_of _ (by decide +kernel)) ggX11_timesOf_X11_gloss
set_option maxRecDepth 20000 in
theorem ggX11_timesOf_X11_in : GoodIn wsX11_timesOf wsX11_in := goodIn_r _ [28] (by decide +kernel) (by decide +kernel)
set_option maxRecDepth 20000 in
theorem gX11_timesOf_X11_in : GoodIn wsX11_timesOf (va_wsS RX11 45 yX11_in wsX11_in) := goodIn_app (goodIn_of _ (by decide +kernel)) ggX11_timesOf_X11_in
set_option maxRecDepth 20000 in
theorem ggX11_timesOf_X11_holds : GoodIn wsX11_timesOf wsX11_holds := goodIn_r _ [32, 33, 34, 35, 36, 37, 38, 39, 40, 41, 42, 43, 44, 45, 46, 47, 48, 49, 50, 51, 52, 53, 54, 55, 56, 57] (by decide +kernel) (by decide +kernel)
set_option maxRecDepth 20000 in
theorem gX11_timesOf_X11_holds : GoodIn wsX11_timesOf (wsV RX11 112 RX11 yX11_holds wsX11_holds) := goodIn_app (goodIn_of _ (by decide +kernel)) ggX11_timesOf_X11_holds
theorem dX11_timesOf_0 : decode cX11_timesOf 0 = .ok (.aload_n 0, 1) := by decide +kernel
theorem dX11_timesOf_1 : decode cX11_timesOf 1 = .ok (.invokevirtual 223, 3) := by decide +kernel
theorem dX11_timesOf_4 : decode cX11_timesOf 4 = .ok (.aload_n 0, 1) := by decide +kernel
theorem dX11_timesOf_5 : decode cX11_timesOf 5 = .ok (.iload_n 1, 1) := by decide +kernel
theorem dX11_timesOf_6 : decode cX11_timesOf 6 = .ok (.iconst 0, 1) := by decide +kernel
theorem dX11_timesOf_7 : decode cX11_timesOf 7 = .ok (.aload_n 0, 1) := by decide +kernel
theorem dX11_timesOf_8 : decode cX11_timesOf 8 = .ok (.getfield 212, 3) := by decide +kernel
theorem dX11_timesOf_11 : decode cX11_timesOf 11 = .ok (.iconst 1, 1) := by decide +kernel
theorem dX11_timesOf_12 : decode cX11_timesOf 12 = .ok (.isub, 1) := by decide +kernel
theorem dX11_timesOf_13 : decode cX11_timesOf 13 = .ok (.invokestatic 45, 3) := by decide +kernel
theorem dX11_timesOf_16 : decode cX11_timesOf 16 = .ok (.ifCond .eq 7, 3) := by decide +kernel
theorem dX11_timesOf_19 : decode cX11_timesOf 19 = .ok (.iconst 0, 1) := by decide +kernel
theorem dX11_timesOf_20 : decode cX11_timesOf 20 = .ok (.goto 4, 3) := by decide +kernel
theorem dX11_timesOf_23 : decode cX11_timesOf 23 = .ok (.iconst 1, 1) := by decide +kernel
theorem dX11_timesOf_24 : decode cX11_timesOf 24 = .ok (.invokevirtual 112, 3) := by decide +kernel
theorem dX11_timesOf_27 : decode cX11_timesOf 27 = .ok (.ifCond .eq 12, 3) := by decide +kernel
theorem dX11_timesOf_30 : decode cX11_timesOf 30 = .ok (.aload_n 0, 1) := by decide +kernel
theorem dX11_timesOf_31 : decode cX11_timesOf 31 = .ok (.getfield 38, 3) := by decide +kernel
theorem dX11_timesOf_34 : decode cX11_timesOf 34 = .ok (.iload_n 1, 1) := by decide +kernel
theorem dX11_timesOf_35 : decode cX11_timesOf 35 = .ok (.iaload, 1) := by decide +kernel
theorem dX11_timesOf_36 : decode cX11_timesOf 36 = .ok (.goto 4, 3) := by decide +kernel
theorem dX11_timesOf_39 : decode cX11_timesOf 39 = .ok (.iconst 0, 1) := by decide +kernel
theorem dX11_timesOf_40 : decode cX11_timesOf 40 = .ok (.ireturn, 1) := by decide +kernel
set_option maxRecDepth 20000 in
theorem ggX11_glossaryLetter_X11_gloss : GoodIn wsX11_glossaryLetter wsX11_gloss := goodIn_r _ [7, 1, 8, 2, 9, 10, 11, 12, 6, 13, 14, 15, 16, 17, 18, 19, 20, 21, 22, 23, 24, 25, 38, 39, 40, 41, 42, 43, 44, 45, 46, 47, 48, 49, 50, 51, 52, 53, 54, 55, 56, 57, 58, 59, 60, 61] (by decide +kernel) (by decide +kernel)
set_option maxRecDepth 20000 in
theorem gX11_glossaryLetter_X11_gloss : GoodIn wsX11_glossaryLetter (wsV RX11 223 RX11 yX11_gloss wsX11_gloss) := goodIn_app (goodIn_of _ (by decide +kernel)) ggX11_glossaryLetter_X11_gloss
set_option maxRecDepth 20000 in
theorem ggX11_glossaryLetter_X11_in : GoodIn wsX11_glossaryLetter wsX11_in := goodIn_r _ [28] (by decide +kernel) (by decide +kernel)
set_option maxRecDepth 20000 in
theorem gX11_glossaryLetter_X11_in : GoodIn wsX11_glossaryLetter (va_wsS RX11 45 yX11_in wsX11_in) := goodIn_app (goodIn_of _ (by decide +kernel)) ggX11_glossaryLetter_X11_in
set_option maxRecDepth 20000 in
theorem ggX11_glossaryLetter_X11_holds : GoodIn wsX11_glossaryLetter wsX11_holds := goodIn_r _ [32, 33, 38, 39, 40, 41, 42, 43, 44, 45, 46, 47, 48, 49, 50, 51, 52, 53, 54, 55, 56, 57, 58, 59, 60, 61] (by decide +kernel) (by decide +kernel)
set_option maxRecDepth 20000 in
theorem gX11_glossaryLetter_X11_holds : GoodIn wsX11_glossaryLetter (wsV RX11 112 RX11 yX11_holds wsX11_holds) := goodIn_app (goodIn_of _ (by decide +kernel)) ggX11_glossaryLetter_X11_holds
set_option maxRecDepth 20000 in
theorem ggX11_glossaryLetter_X11_letter : GoodIn wsX11_glossaryLetter wsX11_letter := goodIn_r _ [36, 37] (by decide +kernel) (by decide +kernel)
set_option maxRecDepth 20000 in
theorem gX11_glossaryLetter_X11_letter : GoodIn wsX11_glossaryLetter (va_wsS RX11 177 yX11_letter wsX11_letter) := goodIn_app (goodIn_of _ (by decide +kernel)) ggX11_glossaryLetter_X11_letter
theorem dX11_glossaryLetter_0 : decode cX11_glossaryLetter 0 = .ok (.aload_n 0, 1) := by decide +kernel
theorem dX11_glossaryLetter_1 : decode cX11_glossaryLetter 1 = .ok (.invokevirtual 223, 3) := by decide +kernel
theorem dX11_glossaryLetter_4 : decode cX11_glossaryLetter 4 = .ok (.aload_n 0, 1) := by decide +kernel
theorem dX11_glossaryLetter_5 : decode cX11_glossaryLetter 5 = .ok (.iload_n 1, 1) := by decide +kernel
theorem dX11_glossaryLetter_6 : decode cX11_glossaryLetter 6 = .ok (.iconst 0, 1) := by decide +kernel
theorem dX11_glossaryLetter_7 : decode cX11_glossaryLetter 7 = .ok (.aload_n 0, 1) := by decide +kernel
theorem dX11_glossaryLetter_8 : decode cX11_glossaryLetter 8 = .ok (.getfield 212, 3) := by decide +kernel
theorem dX11_glossaryLetter_11 : decode cX11_glossaryLetter 11 = .ok (.iconst 1, 1) := by decide +kernel
theorem dX11_glossaryLetter_12 : decode cX11_glossaryLetter 12 = .ok (.isub, 1) := by decide +kernel
theorem dX11_glossaryLetter_13 : decode cX11_glossaryLetter 13 = .ok (.invokestatic 45, 3) := by decide +kernel
theorem dX11_glossaryLetter_16 : decode cX11_glossaryLetter 16 = .ok (.ifCond .eq 11, 3) := by decide +kernel
theorem dX11_glossaryLetter_19 : decode cX11_glossaryLetter 19 = .ok (.iload_n 2, 1) := by decide +kernel
theorem dX11_glossaryLetter_20 : decode cX11_glossaryLetter 20 = .ok (.ifCond .lt 7, 3) := by decide +kernel
theorem dX11_glossaryLetter_23 : decode cX11_glossaryLetter 23 = .ok (.iconst 0, 1) := by decide +kernel
theorem dX11_glossaryLetter_24 : decode cX11_glossaryLetter 24 = .ok (.goto 4, 3) := by decide +kernel
theorem dX11_glossaryLetter_27 : decode cX11_glossaryLetter 27 = .ok (.iconst 1, 1) := by decide +kernel
theorem dX11_glossaryLetter_28 : decode cX11_glossaryLetter 28 = .ok (.invokevirtual 112, 3) := by decide +kernel
theorem dX11_glossaryLetter_31 : decode cX11_glossaryLetter 31 = .ok (.ifCond .eq 16, 3) := by decide +kernel
theorem dX11_glossaryLetter_34 : decode cX11_glossaryLetter 34 = .ok (.aload_n 0, 1) := by decide +kernel
theorem dX11_glossaryLetter_35 : decode cX11_glossaryLetter 35 = .ok (.getfield 35, 3) := by decide +kernel
theorem dX11_glossaryLetter_38 : decode cX11_glossaryLetter 38 = .ok (.iload_n 1, 1) := by decide +kernel
theorem dX11_glossaryLetter_39 : decode cX11_glossaryLetter 39 = .ok (.laload, 1) := by decide +kernel
theorem dX11_glossaryLetter_40 : decode cX11_glossaryLetter 40 = .ok (.iload_n 2, 1) := by decide +kernel
theorem dX11_glossaryLetter_41 : decode cX11_glossaryLetter 41 = .ok (.invokestatic 177, 3) := by decide +kernel
theorem dX11_glossaryLetter_44 : decode cX11_glossaryLetter 44 = .ok (.goto 4, 3) := by decide +kernel
theorem dX11_glossaryLetter_47 : decode cX11_glossaryLetter 47 = .ok (.iconst 0, 1) := by decide +kernel
theorem dX11_glossaryLetter_48 : decode cX11_glossaryLetter 48 = .ok (.ireturn, 1) := by decide +kernel
set_option maxRecDepth 20000 in
theorem ggX11_undo_X11_holds : GoodIn wsX11_undo wsX11_holds := goodIn_r _ [6, 7, 16, 17, 18, 19, 20, 21, 22, 23, 24, 25, 26, 27, 28, 29, 30, 31, 32, 33, 34, 35, 36, 37, 38, 39] (by decide +kernel) (by decide +kernel)
set_option maxRecDepth 20000 in
theorem gX11_undo_X11_holds : GoodIn wsX11_undo (wsV RX11 112 RX11 yX11_holds wsX11_holds) := goodIn_app (goodIn_of _ (by decide +kernel)) ggX11_undo_X11_holds
set_option maxRecDepth 20000 in
theorem ggX11_undo_X11_takeFrom : GoodIn wsX11_undo wsX11_takeFrom := goodIn_r _ [11, 12, 13, 14, 15, 16, 17, 18, 19, 20, 21, 22, 23, 24, 25, 26, 27, 28, 29, 30, 31, 32, 33, 34, 35, 36, 37, 38, 39] (by decide +kernel) (by decide +kernel)
set_option maxRecDepth 20000 in
theorem gX11_undo_X11_takeFrom : GoodIn wsX11_undo (wsV RX11 226 RX11 yX11_takeFrom wsX11_takeFrom) := goodIn_app (goodIn_of _ (by decide +kernel)) ggX11_undo_X11_takeFrom
theorem dX11_undo_0 : decode cX11_undo 0 = .ok (.aload_n 0, 1) := by decide +kernel
theorem dX11_undo_1 : decode cX11_undo 1 = .ok (.aload_n 0, 1) := by decide +kernel
theorem dX11_undo_2 : decode cX11_undo 2 = .ok (.getfield 57, 3) := by decide +kernel
theorem dX11_undo_5 : decode cX11_undo 5 = .ok (.ifCond .le 7, 3) := by decide +kernel
theorem dX11_undo_8 : decode cX11_undo 8 = .ok (.iconst 0, 1) := by decide +kernel
theorem dX11_undo_9 : decode cX11_undo 9 = .ok (.goto 4, 3) := by decide +kernel
theorem dX11_undo_12 : decode cX11_undo 12 = .ok (.iconst 1, 1) := by decide +kernel
theorem dX11_undo_13 : decode cX11_undo 13 = .ok (.invokevirtual 112, 3) := by decide +kernel
theorem dX11_undo_16 : decode cX11_undo 16 = .ok (.ifCond .ne 5, 3) := by decide +kernel
theorem dX11_undo_19 : decode cX11_undo 19 = .ok (.iconst 0, 1) := by decide +kernel
theorem dX11_undo_20 : decode cX11_undo 20 = .ok (.ireturn, 1) := by decide +kernel
theorem dX11_undo_21 : decode cX11_undo 21 = .ok (.aload_n 0, 1) := by decide +kernel
theorem dX11_undo_22 : decode cX11_undo 22 = .ok (.dup, 1) := by decide +kernel
theorem dX11_undo_23 : decode cX11_undo 23 = .ok (.getfield 57, 3) := by decide +kernel
theorem dX11_undo_26 : decode cX11_undo 26 = .ok (.iconst 1, 1) := by decide +kernel
theorem dX11_undo_27 : decode cX11_undo 27 = .ok (.isub, 1) := by decide +kernel
theorem dX11_undo_28 : decode cX11_undo 28 = .ok (.putfield 57, 3) := by decide +kernel
theorem dX11_undo_31 : decode cX11_undo 31 = .ok (.aload_n 0, 1) := by decide +kernel
theorem dX11_undo_32 : decode cX11_undo 32 = .ok (.aload_n 0, 1) := by decide +kernel
theorem dX11_undo_33 : decode cX11_undo 33 = .ok (.getfield 57, 3) := by decide +kernel
theorem dX11_undo_36 : decode cX11_undo 36 = .ok (.invokevirtual 226, 3) := by decide +kernel
theorem dX11_undo_39 : decode cX11_undo 39 = .ok (.aload_n 0, 1) := by decide +kernel
theorem dX11_undo_40 : decode cX11_undo 40 = .ok (.getfield 57, 3) := by decide +kernel
theorem dX11_undo_43 : decode cX11_undo 43 = .ok (.ireturn, 1) := by decide +kernel
set_option maxRecDepth 20000 in
theorem ggX11_savedStates_X11_plain : GoodIn wsX11_savedStates wsX11_plain := goodIn_r _ [6, 7, 8, 9, 10, 11, 12, 13, 14, 15, 16, 17, 18, 19, 20, 21, 22, 23, 24, 25, 26, 27, 28, 29, 30, 31] (by decide +kernel) (by decide +kernel)
set_option maxRecDepth 20000 in
theorem gX11_savedStates_X11_plain : GoodIn wsX11_savedStates (wsV RX11 105 RX11 yX11_plain wsX11_plain) := goodIn_app (goodIn_of _ (by decide +kernel)) ggX11_savedStates_X11_plain
theorem dX11_savedStates_0 : decode cX11_savedStates 0 = .ok (.aload_n 0, 1) := by decide +kernel
theorem dX11_savedStates_1 : decode cX11_savedStates 1 = .ok (.aload_n 0, 1) := by decide +kernel
theorem dX11_savedStates_2 : decode cX11_savedStates 2 = .ok (.getfield 57, 3) := by decide +kernel
theorem dX11_savedStates_5 : decode cX11_savedStates 5 = .ok (.invokevirtual 105, 3) := by decide +kernel
theorem dX11_savedStates_8 : decode cX11_savedStates 8 = .ok (.ireturn, 1) := by decide +kernel
set_option maxRecDepth 20000 in
theorem ggX11_takeSnapshot_X11_keepAt : GoodIn wsX11_takeSnapshot wsX11_keepAt := goodIn_r _ [8, 9, 3, 10, 11, 12, 13, 14, 15, 16, 17, 18, 19, 20, 21, 22, 23, 24, 25, 26, 27, 28, 29, 30, 31, 32, 33, 34, 35] (by decide +kernel) (by decide +kernel)
set_option maxRecDepth 20000 in
theorem gX11_takeSnapshot_X11_keepAt : GoodIn wsX11_takeSnapshot (wsV RX11 60 RX11 yX11_keepAt wsX11_keepAt) := goodIn_app (goodIn_of _ (by decide +kernel)) ggX11_takeSnapshot_X11_keepAt
theorem dX11_takeSnapshot_0 : decode cX11_takeSnapshot 0 = .ok (.aload_n 0, 1) := by decide +kernel
theorem dX11_takeSnapshot_1 : decode cX11_takeSnapshot 1 = .ok (.iconst 0, 1) := by decide +kernel
theorem dX11_takeSnapshot_2 : decode cX11_takeSnapshot 2 = .ok (.putfield 41, 3) := by decide +kernel
theorem dX11_takeSnapshot_5 : decode cX11_takeSnapshot 5 = .ok (.aload_n 0, 1) := by decide +kernel
theorem dX11_takeSnapshot_6 : decode cX11_takeSnapshot 6 = .ok (.iconst 5, 1) := by decide +kernel
theorem dX11_takeSnapshot_7 : decode cX11_takeSnapshot 7 = .ok (.invokevirtual 60, 3) := by decide +kernel
theorem dX11_takeSnapshot_10 : decode cX11_takeSnapshot 10 = .ok (.aload_n 0, 1) := by decide +kernel
theorem dX11_takeSnapshot_11 : decode cX11_takeSnapshot 11 = .ok (.iconst 1, 1) := by decide +kernel
theorem dX11_takeSnapshot_12 : decode cX11_takeSnapshot 12 = .ok (.putfield 229, 3) := by decide +kernel
theorem dX11_takeSnapshot_15 : decode cX11_takeSnapshot 15 = .ok (.aload_n 0, 1) := by decide +kernel
theorem dX11_takeSnapshot_16 : decode cX11_takeSnapshot 16 = .ok (.getfield 7, 3) := by decide +kernel
theorem dX11_takeSnapshot_19 : decode cX11_takeSnapshot 19 = .ok (.iconst 1, 1) := by decide +kernel
theorem dX11_takeSnapshot_20 : decode cX11_takeSnapshot 20 = .ok (.iaload, 1) := by decide +kernel
theorem dX11_takeSnapshot_21 : decode cX11_takeSnapshot 21 = .ok (.ireturn, 1) := by decide +kernel
set_option maxRecDepth 20000 in
theorem ggX11_restoreSnapshot_X11_holds : GoodIn wsX11_restoreSnapshot wsX11_holds := goodIn_r _ [7, 8, 25, 26, 27, 28, 29, 30, 31, 32, 33, 34, 35, 36, 37, 38, 39, 40, 41, 42, 43, 44, 45, 46, 47, 48] (by decide +kernel) (by decide +kernel)
set_option maxRecDepth 20000 in
theorem gX11_restoreSnapshot_X11_holds : GoodIn wsX11_restoreSnapshot (wsV RX11 112 RX11 yX11_holds wsX11_holds) := goodIn_app (goodIn_of _ (by decide +kernel)) ggX11_restoreSnapshot_X11_holds
set_option maxRecDepth 20000 in
theorem ggX11_restoreSnapshot_X11_save : GoodIn wsX11_restoreSnapshot wsX11_save := goodIn_r _ [12, 13, 14, 15, 16, 17, 18, 6, 19, 2, 20, 25, 26, 27, 28, 29, 30, 31, 32, 33, 34, 35, 36, 37, 38, 39, 40, 41, 42, 43, 44, 45, 46, 47, 48] (by decide +kernel) (by decide +kernel)
set_option maxRecDepth 20000 in
theorem gX11_restoreSnapshot_X11_save : GoodIn wsX11_restoreSnapshot (wsV RX11 159 RX11 yX11_save wsX11_save) := goodIn_app (goodIn_of _ (by decide +kernel)) ggX11_restoreSnapshot_X11_save
set_option maxRecDepth 20000 in
theorem ggX11_restoreSnapshot_X11_takeFrom : GoodIn wsX11_restoreSnapshot wsX11_takeFrom := goodIn_r _ [24, 2, 14, 20, 15, 25, 26, 27, 28, 29, 30, 31, 32, 33, 34, 35, 36, 37, 38, 39, 40, 41, 42, 43, 44, 45, 46, 47, 48] (by decide +kernel) (by decide +kernel)
set_option maxRecDepth 20000 in
theorem gX11_restoreSnapshot_X11_takeFrom : GoodIn wsX11_restoreSnapshot (wsV RX11 226 RX11 yX11_takeFrom wsX11_takeFrom) := goodIn_app (goodIn_of _ (by decide +kernel)) ggX11_restoreSnapshot_X11_takeFrom
theorem dX11_restoreSnapshot_0 : decode cX11_restoreSnapshot 0 = .ok (.aload_n 0, 1) := by decide +kernel
theorem dX11_restoreSnapshot_1 : decode cX11_restoreSnapshot 1 = .ok (.aload_n 0, 1) := by decide +kernel
theorem dX11_restoreSnapshot_2 : decode cX11_restoreSnapshot 2 = .ok (.getfield 229, 3) := by decide +kernel
theorem dX11_restoreSnapshot_5 : decode cX11_restoreSnapshot 5 = .ok (.ifCond .eq 7, 3) := by decide +kernel
theorem dX11_restoreSnapshot_8 : decode cX11_restoreSnapshot 8 = .ok (.iconst 0, 1) := by decide +kernel
theorem dX11_restoreSnapshot_9 : decode cX11_restoreSnapshot 9 = .ok (.goto 4, 3) := by decide +kernel
theorem dX11_restoreSnapshot_12 : decode cX11_restoreSnapshot 12 = .ok (.iconst 1, 1) := by decide +kernel
theorem dX11_restoreSnapshot_13 : decode cX11_restoreSnapshot 13 = .ok (.invokevirtual 112, 3) := by decide +kernel
theorem dX11_restoreSnapshot_16 : decode cX11_restoreSnapshot 16 = .ok (.ifCond .ne 5, 3) := by decide +kernel
theorem dX11_restoreSnapshot_19 : decode cX11_restoreSnapshot 19 = .ok (.iconst 0, 1) := by decide +kernel
theorem dX11_restoreSnapshot_20 : decode cX11_restoreSnapshot 20 = .ok (.ireturn, 1) := by decide +kernel
theorem dX11_restoreSnapshot_21 : decode cX11_restoreSnapshot 21 = .ok (.aload_n 0, 1) := by decide +kernel
theorem dX11_restoreSnapshot_22 : decode cX11_restoreSnapshot 22 = .ok (.invokevirtual 159, 3) := by decide +kernel
theorem dX11_restoreSnapshot_25 : decode cX11_restoreSnapshot 25 = .ok (.aload_n 0, 1) := by decide +kernel
theorem dX11_restoreSnapshot_26 : decode cX11_restoreSnapshot 26 = .ok (.iconst 5, 1) := by decide +kernel
theorem dX11_restoreSnapshot_27 : decode cX11_restoreSnapshot 27 = .ok (.invokevirtual 226, 3) := by decide +kernel
theorem dX11_restoreSnapshot_30 : decode cX11_restoreSnapshot 30 = .ok (.aload_n 0, 1) := by decide +kernel
theorem dX11_restoreSnapshot_31 : decode cX11_restoreSnapshot 31 = .ok (.getfield 7, 3) := by decide +kernel
theorem dX11_restoreSnapshot_34 : decode cX11_restoreSnapshot 34 = .ok (.iconst 1, 1) := by decide +kernel
theorem dX11_restoreSnapshot_35 : decode cX11_restoreSnapshot 35 = .ok (.iaload, 1) := by decide +kernel
theorem dX11_restoreSnapshot_36 : decode cX11_restoreSnapshot 36 = .ok (.ireturn, 1) := by decide +kernel
theorem dJ9_max_7cf53_0 : decode cJ9_max_7cf53 0 = .ok (.iload_n 0, 1) := by decide +kernel
theorem dJ9_max_7cf53_1 : decode cJ9_max_7cf53 1 = .ok (.iload_n 1, 1) := by decide +kernel
theorem dJ9_max_7cf53_2 : decode cJ9_max_7cf53 2 = .ok (.if_icmp .lt 7, 3) := by decide +kernel
theorem dJ9_max_7cf53_5 : decode cJ9_max_7cf53 5 = .ok (.iload_n 0, 1) := by decide +kernel
theorem dJ9_max_7cf53_6 : decode cJ9_max_7cf53 6 = .ok (.goto 4, 3) := by decide +kernel
theorem dJ9_max_7cf53_9 : decode cJ9_max_7cf53 9 = .ok (.iload_n 1, 1) := by decide +kernel
theorem dJ9_max_7cf53_10 : decode cJ9_max_7cf53 10 = .ok (.ireturn, 1) := by decide +kernel
theorem dJ9_min_7cf53_0 : decode cJ9_min_7cf53 0 = .ok (.iload_n 0, 1) := by decide +kernel
theorem dJ9_min_7cf53_1 : decode cJ9_min_7cf53 1 = .ok (.iload_n 1, 1) := by decide +kernel
theorem dJ9_min_7cf53_2 : decode cJ9_min_7cf53 2 = .ok (.if_icmp .gt 7, 3) := by decide +kernel
theorem dJ9_min_7cf53_5 : decode cJ9_min_7cf53 5 = .ok (.iload_n 0, 1) := by decide +kernel
theorem dJ9_min_7cf53_6 : decode cJ9_min_7cf53 6 = .ok (.goto 4, 3) := by decide +kernel
theorem dJ9_min_7cf53_9 : decode cJ9_min_7cf53 9 = .ok (.iload_n 1, 1) := by decide +kernel
theorem dJ9_min_7cf53_10 : decode cJ9_min_7cf53 10 = .ok (.ireturn, 1) := by decide +kernel
