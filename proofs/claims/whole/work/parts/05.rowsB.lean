set_option maxRecDepth 20000 in
theorem ggX5_init_X5_put0 : GoodIn wsX5_init wsX5_put0 := goodIn_r _ [16, 5, 17, 57, 58, 59, 60, 61, 62, 63, 64, 65, 66, 67, 68, 69, 70, 71] (by decide +kernel) (by decide +kernel)
set_option maxRecDepth 20000 in
theorem gX5_init_X5_put0 : GoodIn wsX5_init (wsV RX5 30 RX5 yX5_put0 wsX5_put0) := goodIn_app (goodIn_of _ (by decide +kernel)) ggX5_init_X5_put0
set_option maxRecDepth 20000 in
theorem ggX5_init_X5_builds : GoodIn wsX5_init wsX5_builds := goodIn_r _ [21, 22, 23, 24, 15, 25, 26, 27, 28, 29, 30, 31, 32, 33, 34, 35, 36, 37, 5, 17, 38, 39, 40, 41, 42, 43, 44, 45, 46, 47, 48, 49, 50, 51, 52, 12, 13, 14, 16, 53, 54, 55, 56, 57, 58, 59, 60, 61, 62, 63, 64, 65, 66, 67, 68, 69, 70, 71] (by decide +kernel) (by decide +kernel)
set_option maxRecDepth 20000 in
theorem gX5_init_X5_builds : GoodIn wsX5_init (wsV RX5 34 RX5 yX5_builds wsX5_builds) := goodIn_app (goodIn_of _ (by decide +kernel)) ggX5_init_X5_builds
theorem dX5_init_0 : decode cX5_init 0 = .ok (.aload_n 0, 1) := by decide +kernel
theorem dX5_init_1 : decode cX5_init 1 = .ok (.invokespecial 1, 3) := by decide +kernel
theorem dX5_init_4 : decode cX5_init 4 = .ok (.aload_n 0, 1) := by decide +kernel
theorem dX5_init_5 : decode cX5_init 5 = .ok (.sipush 2790, 3) := by decide +kernel
theorem dX5_init_8 : decode cX5_init 8 = .ok (.newarray .int, 2) := by decide +kernel
theorem dX5_init_10 : decode cX5_init 10 = .ok (.putfield 7, 3) := by decide +kernel
theorem dX5_init_13 : decode cX5_init 13 = .ok (.aload_n 0, 1) := by decide +kernel
theorem dX5_init_14 : decode cX5_init 14 = .ok (.sipush 310, 3) := by decide +kernel
theorem dX5_init_17 : decode cX5_init 17 = .ok (.newarray .int, 2) := by decide +kernel
theorem dX5_init_19 : decode cX5_init 19 = .ok (.putfield 13, 3) := by decide +kernel
theorem dX5_init_22 : decode cX5_init 22 = .ok (.aload_n 0, 1) := by decide +kernel
theorem dX5_init_23 : decode cX5_init 23 = .ok (.sipush 310, 3) := by decide +kernel
theorem dX5_init_26 : decode cX5_init 26 = .ok (.newarray .int, 2) := by decide +kernel
theorem dX5_init_28 : decode cX5_init 28 = .ok (.putfield 16, 3) := by decide +kernel
theorem dX5_init_31 : decode cX5_init 31 = .ok (.aload_n 0, 1) := by decide +kernel
theorem dX5_init_32 : decode cX5_init 32 = .ok (.sipush 500, 3) := by decide +kernel
theorem dX5_init_35 : decode cX5_init 35 = .ok (.newarray .int, 2) := by decide +kernel
theorem dX5_init_37 : decode cX5_init 37 = .ok (.putfield 19, 3) := by decide +kernel
theorem dX5_init_40 : decode cX5_init 40 = .ok (.aload_n 0, 1) := by decide +kernel
theorem dX5_init_41 : decode cX5_init 41 = .ok (.iconst (-1), 1) := by decide +kernel
theorem dX5_init_42 : decode cX5_init 42 = .ok (.putfield 22, 3) := by decide +kernel
theorem dX5_init_45 : decode cX5_init 45 = .ok (.aload_n 0, 1) := by decide +kernel
theorem dX5_init_46 : decode cX5_init 46 = .ok (.bipush 8, 2) := by decide +kernel
theorem dX5_init_48 : decode cX5_init 48 = .ok (.newarray .boolean, 2) := by decide +kernel
theorem dX5_init_50 : decode cX5_init 50 = .ok (.putfield 26, 3) := by decide +kernel
theorem dX5_init_53 : decode cX5_init 53 = .ok (.aload_n 0, 1) := by decide +kernel
theorem dX5_init_54 : decode cX5_init 54 = .ok (.iconst 0, 1) := by decide +kernel
theorem dX5_init_55 : decode cX5_init 55 = .ok (.iconst 1, 1) := by decide +kernel
theorem dX5_init_56 : decode cX5_init 56 = .ok (.invokevirtual 30, 3) := by decide +kernel
theorem dX5_init_59 : decode cX5_init 59 = .ok (.aload_n 0, 1) := by decide +kernel
theorem dX5_init_60 : decode cX5_init 60 = .ok (.iconst 2, 1) := by decide +kernel
theorem dX5_init_61 : decode cX5_init 61 = .ok (.iconst 2, 1) := by decide +kernel
theorem dX5_init_62 : decode cX5_init 62 = .ok (.invokevirtual 30, 3) := by decide +kernel
theorem dX5_init_65 : decode cX5_init 65 = .ok (.aload_n 0, 1) := by decide +kernel
theorem dX5_init_66 : decode cX5_init 66 = .ok (.invokevirtual 34, 3) := by decide +kernel
theorem dX5_init_69 : decode cX5_init 69 = .ok (.return_, 1) := by decide +kernel
theorem dX5_thrown_0 : decode cX5_thrown 0 = .ok (.aload_n 0, 1) := by decide +kernel
theorem dX5_thrown_1 : decode cX5_thrown 1 = .ok (.getfield 37, 3) := by decide +kernel
theorem dX5_thrown_4 : decode cX5_thrown 4 = .ok (.ireturn, 1) := by decide +kernel
theorem dX5_isIn_0 : decode cX5_isIn 0 = .ok (.iload_n 0, 1) := by decide +kernel
theorem dX5_isIn_1 : decode cX5_isIn 1 = .ok (.iload_n 1, 1) := by decide +kernel
theorem dX5_isIn_2 : decode cX5_isIn 2 = .ok (.if_icmp .lt 12, 3) := by decide +kernel
theorem dX5_isIn_5 : decode cX5_isIn 5 = .ok (.iload_n 0, 1) := by decide +kernel
theorem dX5_isIn_6 : decode cX5_isIn 6 = .ok (.iload_n 2, 1) := by decide +kernel
theorem dX5_isIn_7 : decode cX5_isIn 7 = .ok (.if_icmp .gt 7, 3) := by decide +kernel
theorem dX5_isIn_10 : decode cX5_isIn 10 = .ok (.iconst 1, 1) := by decide +kernel
theorem dX5_isIn_11 : decode cX5_isIn 11 = .ok (.goto 4, 3) := by decide +kernel
theorem dX5_isIn_14 : decode cX5_isIn 14 = .ok (.iconst 0, 1) := by decide +kernel
theorem dX5_isIn_15 : decode cX5_isIn 15 = .ok (.ireturn, 1) := by decide +kernel
theorem dX5_get_0 : decode cX5_get 0 = .ok (.aload_n 0, 1) := by decide +kernel
theorem dX5_get_1 : decode cX5_get 1 = .ok (.getfield 7, 3) := by decide +kernel
theorem dX5_get_4 : decode cX5_get 4 = .ok (.sipush 310, 3) := by decide +kernel
theorem dX5_get_7 : decode cX5_get 7 = .ok (.aload_n 0, 1) := by decide +kernel
theorem dX5_get_8 : decode cX5_get 8 = .ok (.getfield 40, 3) := by decide +kernel
theorem dX5_get_11 : decode cX5_get 11 = .ok (.imul, 1) := by decide +kernel
theorem dX5_get_12 : decode cX5_get 12 = .ok (.iload_n 1, 1) := by decide +kernel
theorem dX5_get_13 : decode cX5_get 13 = .ok (.iadd, 1) := by decide +kernel
theorem dX5_get_14 : decode cX5_get 14 = .ok (.iaload, 1) := by decide +kernel
theorem dX5_get_15 : decode cX5_get 15 = .ok (.ireturn, 1) := by decide +kernel
theorem dX5_put0_0 : decode cX5_put0 0 = .ok (.aload_n 0, 1) := by decide +kernel
theorem dX5_put0_1 : decode cX5_put0 1 = .ok (.getfield 7, 3) := by decide +kernel
theorem dX5_put0_4 : decode cX5_put0 4 = .ok (.sipush 310, 3) := by decide +kernel
theorem dX5_put0_7 : decode cX5_put0 7 = .ok (.aload_n 0, 1) := by decide +kernel
theorem dX5_put0_8 : decode cX5_put0 8 = .ok (.getfield 40, 3) := by decide +kernel
theorem dX5_put0_11 : decode cX5_put0 11 = .ok (.imul, 1) := by decide +kernel
theorem dX5_put0_12 : decode cX5_put0 12 = .ok (.iload_n 1, 1) := by decide +kernel
theorem dX5_put0_13 : decode cX5_put0 13 = .ok (.iadd, 1) := by decide +kernel
theorem dX5_put0_14 : decode cX5_put0 14 = .ok (.iload_n 2, 1) := by decide +kernel
theorem dX5_put0_15 : decode cX5_put0 15 = .ok (.iastore, 1) := by decide +kernel
theorem dX5_put0_16 : decode cX5_put0 16 = .ok (.return_, 1) := by decide +kernel
set_option maxRecDepth 20000 in
theorem ggX5_adds_X5_get : GoodIn wsX5_adds wsX5_get := goodIn_r _ [5, 6, 7, 12, 13, 14, 15, 16, 17, 18, 19, 20, 21, 22, 23, 24, 25, 26] (by decide +kernel) (by decide +kernel)
set_option maxRecDepth 20000 in
theorem gX5_adds_X5_get : GoodIn wsX5_adds (wsV RX5 43 RX5 yX5_get wsX5_get) := goodIn_app (goodIn_of _ (by decide +kernel)) ggX5_adds_X5_get
set_option maxRecDepth 20000 in
theorem ggX5_adds_X5_put0 : GoodIn wsX5_adds wsX5_put0 := goodIn_r _ [11, 6, 7, 12, 13, 14, 15, 16, 17, 18, 19, 20, 21, 22, 23, 24, 25, 26] (by decide +kernel) (by decide +kernel)
set_option maxRecDepth 20000 in
theorem gX5_adds_X5_put0 : GoodIn wsX5_adds (wsV RX5 30 RX5 yX5_put0 wsX5_put0) := goodIn_app (goodIn_of _ (by decide +kernel)) ggX5_adds_X5_put0
theorem dX5_adds_0 : decode cX5_adds 0 = .ok (.aload_n 0, 1) := by decide +kernel
theorem dX5_adds_1 : decode cX5_adds 1 = .ok (.iload_n 1, 1) := by decide +kernel
theorem dX5_adds_2 : decode cX5_adds 2 = .ok (.aload_n 0, 1) := by decide +kernel
theorem dX5_adds_3 : decode cX5_adds 3 = .ok (.iload_n 1, 1) := by decide +kernel
theorem dX5_adds_4 : decode cX5_adds 4 = .ok (.invokevirtual 43, 3) := by decide +kernel
theorem dX5_adds_7 : decode cX5_adds 7 = .ok (.iload_n 2, 1) := by decide +kernel
theorem dX5_adds_8 : decode cX5_adds 8 = .ok (.iadd, 1) := by decide +kernel
theorem dX5_adds_9 : decode cX5_adds 9 = .ok (.invokevirtual 30, 3) := by decide +kernel
theorem dX5_adds_12 : decode cX5_adds 12 = .ok (.return_, 1) := by decide +kernel
set_option maxRecDepth 20000 in
theorem ggX5_change_X5_get : GoodIn wsX5_change wsX5_get := goodIn_r _ [8, 2, 1, 9, 10, 11, 12, 13, 14, 15, 16, 17, 18, 19, 20, 21, 22, 23] (by decide +kernel) (by decide +kernel)
set_option maxRecDepth 20000 in
theorem gX5_change_X5_get : GoodIn wsX5_change (wsV RX5 43 RX5 yX5_get wsX5_get) := goodIn_app (goodIn_of _ (by decide +kernel)) ggX5_change_X5_get
theorem dX5_change_0 : decode cX5_change 0 = .ok (.aload_n 0, 1) := by decide +kernel
theorem dX5_change_1 : decode cX5_change 1 = .ok (.getfield 40, 3) := by decide +kernel
theorem dX5_change_4 : decode cX5_change 4 = .ok (.iconst 1, 1) := by decide +kernel
theorem dX5_change_5 : decode cX5_change 5 = .ok (.iadd, 1) := by decide +kernel
theorem dX5_change_6 : decode cX5_change 6 = .ok (.bipush 9, 2) := by decide +kernel
theorem dX5_change_8 : decode cX5_change 8 = .ok (.irem, 1) := by decide +kernel
theorem dX5_change_9 : decode cX5_change 9 = .ok (.istore_n 1, 1) := by decide +kernel
theorem dX5_change_10 : decode cX5_change 10 = .ok (.iconst 0, 1) := by decide +kernel
theorem dX5_change_11 : decode cX5_change 11 = .ok (.istore_n 2, 1) := by decide +kernel
theorem dX5_change_12 : decode cX5_change 12 = .ok (.iload_n 2, 1) := by decide +kernel
theorem dX5_change_13 : decode cX5_change 13 = .ok (.sipush 310, 3) := by decide +kernel
theorem dX5_change_16 : decode cX5_change 16 = .ok (.if_icmp .ge 26, 3) := by decide +kernel
theorem dX5_change_19 : decode cX5_change 19 = .ok (.aload_n 0, 1) := by decide +kernel
theorem dX5_change_20 : decode cX5_change 20 = .ok (.getfield 7, 3) := by decide +kernel
theorem dX5_change_23 : decode cX5_change 23 = .ok (.sipush 310, 3) := by decide +kernel
theorem dX5_change_26 : decode cX5_change 26 = .ok (.iload_n 1, 1) := by decide +kernel
theorem dX5_change_27 : decode cX5_change 27 = .ok (.imul, 1) := by decide +kernel
theorem dX5_change_28 : decode cX5_change 28 = .ok (.iload_n 2, 1) := by decide +kernel
theorem dX5_change_29 : decode cX5_change 29 = .ok (.iadd, 1) := by decide +kernel
theorem dX5_change_30 : decode cX5_change 30 = .ok (.aload_n 0, 1) := by decide +kernel
theorem dX5_change_31 : decode cX5_change 31 = .ok (.iload_n 2, 1) := by decide +kernel
theorem dX5_change_32 : decode cX5_change 32 = .ok (.invokevirtual 43, 3) := by decide +kernel
theorem dX5_change_35 : decode cX5_change 35 = .ok (.iastore, 1) := by decide +kernel
theorem dX5_change_36 : decode cX5_change 36 = .ok (.iinc 2 1, 3) := by decide +kernel
theorem dX5_change_39 : decode cX5_change 39 = .ok (.goto (-27), 3) := by decide +kernel
theorem dX5_change_42 : decode cX5_change 42 = .ok (.aload_n 0, 1) := by decide +kernel
theorem dX5_change_43 : decode cX5_change 43 = .ok (.iload_n 1, 1) := by decide +kernel
theorem dX5_change_44 : decode cX5_change 44 = .ok (.putfield 40, 3) := by decide +kernel
theorem dX5_change_47 : decode cX5_change 47 = .ok (.aload_n 0, 1) := by decide +kernel
theorem dX5_change_48 : decode cX5_change 48 = .ok (.aload_n 0, 1) := by decide +kernel
theorem dX5_change_49 : decode cX5_change 49 = .ok (.getfield 47, 3) := by decide +kernel
theorem dX5_change_52 : decode cX5_change 52 = .ok (.bipush 8, 2) := by decide +kernel
theorem dX5_change_54 : decode cX5_change 54 = .ok (.if_icmp .ge 12, 3) := by decide +kernel
theorem dX5_change_57 : decode cX5_change 57 = .ok (.aload_n 0, 1) := by decide +kernel
theorem dX5_change_58 : decode cX5_change 58 = .ok (.getfield 47, 3) := by decide +kernel
theorem dX5_change_61 : decode cX5_change 61 = .ok (.iconst 1, 1) := by decide +kernel
theorem dX5_change_62 : decode cX5_change 62 = .ok (.iadd, 1) := by decide +kernel
theorem dX5_change_63 : decode cX5_change 63 = .ok (.goto 7, 3) := by decide +kernel
theorem dX5_change_66 : decode cX5_change 66 = .ok (.aload_n 0, 1) := by decide +kernel
theorem dX5_change_67 : decode cX5_change 67 = .ok (.getfield 47, 3) := by decide +kernel
theorem dX5_change_70 : decode cX5_change 70 = .ok (.putfield 47, 3) := by decide +kernel
theorem dX5_change_73 : decode cX5_change 73 = .ok (.return_, 1) := by decide +kernel
theorem dX5_right_0 : decode cX5_right 0 = .ok (.aload_n 0, 1) := by decide +kernel
theorem dX5_right_1 : decode cX5_right 1 = .ok (.getfield 37, 3) := by decide +kernel
theorem dX5_right_4 : decode cX5_right 4 = .ok (.ifCond .ne 12, 3) := by decide +kernel
theorem dX5_right_7 : decode cX5_right 7 = .ok (.iload_n 1, 1) := by decide +kernel
theorem dX5_right_8 : decode cX5_right 8 = .ok (.ifCond .ne 8, 3) := by decide +kernel
theorem dX5_right_11 : decode cX5_right 11 = .ok (.aload_n 0, 1) := by decide +kernel
theorem dX5_right_12 : decode cX5_right 12 = .ok (.iload_n 2, 1) := by decide +kernel
theorem dX5_right_13 : decode cX5_right 13 = .ok (.putfield 37, 3) := by decide +kernel
theorem dX5_right_16 : decode cX5_right 16 = .ok (.aload_n 0, 1) := by decide +kernel
theorem dX5_right_17 : decode cX5_right 17 = .ok (.getfield 37, 3) := by decide +kernel
theorem dX5_right_20 : decode cX5_right 20 = .ok (.ifCond .ne 7, 3) := by decide +kernel
theorem dX5_right_23 : decode cX5_right 23 = .ok (.iconst 1, 1) := by decide +kernel
theorem dX5_right_24 : decode cX5_right 24 = .ok (.goto 4, 3) := by decide +kernel
theorem dX5_right_27 : decode cX5_right 27 = .ok (.iconst 0, 1) := by decide +kernel
theorem dX5_right_28 : decode cX5_right 28 = .ok (.ireturn, 1) := by decide +kernel
set_option maxRecDepth 20000 in
theorem ggX5_size_X5_get : GoodIn wsX5_size wsX5_get := goodIn_r _ [5, 6, 7, 8, 9, 10, 11, 12, 13, 14, 15, 16, 17, 18, 19, 20, 21, 22] (by decide +kernel) (by decide +kernel)
set_option maxRecDepth 20000 in
theorem gX5_size_X5_get : GoodIn wsX5_size (wsV RX5 43 RX5 yX5_get wsX5_get) := goodIn_app (goodIn_of _ (by decide +kernel)) ggX5_size_X5_get
theorem dX5_size_0 : decode cX5_size 0 = .ok (.aload_n 0, 1) := by decide +kernel
theorem dX5_size_1 : decode cX5_size 1 = .ok (.iconst 0, 1) := by decide +kernel
theorem dX5_size_2 : decode cX5_size 2 = .ok (.invokevirtual 43, 3) := by decide +kernel
theorem dX5_size_5 : decode cX5_size 5 = .ok (.ireturn, 1) := by decide +kernel
set_option maxRecDepth 20000 in
theorem ggX5_valueAt_X5_get : GoodIn wsX5_valueAt wsX5_get := goodIn_r _ [5, 6, 7, 8, 9, 10, 11, 12, 13, 14, 15, 16, 17, 18, 19, 20, 21, 22] (by decide +kernel) (by decide +kernel)
set_option maxRecDepth 20000 in
theorem gX5_valueAt_X5_get : GoodIn wsX5_valueAt (wsV RX5 43 RX5 yX5_get wsX5_get) := goodIn_app (goodIn_of _ (by decide +kernel)) ggX5_valueAt_X5_get
theorem dX5_valueAt_0 : decode cX5_valueAt 0 = .ok (.aload_n 0, 1) := by decide +kernel
theorem dX5_valueAt_1 : decode cX5_valueAt 1 = .ok (.bipush 12, 2) := by decide +kernel
theorem dX5_valueAt_3 : decode cX5_valueAt 3 = .ok (.iload_n 1, 1) := by decide +kernel
theorem dX5_valueAt_4 : decode cX5_valueAt 4 = .ok (.iadd, 1) := by decide +kernel
theorem dX5_valueAt_5 : decode cX5_valueAt 5 = .ok (.invokevirtual 43, 3) := by decide +kernel
theorem dX5_valueAt_8 : decode cX5_valueAt 8 = .ok (.ireturn, 1) := by decide +kernel
set_option maxRecDepth 20000 in
theorem ggX5_isWaiting_X5_get : GoodIn wsX5_isWaiting wsX5_get := goodIn_r _ [5, 6, 7, 8, 9, 10, 11, 12, 13, 14, 15, 16, 17, 18, 19, 20, 21, 22] (by decide +kernel) (by decide +kernel)
set_option maxRecDepth 20000 in
theorem gX5_isWaiting_X5_get : GoodIn wsX5_isWaiting (wsV RX5 43 RX5 yX5_get wsX5_get) := goodIn_app (goodIn_of _ (by decide +kernel)) ggX5_isWaiting_X5_get
theorem dX5_isWaiting_0 : decode cX5_isWaiting 0 = .ok (.aload_n 0, 1) := by decide +kernel
theorem dX5_isWaiting_1 : decode cX5_isWaiting 1 = .ok (.bipush 52, 2) := by decide +kernel
theorem dX5_isWaiting_3 : decode cX5_isWaiting 3 = .ok (.iload_n 1, 1) := by decide +kernel
theorem dX5_isWaiting_4 : decode cX5_isWaiting 4 = .ok (.iadd, 1) := by decide +kernel
theorem dX5_isWaiting_5 : decode cX5_isWaiting 5 = .ok (.invokevirtual 43, 3) := by decide +kernel
theorem dX5_isWaiting_8 : decode cX5_isWaiting 8 = .ok (.iconst 1, 1) := by decide +kernel
theorem dX5_isWaiting_9 : decode cX5_isWaiting 9 = .ok (.if_icmp .ne 7, 3) := by decide +kernel
theorem dX5_isWaiting_12 : decode cX5_isWaiting 12 = .ok (.iconst 1, 1) := by decide +kernel
theorem dX5_isWaiting_13 : decode cX5_isWaiting 13 = .ok (.goto 4, 3) := by decide +kernel
theorem dX5_isWaiting_16 : decode cX5_isWaiting 16 = .ok (.iconst 0, 1) := by decide +kernel
theorem dX5_isWaiting_17 : decode cX5_isWaiting 17 = .ok (.ireturn, 1) := by decide +kernel
set_option maxRecDepth 20000 in
theorem ggX5_waiting_X5_size : GoodIn wsX5_waiting wsX5_size := goodIn_r _ [5, 6, 7, 8, 4, 9, 10, 11, 12, 13, 14, 15, 16, 17, 18, 19, 20, 21, 22, 23, 24, 25, 26] (by decide +kernel) (by decide +kernel)
set_option maxRecDepth 20000 in
theorem gX5_waiting_X5_size : GoodIn wsX5_waiting (wsV RX5 50 RX5 yX5_size wsX5_size) := goodIn_app (goodIn_of _ (by decide +kernel)) ggX5_waiting_X5_size
set_option maxRecDepth 20000 in
theorem ggX5_waiting_X5_get : GoodIn wsX5_waiting wsX5_get := goodIn_r _ [9, 10, 11, 12, 13, 14, 15, 16, 17, 18, 19, 20, 21, 22, 23, 24, 25, 26] (by decide +kernel) (by decide +kernel)
set_option maxRecDepth 20000 in
theorem gX5_waiting_X5_get : GoodIn wsX5_waiting (wsV RX5 43 RX5 yX5_get wsX5_get) := goodIn_app (goodIn_of _ (by decide +kernel)) ggX5_waiting_X5_get
theorem dX5_waiting_0 : decode cX5_waiting 0 = .ok (.iconst 0, 1) := by decide +kernel
theorem dX5_waiting_1 : decode cX5_waiting 1 = .ok (.istore_n 1, 1) := by decide +kernel
theorem dX5_waiting_2 : decode cX5_waiting 2 = .ok (.iconst 0, 1) := by decide +kernel
theorem dX5_waiting_3 : decode cX5_waiting 3 = .ok (.istore_n 2, 1) := by decide +kernel
theorem dX5_waiting_4 : decode cX5_waiting 4 = .ok (.iload_n 2, 1) := by decide +kernel
theorem dX5_waiting_5 : decode cX5_waiting 5 = .ok (.aload_n 0, 1) := by decide +kernel
theorem dX5_waiting_6 : decode cX5_waiting 6 = .ok (.invokevirtual 50, 3) := by decide +kernel
theorem dX5_waiting_9 : decode cX5_waiting 9 = .ok (.if_icmp .ge 20, 3) := by decide +kernel
theorem dX5_waiting_12 : decode cX5_waiting 12 = .ok (.iload_n 1, 1) := by decide +kernel
theorem dX5_waiting_13 : decode cX5_waiting 13 = .ok (.aload_n 0, 1) := by decide +kernel
theorem dX5_waiting_14 : decode cX5_waiting 14 = .ok (.bipush 52, 2) := by decide +kernel
theorem dX5_waiting_16 : decode cX5_waiting 16 = .ok (.iload_n 2, 1) := by decide +kernel
theorem dX5_waiting_17 : decode cX5_waiting 17 = .ok (.iadd, 1) := by decide +kernel
theorem dX5_waiting_18 : decode cX5_waiting 18 = .ok (.invokevirtual 43, 3) := by decide +kernel
theorem dX5_waiting_21 : decode cX5_waiting 21 = .ok (.iadd, 1) := by decide +kernel
theorem dX5_waiting_22 : decode cX5_waiting 22 = .ok (.istore_n 1, 1) := by decide +kernel
theorem dX5_waiting_23 : decode cX5_waiting 23 = .ok (.iinc 2 1, 3) := by decide +kernel
theorem dX5_waiting_26 : decode cX5_waiting 26 = .ok (.goto (-22), 3) := by decide +kernel
theorem dX5_waiting_29 : decode cX5_waiting 29 = .ok (.iload_n 1, 1) := by decide +kernel
theorem dX5_waiting_30 : decode cX5_waiting 30 = .ok (.ireturn, 1) := by decide +kernel
set_option maxRecDepth 20000 in
theorem ggX5_leastIn_X5_valueAt : GoodIn wsX5_leastIn wsX5_valueAt := goodIn_r _ [5, 6, 7, 8, 4, 9, 10, 11, 12, 13, 14, 15, 16, 17, 18, 19, 20, 21, 22, 23, 24, 25, 26] (by decide +kernel) (by decide +kernel)
set_option maxRecDepth 20000 in
theorem gX5_leastIn_X5_valueAt : GoodIn wsX5_leastIn (wsV RX5 54 RX5 yX5_valueAt wsX5_valueAt) := goodIn_app (goodIn_of _ (by decide +kernel)) ggX5_leastIn_X5_valueAt
theorem dX5_leastIn_0 : decode cX5_leastIn 0 = .ok (.iload_n 1, 1) := by decide +kernel
theorem dX5_leastIn_1 : decode cX5_leastIn 1 = .ok (.istore_n 3, 1) := by decide +kernel
theorem dX5_leastIn_2 : decode cX5_leastIn 2 = .ok (.iload_n 1, 1) := by decide +kernel
theorem dX5_leastIn_3 : decode cX5_leastIn 3 = .ok (.iconst 1, 1) := by decide +kernel
theorem dX5_leastIn_4 : decode cX5_leastIn 4 = .ok (.iadd, 1) := by decide +kernel
theorem dX5_leastIn_5 : decode cX5_leastIn 5 = .ok (.istore 4, 2) := by decide +kernel
theorem dX5_leastIn_7 : decode cX5_leastIn 7 = .ok (.iload 4, 2) := by decide +kernel
theorem dX5_leastIn_9 : decode cX5_leastIn 9 = .ok (.iload_n 2, 1) := by decide +kernel
theorem dX5_leastIn_10 : decode cX5_leastIn 10 = .ok (.if_icmp .gt 26, 3) := by decide +kernel
theorem dX5_leastIn_13 : decode cX5_leastIn 13 = .ok (.aload_n 0, 1) := by decide +kernel
theorem dX5_leastIn_14 : decode cX5_leastIn 14 = .ok (.iload 4, 2) := by decide +kernel
theorem dX5_leastIn_16 : decode cX5_leastIn 16 = .ok (.invokevirtual 54, 3) := by decide +kernel
theorem dX5_leastIn_19 : decode cX5_leastIn 19 = .ok (.aload_n 0, 1) := by decide +kernel
theorem dX5_leastIn_20 : decode cX5_leastIn 20 = .ok (.iload_n 3, 1) := by decide +kernel
theorem dX5_leastIn_21 : decode cX5_leastIn 21 = .ok (.invokevirtual 54, 3) := by decide +kernel
theorem dX5_leastIn_24 : decode cX5_leastIn 24 = .ok (.if_icmp .ge 6, 3) := by decide +kernel
theorem dX5_leastIn_27 : decode cX5_leastIn 27 = .ok (.iload 4, 2) := by decide +kernel
theorem dX5_leastIn_29 : decode cX5_leastIn 29 = .ok (.istore_n 3, 1) := by decide +kernel
theorem dX5_leastIn_30 : decode cX5_leastIn 30 = .ok (.iinc 4 1, 3) := by decide +kernel
theorem dX5_leastIn_33 : decode cX5_leastIn 33 = .ok (.goto (-26), 3) := by decide +kernel
theorem dX5_leastIn_36 : decode cX5_leastIn 36 = .ok (.iload_n 3, 1) := by decide +kernel
theorem dX5_leastIn_37 : decode cX5_leastIn 37 = .ok (.ireturn, 1) := by decide +kernel
set_option maxRecDepth 20000 in
theorem ggX5_cellsOn_X5_size : GoodIn wsX5_cellsOn wsX5_size := goodIn_r _ [9, 10, 11, 12, 8, 13, 14, 15, 16, 17, 18, 19, 20, 21, 22, 23, 24, 25, 26, 27, 28, 29, 30] (by decide +kernel) (by decide +kernel)
set_option maxRecDepth 20000 in
theorem gX5_cellsOn_X5_size : GoodIn wsX5_cellsOn (wsV RX5 50 RX5 yX5_size wsX5_size) := goodIn_app (goodIn_of _ (by decide +kernel)) ggX5_cellsOn_X5_size
theorem dX5_cellsOn_0 : decode cX5_cellsOn 0 = .ok (.iconst 0, 1) := by decide +kernel
theorem dX5_cellsOn_1 : decode cX5_cellsOn 1 = .ok (.aload_n 0, 1) := by decide +kernel
theorem dX5_cellsOn_2 : decode cX5_cellsOn 2 = .ok (.invokevirtual 50, 3) := by decide +kernel
theorem dX5_cellsOn_5 : decode cX5_cellsOn 5 = .ok (.iconst 1, 1) := by decide +kernel
theorem dX5_cellsOn_6 : decode cX5_cellsOn 6 = .ok (.iload_n 1, 1) := by decide +kernel
theorem dX5_cellsOn_7 : decode cX5_cellsOn 7 = .ok (.ishl, 1) := by decide +kernel
theorem dX5_cellsOn_8 : decode cX5_cellsOn 8 = .ok (.isub, 1) := by decide +kernel
theorem dX5_cellsOn_9 : decode cX5_cellsOn 9 = .ok (.iconst 1, 1) := by decide +kernel
theorem dX5_cellsOn_10 : decode cX5_cellsOn 10 = .ok (.iadd, 1) := by decide +kernel
theorem dX5_cellsOn_11 : decode cX5_cellsOn 11 = .ok (.invokestatic 57, 3) := by decide +kernel
theorem dX5_cellsOn_14 : decode cX5_cellsOn 14 = .ok (.ireturn, 1) := by decide +kernel
set_option maxRecDepth 20000 in
theorem ggX5_allCells_X5_cellsOn : GoodIn wsX5_allCells wsX5_cellsOn := goodIn_r _ [5, 6, 7, 8, 9, 10, 11, 12, 4, 13, 14, 15, 16, 17, 18, 19, 20, 21, 22, 23, 24, 25, 26, 27, 28, 29, 30, 31, 32, 33, 34] (by decide +kernel) (by decide +kernel)
set_option maxRecDepth 20000 in
theorem gX5_allCells_X5_cellsOn : GoodIn wsX5_allCells (wsV RX5 63 RX5 yX5_cellsOn wsX5_cellsOn) := goodIn_app (goodIn_of _ (by decide +kernel)) ggX5_allCells_X5_cellsOn
theorem dX5_allCells_0 : decode cX5_allCells 0 = .ok (.iconst 0, 1) := by decide +kernel
theorem dX5_allCells_1 : decode cX5_allCells 1 = .ok (.istore_n 1, 1) := by decide +kernel
theorem dX5_allCells_2 : decode cX5_allCells 2 = .ok (.iconst 1, 1) := by decide +kernel
theorem dX5_allCells_3 : decode cX5_allCells 3 = .ok (.istore_n 2, 1) := by decide +kernel
theorem dX5_allCells_4 : decode cX5_allCells 4 = .ok (.iload_n 2, 1) := by decide +kernel
theorem dX5_allCells_5 : decode cX5_allCells 5 = .ok (.iconst 5, 1) := by decide +kernel
theorem dX5_allCells_6 : decode cX5_allCells 6 = .ok (.if_icmp .gt 17, 3) := by decide +kernel
theorem dX5_allCells_9 : decode cX5_allCells 9 = .ok (.iload_n 1, 1) := by decide +kernel
theorem dX5_allCells_10 : decode cX5_allCells 10 = .ok (.aload_n 0, 1) := by decide +kernel
theorem dX5_allCells_11 : decode cX5_allCells 11 = .ok (.iload_n 2, 1) := by decide +kernel
theorem dX5_allCells_12 : decode cX5_allCells 12 = .ok (.invokevirtual 63, 3) := by decide +kernel
theorem dX5_allCells_15 : decode cX5_allCells 15 = .ok (.iadd, 1) := by decide +kernel
theorem dX5_allCells_16 : decode cX5_allCells 16 = .ok (.istore_n 1, 1) := by decide +kernel
theorem dX5_allCells_17 : decode cX5_allCells 17 = .ok (.iinc 2 1, 3) := by decide +kernel
theorem dX5_allCells_20 : decode cX5_allCells 20 = .ok (.goto (-16), 3) := by decide +kernel
theorem dX5_allCells_23 : decode cX5_allCells 23 = .ok (.iload_n 1, 1) := by decide +kernel
theorem dX5_allCells_24 : decode cX5_allCells 24 = .ok (.ireturn, 1) := by decide +kernel
theorem dX5_cellAt_0 : decode cX5_cellAt 0 = .ok (.bipush 92, 2) := by decide +kernel
theorem dX5_cellAt_2 : decode cX5_cellAt 2 = .ok (.bipush 40, 2) := by decide +kernel
theorem dX5_cellAt_4 : decode cX5_cellAt 4 = .ok (.iload_n 0, 1) := by decide +kernel
theorem dX5_cellAt_5 : decode cX5_cellAt 5 = .ok (.iconst 1, 1) := by decide +kernel
theorem dX5_cellAt_6 : decode cX5_cellAt 6 = .ok (.isub, 1) := by decide +kernel
theorem dX5_cellAt_7 : decode cX5_cellAt 7 = .ok (.imul, 1) := by decide +kernel
theorem dX5_cellAt_8 : decode cX5_cellAt 8 = .ok (.iadd, 1) := by decide +kernel
theorem dX5_cellAt_9 : decode cX5_cellAt 9 = .ok (.iload_n 1, 1) := by decide +kernel
theorem dX5_cellAt_10 : decode cX5_cellAt 10 = .ok (.iadd, 1) := by decide +kernel
theorem dX5_cellAt_11 : decode cX5_cellAt 11 = .ok (.ireturn, 1) := by decide +kernel
set_option maxRecDepth 20000 in
theorem ggX5_writes0_X5_cellAt : GoodIn wsX5_writes0 wsX5_cellAt := goodIn_r _ [4] (by decide +kernel) (by decide +kernel)
set_option maxRecDepth 20000 in
theorem gX5_writes0_X5_cellAt : GoodIn wsX5_writes0 (va_wsS RX5 66 yX5_cellAt wsX5_cellAt) := goodIn_app (goodIn_of _ (by decide +kernel)) ggX5_writes0_X5_cellAt
set_option maxRecDepth 20000 in
theorem ggX5_writes0_X5_leastIn : GoodIn wsX5_writes0 wsX5_leastIn := goodIn_r _ [8, 9, 10, 11, 3, 12, 13, 14, 15, 16, 17, 18, 27, 28, 29, 30, 31, 32, 33, 34, 35, 36, 37, 38, 39, 40, 41] (by decide +kernel) (by decide +kernel)
set_option maxRecDepth 20000 in
theorem gX5_writes0_X5_leastIn : GoodIn wsX5_writes0 (wsV RX5 69 RX5 yX5_leastIn wsX5_leastIn) := goodIn_app (goodIn_of _ (by decide +kernel)) ggX5_writes0_X5_leastIn
set_option maxRecDepth 20000 in
theorem ggX5_writes0_X5_put0 : GoodIn wsX5_writes0 wsX5_put0 := goodIn_r _ [22, 17, 18, 27, 28, 29, 30, 31, 32, 33, 34, 35, 36, 37, 38, 39, 40, 41] (by decide +kernel) (by decide +kernel)
set_option maxRecDepth 20000 in
theorem gX5_writes0_X5_put0 : GoodIn wsX5_writes0 (wsV RX5 30 RX5 yX5_put0 wsX5_put0) := goodIn_app (goodIn_of _ (by decide +kernel)) ggX5_writes0_X5_put0
set_option maxRecDepth 20000 in
theorem ggX5_writes0_X5_adds : GoodIn wsX5_writes0 wsX5_adds := goodIn_r _ [26, 13, 14, 15, 3, 16, 17, 18, 19, 20, 21, 22, 27, 28, 29, 30, 31, 32, 33, 34, 35, 36, 37, 38, 39, 40, 41] (by decide +kernel) (by decide +kernel)
set_option maxRecDepth 20000 in
theorem gX5_writes0_X5_adds : GoodIn wsX5_writes0 (wsV RX5 72 RX5 yX5_adds wsX5_adds) := goodIn_app (goodIn_of _ (by decide +kernel)) ggX5_writes0_X5_adds
theorem dX5_writes0_0 : decode cX5_writes0 0 = .ok (.aload_n 0, 1) := by decide +kernel
theorem dX5_writes0_1 : decode cX5_writes0 1 = .ok (.iload_n 1, 1) := by decide +kernel
theorem dX5_writes0_2 : decode cX5_writes0 2 = .ok (.iload_n 2, 1) := by decide +kernel
theorem dX5_writes0_3 : decode cX5_writes0 3 = .ok (.invokestatic 66, 3) := by decide +kernel
theorem dX5_writes0_6 : decode cX5_writes0 6 = .ok (.aload_n 0, 1) := by decide +kernel
theorem dX5_writes0_7 : decode cX5_writes0 7 = .ok (.iload_n 2, 1) := by decide +kernel
theorem dX5_writes0_8 : decode cX5_writes0 8 = .ok (.iload_n 2, 1) := by decide +kernel
theorem dX5_writes0_9 : decode cX5_writes0 9 = .ok (.iconst 1, 1) := by decide +kernel
theorem dX5_writes0_10 : decode cX5_writes0 10 = .ok (.iload_n 1, 1) := by decide +kernel
theorem dX5_writes0_11 : decode cX5_writes0 11 = .ok (.ishl, 1) := by decide +kernel
theorem dX5_writes0_12 : decode cX5_writes0 12 = .ok (.iadd, 1) := by decide +kernel
theorem dX5_writes0_13 : decode cX5_writes0 13 = .ok (.iconst 1, 1) := by decide +kernel
theorem dX5_writes0_14 : decode cX5_writes0 14 = .ok (.isub, 1) := by decide +kernel
theorem dX5_writes0_15 : decode cX5_writes0 15 = .ok (.invokevirtual 69, 3) := by decide +kernel
theorem dX5_writes0_18 : decode cX5_writes0 18 = .ok (.invokevirtual 30, 3) := by decide +kernel
theorem dX5_writes0_21 : decode cX5_writes0 21 = .ok (.aload_n 0, 1) := by decide +kernel
theorem dX5_writes0_22 : decode cX5_writes0 22 = .ok (.bipush 8, 2) := by decide +kernel
theorem dX5_writes0_24 : decode cX5_writes0 24 = .ok (.iconst 1, 1) := by decide +kernel
theorem dX5_writes0_25 : decode cX5_writes0 25 = .ok (.invokevirtual 72, 3) := by decide +kernel
theorem dX5_writes0_28 : decode cX5_writes0 28 = .ok (.return_, 1) := by decide +kernel
set_option maxRecDepth 20000 in
theorem ggX5_builds_X5_cellsOn : GoodIn wsX5_builds wsX5_cellsOn := goodIn_r _ [5, 6, 7, 8, 9, 10, 11, 12, 4, 13, 14, 15, 16, 17, 18, 19, 43, 44, 45, 46, 47, 48, 49, 50, 51, 52, 53, 54, 55, 56, 57] (by decide +kernel) (by decide +kernel)
set_option maxRecDepth 20000 in
theorem gX5_builds_X5_cellsOn : GoodIn wsX5_builds (wsV RX5 63 RX5 yX5_cellsOn wsX5_cellsOn) := goodIn_app (goodIn_of _ (by decide +kernel)) ggX5_builds_X5_cellsOn
set_option maxRecDepth 20000 in
theorem ggX5_builds_X5_writes0 : GoodIn wsX5_builds wsX5_writes0 := goodIn_r _ [23, 24, 25, 4, 26, 27, 28, 29, 30, 31, 32, 33, 34, 14, 15, 16, 17, 18, 19, 35, 36, 37, 38, 39, 40, 41, 42, 43, 44, 45, 46, 47, 48, 49, 50, 51, 52, 53, 54, 55, 56, 57] (by decide +kernel) (by decide +kernel)
set_option maxRecDepth 20000 in
theorem gX5_builds_X5_writes0 : GoodIn wsX5_builds (wsV RX5 75 RX5 yX5_writes0 wsX5_writes0) := goodIn_app (goodIn_of _ (by decide +kernel)) ggX5_builds_X5_writes0
set_option maxRecDepth 20000 in
theorem ggX5_builds_X5_put0 : GoodIn wsX5_builds wsX5_put0 := goodIn_r _ [38, 18, 19, 43, 44, 45, 46, 47, 48, 49, 50, 51, 52, 53, 54, 55, 56, 57] (by decide +kernel) (by decide +kernel)
set_option maxRecDepth 20000 in
theorem gX5_builds_X5_put0 : GoodIn wsX5_builds (wsV RX5 30 RX5 yX5_put0 wsX5_put0) := goodIn_app (goodIn_of _ (by decide +kernel)) ggX5_builds_X5_put0
set_option maxRecDepth 20000 in
theorem ggX5_builds_X5_adds : GoodIn wsX5_builds wsX5_adds := goodIn_r _ [42, 14, 15, 16, 4, 17, 18, 19, 35, 36, 37, 38, 43, 44, 45, 46, 47, 48, 49, 50, 51, 52, 53, 54, 55, 56, 57] (by decide +kernel) (by decide +kernel)
set_option maxRecDepth 20000 in
theorem gX5_builds_X5_adds : GoodIn wsX5_builds (wsV RX5 72 RX5 yX5_adds wsX5_adds) := goodIn_app (goodIn_of _ (by decide +kernel)) ggX5_builds_X5_adds
theorem dX5_builds_0 : decode cX5_builds 0 = .ok (.iconst 1, 1) := by decide +kernel
theorem dX5_builds_1 : decode cX5_builds 1 = .ok (.istore_n 1, 1) := by decide +kernel
theorem dX5_builds_2 : decode cX5_builds 2 = .ok (.iload_n 1, 1) := by decide +kernel
theorem dX5_builds_3 : decode cX5_builds 3 = .ok (.iconst 5, 1) := by decide +kernel
theorem dX5_builds_4 : decode cX5_builds 4 = .ok (.if_icmp .gt 32, 3) := by decide +kernel
theorem dX5_builds_7 : decode cX5_builds 7 = .ok (.iconst 0, 1) := by decide +kernel
theorem dX5_builds_8 : decode cX5_builds 8 = .ok (.istore_n 2, 1) := by decide +kernel
theorem dX5_builds_9 : decode cX5_builds 9 = .ok (.iload_n 2, 1) := by decide +kernel
theorem dX5_builds_10 : decode cX5_builds 10 = .ok (.aload_n 0, 1) := by decide +kernel
theorem dX5_builds_11 : decode cX5_builds 11 = .ok (.iload_n 1, 1) := by decide +kernel
theorem dX5_builds_12 : decode cX5_builds 12 = .ok (.invokevirtual 63, 3) := by decide +kernel
theorem dX5_builds_15 : decode cX5_builds 15 = .ok (.if_icmp .ge 15, 3) := by decide +kernel
theorem dX5_builds_18 : decode cX5_builds 18 = .ok (.aload_n 0, 1) := by decide +kernel
theorem dX5_builds_19 : decode cX5_builds 19 = .ok (.iload_n 1, 1) := by decide +kernel
theorem dX5_builds_20 : decode cX5_builds 20 = .ok (.iload_n 2, 1) := by decide +kernel
theorem dX5_builds_21 : decode cX5_builds 21 = .ok (.invokevirtual 75, 3) := by decide +kernel
theorem dX5_builds_24 : decode cX5_builds 24 = .ok (.iinc 2 1, 3) := by decide +kernel
theorem dX5_builds_27 : decode cX5_builds 27 = .ok (.goto (-18), 3) := by decide +kernel
theorem dX5_builds_30 : decode cX5_builds 30 = .ok (.iinc 1 1, 3) := by decide +kernel
theorem dX5_builds_33 : decode cX5_builds 33 = .ok (.goto (-31), 3) := by decide +kernel
theorem dX5_builds_36 : decode cX5_builds 36 = .ok (.iconst 0, 1) := by decide +kernel
theorem dX5_builds_37 : decode cX5_builds 37 = .ok (.istore_n 1, 1) := by decide +kernel
theorem dX5_builds_38 : decode cX5_builds 38 = .ok (.iload_n 1, 1) := by decide +kernel
theorem dX5_builds_39 : decode cX5_builds 39 = .ok (.bipush 40, 2) := by decide +kernel
theorem dX5_builds_41 : decode cX5_builds 41 = .ok (.if_icmp .ge 18, 3) := by decide +kernel
theorem dX5_builds_44 : decode cX5_builds 44 = .ok (.aload_n 0, 1) := by decide +kernel
theorem dX5_builds_45 : decode cX5_builds 45 = .ok (.bipush 52, 2) := by decide +kernel
theorem dX5_builds_47 : decode cX5_builds 47 = .ok (.iload_n 1, 1) := by decide +kernel
theorem dX5_builds_48 : decode cX5_builds 48 = .ok (.iadd, 1) := by decide +kernel
theorem dX5_builds_49 : decode cX5_builds 49 = .ok (.iconst 0, 1) := by decide +kernel
theorem dX5_builds_50 : decode cX5_builds 50 = .ok (.invokevirtual 30, 3) := by decide +kernel
theorem dX5_builds_53 : decode cX5_builds 53 = .ok (.iinc 1 1, 3) := by decide +kernel
theorem dX5_builds_56 : decode cX5_builds 56 = .ok (.goto (-18), 3) := by decide +kernel
theorem dX5_builds_59 : decode cX5_builds 59 = .ok (.aload_n 0, 1) := by decide +kernel
theorem dX5_builds_60 : decode cX5_builds 60 = .ok (.bipush 10, 2) := by decide +kernel
theorem dX5_builds_62 : decode cX5_builds 62 = .ok (.iconst 1, 1) := by decide +kernel
theorem dX5_builds_63 : decode cX5_builds 63 = .ok (.invokevirtual 72, 3) := by decide +kernel
theorem dX5_builds_66 : decode cX5_builds 66 = .ok (.return_, 1) := by decide +kernel
theorem dX5_tellsOf_0 : decode cX5_tellsOf 0 = .ok (.iload_n 2, 1) := by decide +kernel
theorem dX5_tellsOf_1 : decode cX5_tellsOf 1 = .ok (.iload_n 3, 1) := by decide +kernel
theorem dX5_tellsOf_2 : decode cX5_tellsOf 2 = .ok (.if_icmp .gt 16, 3) := by decide +kernel
theorem dX5_tellsOf_5 : decode cX5_tellsOf 5 = .ok (.iload_n 3, 1) := by decide +kernel
theorem dX5_tellsOf_6 : decode cX5_tellsOf 6 = .ok (.iload_n 2, 1) := by decide +kernel
theorem dX5_tellsOf_7 : decode cX5_tellsOf 7 = .ok (.iconst 1, 1) := by decide +kernel
theorem dX5_tellsOf_8 : decode cX5_tellsOf 8 = .ok (.iload_n 1, 1) := by decide +kernel
theorem dX5_tellsOf_9 : decode cX5_tellsOf 9 = .ok (.ishl, 1) := by decide +kernel
theorem dX5_tellsOf_10 : decode cX5_tellsOf 10 = .ok (.iadd, 1) := by decide +kernel
theorem dX5_tellsOf_11 : decode cX5_tellsOf 11 = .ok (.if_icmp .ge 7, 3) := by decide +kernel
theorem dX5_tellsOf_14 : decode cX5_tellsOf 14 = .ok (.iconst 1, 1) := by decide +kernel
theorem dX5_tellsOf_15 : decode cX5_tellsOf 15 = .ok (.goto 4, 3) := by decide +kernel
theorem dX5_tellsOf_18 : decode cX5_tellsOf 18 = .ok (.iconst 0, 1) := by decide +kernel
theorem dX5_tellsOf_19 : decode cX5_tellsOf 19 = .ok (.ireturn, 1) := by decide +kernel
set_option maxRecDepth 20000 in
theorem ggX5_cellsOf_X5_cellsOn : GoodIn wsX5_cellsOf wsX5_cellsOn := goodIn_r _ [5, 6, 7, 8, 9, 10, 11, 12, 4, 13, 14, 15, 16, 17, 18, 19, 24, 25, 26, 27, 28, 29, 30, 31, 32, 33, 34, 35, 36, 37, 38] (by decide +kernel) (by decide +kernel)
set_option maxRecDepth 20000 in
theorem gX5_cellsOf_X5_cellsOn : GoodIn wsX5_cellsOf (wsV RX5 63 RX5 yX5_cellsOn wsX5_cellsOn) := goodIn_app (goodIn_of _ (by decide +kernel)) ggX5_cellsOf_X5_cellsOn
set_option maxRecDepth 20000 in
theorem ggX5_cellsOf_X5_tellsOf : GoodIn wsX5_cellsOf wsX5_tellsOf := goodIn_r _ [23] (by decide +kernel) (by decide +kernel)
set_option maxRecDepth 20000 in
theorem gX5_cellsOf_X5_tellsOf : GoodIn wsX5_cellsOf (wsV RX5 78 RX5 yX5_tellsOf wsX5_tellsOf) := goodIn_app (goodIn_of _ (by decide +kernel)) ggX5_cellsOf_X5_tellsOf
theorem dX5_cellsOf_0 : decode cX5_cellsOf 0 = .ok (.iconst 0, 1) := by decide +kernel
theorem dX5_cellsOf_1 : decode cX5_cellsOf 1 = .ok (.istore_n 2, 1) := by decide +kernel
theorem dX5_cellsOf_2 : decode cX5_cellsOf 2 = .ok (.iconst 1, 1) := by decide +kernel
theorem dX5_cellsOf_3 : decode cX5_cellsOf 3 = .ok (.istore_n 3, 1) := by decide +kernel
theorem dX5_cellsOf_4 : decode cX5_cellsOf 4 = .ok (.iload_n 3, 1) := by decide +kernel
theorem dX5_cellsOf_5 : decode cX5_cellsOf 5 = .ok (.iconst 5, 1) := by decide +kernel
theorem dX5_cellsOf_6 : decode cX5_cellsOf 6 = .ok (.if_icmp .gt 47, 3) := by decide +kernel
theorem dX5_cellsOf_9 : decode cX5_cellsOf 9 = .ok (.iconst 0, 1) := by decide +kernel
theorem dX5_cellsOf_10 : decode cX5_cellsOf 10 = .ok (.istore 4, 2) := by decide +kernel
theorem dX5_cellsOf_12 : decode cX5_cellsOf 12 = .ok (.iload 4, 2) := by decide +kernel
theorem dX5_cellsOf_14 : decode cX5_cellsOf 14 = .ok (.aload_n 0, 1) := by decide +kernel
theorem dX5_cellsOf_15 : decode cX5_cellsOf 15 = .ok (.iload_n 3, 1) := by decide +kernel
theorem dX5_cellsOf_16 : decode cX5_cellsOf 16 = .ok (.invokevirtual 63, 3) := by decide +kernel
theorem dX5_cellsOf_19 : decode cX5_cellsOf 19 = .ok (.if_icmp .ge 28, 3) := by decide +kernel
theorem dX5_cellsOf_22 : decode cX5_cellsOf 22 = .ok (.iload_n 2, 1) := by decide +kernel
theorem dX5_cellsOf_23 : decode cX5_cellsOf 23 = .ok (.aload_n 0, 1) := by decide +kernel
theorem dX5_cellsOf_24 : decode cX5_cellsOf 24 = .ok (.iload_n 3, 1) := by decide +kernel
theorem dX5_cellsOf_25 : decode cX5_cellsOf 25 = .ok (.iload 4, 2) := by decide +kernel
theorem dX5_cellsOf_27 : decode cX5_cellsOf 27 = .ok (.iload_n 1, 1) := by decide +kernel
theorem dX5_cellsOf_28 : decode cX5_cellsOf 28 = .ok (.invokevirtual 78, 3) := by decide +kernel
theorem dX5_cellsOf_31 : decode cX5_cellsOf 31 = .ok (.ifCond .eq 7, 3) := by decide +kernel
theorem dX5_cellsOf_34 : decode cX5_cellsOf 34 = .ok (.iconst 1, 1) := by decide +kernel
theorem dX5_cellsOf_35 : decode cX5_cellsOf 35 = .ok (.goto 4, 3) := by decide +kernel
theorem dX5_cellsOf_38 : decode cX5_cellsOf 38 = .ok (.iconst 0, 1) := by decide +kernel
theorem dX5_cellsOf_39 : decode cX5_cellsOf 39 = .ok (.iadd, 1) := by decide +kernel
theorem dX5_cellsOf_40 : decode cX5_cellsOf 40 = .ok (.istore_n 2, 1) := by decide +kernel
theorem dX5_cellsOf_41 : decode cX5_cellsOf 41 = .ok (.iinc 4 1, 3) := by decide +kernel
theorem dX5_cellsOf_44 : decode cX5_cellsOf 44 = .ok (.goto (-32), 3) := by decide +kernel
theorem dX5_cellsOf_47 : decode cX5_cellsOf 47 = .ok (.iinc 3 1, 3) := by decide +kernel
theorem dX5_cellsOf_50 : decode cX5_cellsOf 50 = .ok (.goto (-46), 3) := by decide +kernel
theorem dX5_cellsOf_53 : decode cX5_cellsOf 53 = .ok (.iload_n 2, 1) := by decide +kernel
theorem dX5_cellsOf_54 : decode cX5_cellsOf 54 = .ok (.ireturn, 1) := by decide +kernel
set_option maxRecDepth 20000 in
theorem ggX5_sets_X5_valueAt : GoodIn wsX5_sets wsX5_valueAt := goodIn_r _ [5, 6, 7, 8, 4, 9, 10, 11, 55, 56, 57, 58, 59, 60, 61, 62, 63, 64, 65, 66, 67, 68, 69] (by decide +kernel) (by decide +kernel)
set_option maxRecDepth 20000 in
theorem gX5_sets_X5_valueAt : GoodIn wsX5_sets (wsV RX5 54 RX5 yX5_valueAt wsX5_valueAt) := goodIn_app (goodIn_of _ (by decide +kernel)) ggX5_sets_X5_valueAt
set_option maxRecDepth 20000 in
theorem ggX5_sets_X5_put0 : GoodIn wsX5_sets wsX5_put0 := goodIn_r _ [15, 10, 11, 55, 56, 57, 58, 59, 60, 61, 62, 63, 64, 65, 66, 67, 68, 69] (by decide +kernel) (by decide +kernel)
set_option maxRecDepth 20000 in
theorem gX5_sets_X5_put0 : GoodIn wsX5_sets (wsV RX5 30 RX5 yX5_put0 wsX5_put0) := goodIn_app (goodIn_of _ (by decide +kernel)) ggX5_sets_X5_put0
set_option maxRecDepth 20000 in
theorem ggX5_sets_X5_get : GoodIn wsX5_sets wsX5_get := goodIn_r _ [9, 10, 11, 55, 56, 57, 58, 59, 60, 61, 62, 63, 64, 65, 66, 67, 68, 69] (by decide +kernel) (by decide +kernel)
set_option maxRecDepth 20000 in
theorem gX5_sets_X5_get : GoodIn wsX5_sets (wsV RX5 43 RX5 yX5_get wsX5_get) := goodIn_app (goodIn_of _ (by decide +kernel)) ggX5_sets_X5_get
set_option maxRecDepth 20000 in
theorem ggX5_sets_X5_cellsOn : GoodIn wsX5_sets wsX5_cellsOn := goodIn_r _ [19, 20, 21, 22, 23, 24, 25, 26, 4, 27, 6, 7, 8, 9, 10, 11, 55, 56, 57, 58, 59, 60, 61, 62, 63, 64, 65, 66, 67, 68, 69] (by decide +kernel) (by decide +kernel)
set_option maxRecDepth 20000 in
theorem gX5_sets_X5_cellsOn : GoodIn wsX5_sets (wsV RX5 63 RX5 yX5_cellsOn wsX5_cellsOn) := goodIn_app (goodIn_of _ (by decide +kernel)) ggX5_sets_X5_cellsOn
set_option maxRecDepth 20000 in
theorem ggX5_sets_X5_tellsOf : GoodIn wsX5_sets wsX5_tellsOf := goodIn_r _ [31] (by decide +kernel) (by decide +kernel)
set_option maxRecDepth 20000 in
theorem gX5_sets_X5_tellsOf : GoodIn wsX5_sets (wsV RX5 78 RX5 yX5_tellsOf wsX5_tellsOf) := goodIn_app (goodIn_of _ (by decide +kernel)) ggX5_sets_X5_tellsOf
set_option maxRecDepth 20000 in
theorem ggX5_sets_X5_writes0 : GoodIn wsX5_sets wsX5_writes0 := goodIn_r _ [35, 36, 37, 4, 38, 39, 40, 41, 42, 1, 2, 3, 5, 6, 7, 8, 9, 10, 11, 12, 13, 14, 15, 43, 44, 45, 46, 55, 56, 57, 58, 59, 60, 61, 62, 63, 64, 65, 66, 67, 68, 69] (by decide +kernel) (by decide +kernel)
set_option maxRecDepth 20000 in
theorem gX5_sets_X5_writes0 : GoodIn wsX5_sets (wsV RX5 75 RX5 yX5_writes0 wsX5_writes0) := goodIn_app (goodIn_of _ (by decide +kernel)) ggX5_sets_X5_writes0
set_option maxRecDepth 20000 in
theorem ggX5_sets_X5_waiting : GoodIn wsX5_sets wsX5_waiting := goodIn_r _ [50, 24, 25, 26, 4, 27, 6, 7, 8, 9, 10, 11, 55, 56, 57, 58, 59, 60, 61, 62, 63, 64, 65, 66, 67, 68, 69] (by decide +kernel) (by decide +kernel)
set_option maxRecDepth 20000 in
theorem gX5_sets_X5_waiting : GoodIn wsX5_sets (wsV RX5 82 RX5 yX5_waiting wsX5_waiting) := goodIn_app (goodIn_of _ (by decide +kernel)) ggX5_sets_X5_waiting
set_option maxRecDepth 20000 in
theorem ggX5_sets_X5_builds : GoodIn wsX5_sets wsX5_builds := goodIn_r _ [54, 16, 17, 18, 4, 19, 20, 21, 22, 23, 24, 25, 26, 27, 6, 7, 8, 9, 10, 11, 32, 33, 34, 35, 36, 37, 38, 39, 40, 41, 42, 1, 2, 3, 5, 12, 13, 14, 15, 43, 44, 45, 46, 55, 56, 57, 58, 59, 60, 61, 62, 63, 64, 65, 66, 67, 68, 69] (by decide +kernel) (by decide +kernel)
set_option maxRecDepth 20000 in
theorem gX5_sets_X5_builds : GoodIn wsX5_sets (wsV RX5 34 RX5 yX5_builds wsX5_builds) := goodIn_app (goodIn_of _ (by decide +kernel)) ggX5_sets_X5_builds
theorem dX5_sets_0 : decode cX5_sets 0 = .ok (.aload_n 0, 1) := by decide +kernel
theorem dX5_sets_1 : decode cX5_sets 1 = .ok (.iload_n 1, 1) := by decide +kernel
theorem dX5_sets_2 : decode cX5_sets 2 = .ok (.invokevirtual 54, 3) := by decide +kernel
theorem dX5_sets_5 : decode cX5_sets 5 = .ok (.istore_n 3, 1) := by decide +kernel
theorem dX5_sets_6 : decode cX5_sets 6 = .ok (.aload_n 0, 1) := by decide +kernel
theorem dX5_sets_7 : decode cX5_sets 7 = .ok (.bipush 12, 2) := by decide +kernel
theorem dX5_sets_9 : decode cX5_sets 9 = .ok (.iload_n 1, 1) := by decide +kernel
theorem dX5_sets_10 : decode cX5_sets 10 = .ok (.iadd, 1) := by decide +kernel
theorem dX5_sets_11 : decode cX5_sets 11 = .ok (.iload_n 2, 1) := by decide +kernel
theorem dX5_sets_12 : decode cX5_sets 12 = .ok (.invokevirtual 30, 3) := by decide +kernel
theorem dX5_sets_15 : decode cX5_sets 15 = .ok (.aload_n 0, 1) := by decide +kernel
theorem dX5_sets_16 : decode cX5_sets 16 = .ok (.iconst 1, 1) := by decide +kernel
theorem dX5_sets_17 : decode cX5_sets 17 = .ok (.invokevirtual 43, 3) := by decide +kernel
theorem dX5_sets_20 : decode cX5_sets 20 = .ok (.iconst 1, 1) := by decide +kernel
theorem dX5_sets_21 : decode cX5_sets 21 = .ok (.if_icmp .ne 60, 3) := by decide +kernel
theorem dX5_sets_24 : decode cX5_sets 24 = .ok (.iconst 1, 1) := by decide +kernel
theorem dX5_sets_25 : decode cX5_sets 25 = .ok (.istore 4, 2) := by decide +kernel
theorem dX5_sets_27 : decode cX5_sets 27 = .ok (.iload 4, 2) := by decide +kernel
theorem dX5_sets_29 : decode cX5_sets 29 = .ok (.iconst 5, 1) := by decide +kernel
theorem dX5_sets_30 : decode cX5_sets 30 = .ok (.if_icmp .gt 49, 3) := by decide +kernel
theorem dX5_sets_33 : decode cX5_sets 33 = .ok (.iconst 0, 1) := by decide +kernel
theorem dX5_sets_34 : decode cX5_sets 34 = .ok (.istore 5, 2) := by decide +kernel
theorem dX5_sets_36 : decode cX5_sets 36 = .ok (.iload 5, 2) := by decide +kernel
theorem dX5_sets_38 : decode cX5_sets 38 = .ok (.aload_n 0, 1) := by decide +kernel
theorem dX5_sets_39 : decode cX5_sets 39 = .ok (.iload 4, 2) := by decide +kernel
theorem dX5_sets_41 : decode cX5_sets 41 = .ok (.invokevirtual 63, 3) := by decide +kernel
theorem dX5_sets_44 : decode cX5_sets 44 = .ok (.if_icmp .ge 29, 3) := by decide +kernel
theorem dX5_sets_47 : decode cX5_sets 47 = .ok (.aload_n 0, 1) := by decide +kernel
theorem dX5_sets_48 : decode cX5_sets 48 = .ok (.iload 4, 2) := by decide +kernel
theorem dX5_sets_50 : decode cX5_sets 50 = .ok (.iload 5, 2) := by decide +kernel
theorem dX5_sets_52 : decode cX5_sets 52 = .ok (.iload_n 1, 1) := by decide +kernel
theorem dX5_sets_53 : decode cX5_sets 53 = .ok (.invokevirtual 78, 3) := by decide +kernel
theorem dX5_sets_56 : decode cX5_sets 56 = .ok (.ifCond .eq 11, 3) := by decide +kernel
theorem dX5_sets_59 : decode cX5_sets 59 = .ok (.aload_n 0, 1) := by decide +kernel
theorem dX5_sets_60 : decode cX5_sets 60 = .ok (.iload 4, 2) := by decide +kernel
theorem dX5_sets_62 : decode cX5_sets 62 = .ok (.iload 5, 2) := by decide +kernel
theorem dX5_sets_64 : decode cX5_sets 64 = .ok (.invokevirtual 75, 3) := by decide +kernel
theorem dX5_sets_67 : decode cX5_sets 67 = .ok (.iinc 5 1, 3) := by decide +kernel
theorem dX5_sets_70 : decode cX5_sets 70 = .ok (.goto (-34), 3) := by decide +kernel
theorem dX5_sets_73 : decode cX5_sets 73 = .ok (.iinc 4 1, 3) := by decide +kernel
theorem dX5_sets_76 : decode cX5_sets 76 = .ok (.goto (-49), 3) := by decide +kernel
theorem dX5_sets_79 : decode cX5_sets 79 = .ok (.iload_n 3, 1) := by decide +kernel
theorem dX5_sets_80 : decode cX5_sets 80 = .ok (.ireturn, 1) := by decide +kernel
theorem dX5_sets_81 : decode cX5_sets 81 = .ok (.aload_n 0, 1) := by decide +kernel
theorem dX5_sets_82 : decode cX5_sets 82 = .ok (.bipush 52, 2) := by decide +kernel
theorem dX5_sets_84 : decode cX5_sets 84 = .ok (.iload_n 1, 1) := by decide +kernel
theorem dX5_sets_85 : decode cX5_sets 85 = .ok (.iadd, 1) := by decide +kernel
theorem dX5_sets_86 : decode cX5_sets 86 = .ok (.iconst 1, 1) := by decide +kernel
theorem dX5_sets_87 : decode cX5_sets 87 = .ok (.invokevirtual 30, 3) := by decide +kernel
theorem dX5_sets_90 : decode cX5_sets 90 = .ok (.aload_n 0, 1) := by decide +kernel
theorem dX5_sets_91 : decode cX5_sets 91 = .ok (.iconst 1, 1) := by decide +kernel
theorem dX5_sets_92 : decode cX5_sets 92 = .ok (.invokevirtual 43, 3) := by decide +kernel
theorem dX5_sets_95 : decode cX5_sets 95 = .ok (.iconst 2, 1) := by decide +kernel
theorem dX5_sets_96 : decode cX5_sets 96 = .ok (.if_icmp .ne 19, 3) := by decide +kernel
theorem dX5_sets_99 : decode cX5_sets 99 = .ok (.aload_n 0, 1) := by decide +kernel
theorem dX5_sets_100 : decode cX5_sets 100 = .ok (.invokevirtual 82, 3) := by decide +kernel
theorem dX5_sets_103 : decode cX5_sets 103 = .ok (.aload_n 0, 1) := by decide +kernel
theorem dX5_sets_104 : decode cX5_sets 104 = .ok (.iconst 2, 1) := by decide +kernel
theorem dX5_sets_105 : decode cX5_sets 105 = .ok (.invokevirtual 43, 3) := by decide +kernel
theorem dX5_sets_108 : decode cX5_sets 108 = .ok (.if_icmp .le 7, 3) := by decide +kernel
theorem dX5_sets_111 : decode cX5_sets 111 = .ok (.aload_n 0, 1) := by decide +kernel
theorem dX5_sets_112 : decode cX5_sets 112 = .ok (.invokevirtual 34, 3) := by decide +kernel
theorem dX5_sets_115 : decode cX5_sets 115 = .ok (.iload_n 3, 1) := by decide +kernel
theorem dX5_sets_116 : decode cX5_sets 116 = .ok (.ireturn, 1) := by decide +kernel
theorem dX5_levelOf_0 : decode cX5_levelOf 0 = .ok (.iconst 0, 1) := by decide +kernel
theorem dX5_levelOf_1 : decode cX5_levelOf 1 = .ok (.istore_n 2, 1) := by decide +kernel
theorem dX5_levelOf_2 : decode cX5_levelOf 2 = .ok (.iconst 2, 1) := by decide +kernel
theorem dX5_levelOf_3 : decode cX5_levelOf 3 = .ok (.iload_n 2, 1) := by decide +kernel
theorem dX5_levelOf_4 : decode cX5_levelOf 4 = .ok (.ishl, 1) := by decide +kernel
theorem dX5_levelOf_5 : decode cX5_levelOf 5 = .ok (.iload_n 1, 1) := by decide +kernel
theorem dX5_levelOf_6 : decode cX5_levelOf 6 = .ok (.if_icmp .gt 9, 3) := by decide +kernel
theorem dX5_levelOf_9 : decode cX5_levelOf 9 = .ok (.iinc 2 1, 3) := by decide +kernel
theorem dX5_levelOf_12 : decode cX5_levelOf 12 = .ok (.goto (-10), 3) := by decide +kernel
theorem dX5_levelOf_15 : decode cX5_levelOf 15 = .ok (.iload_n 2, 1) := by decide +kernel
theorem dX5_levelOf_16 : decode cX5_levelOf 16 = .ok (.ireturn, 1) := by decide +kernel
set_option maxRecDepth 20000 in
theorem ggX5_runEnd_X5_isWaiting : GoodIn wsX5_runEnd wsX5_isWaiting := goodIn_r _ [5, 6, 7, 8, 4, 9, 10, 11, 12, 13, 14, 15, 16, 17, 18, 19, 20, 21, 22, 23, 24, 25, 26] (by decide +kernel) (by decide +kernel)
set_option maxRecDepth 20000 in
theorem gX5_runEnd_X5_isWaiting : GoodIn wsX5_runEnd (wsV RX5 85 RX5 yX5_isWaiting wsX5_isWaiting) := goodIn_app (goodIn_of _ (by decide +kernel)) ggX5_runEnd_X5_isWaiting
theorem dX5_runEnd_0 : decode cX5_runEnd 0 = .ok (.iload_n 1, 1) := by decide +kernel
theorem dX5_runEnd_1 : decode cX5_runEnd 1 = .ok (.istore_n 3, 1) := by decide +kernel
theorem dX5_runEnd_2 : decode cX5_runEnd 2 = .ok (.iload_n 3, 1) := by decide +kernel
theorem dX5_runEnd_3 : decode cX5_runEnd 3 = .ok (.iload_n 2, 1) := by decide +kernel
theorem dX5_runEnd_4 : decode cX5_runEnd 4 = .ok (.if_icmp .ge 19, 3) := by decide +kernel
theorem dX5_runEnd_7 : decode cX5_runEnd 7 = .ok (.aload_n 0, 1) := by decide +kernel
theorem dX5_runEnd_8 : decode cX5_runEnd 8 = .ok (.iload_n 3, 1) := by decide +kernel
theorem dX5_runEnd_9 : decode cX5_runEnd 9 = .ok (.iconst 1, 1) := by decide +kernel
theorem dX5_runEnd_10 : decode cX5_runEnd 10 = .ok (.iadd, 1) := by decide +kernel
theorem dX5_runEnd_11 : decode cX5_runEnd 11 = .ok (.invokevirtual 85, 3) := by decide +kernel
theorem dX5_runEnd_14 : decode cX5_runEnd 14 = .ok (.ifCond .ne 9, 3) := by decide +kernel
theorem dX5_runEnd_17 : decode cX5_runEnd 17 = .ok (.iinc 3 1, 3) := by decide +kernel
theorem dX5_runEnd_20 : decode cX5_runEnd 20 = .ok (.goto (-18), 3) := by decide +kernel
theorem dX5_runEnd_23 : decode cX5_runEnd 23 = .ok (.iload_n 3, 1) := by decide +kernel
theorem dX5_runEnd_24 : decode cX5_runEnd 24 = .ok (.ireturn, 1) := by decide +kernel
set_option maxRecDepth 20000 in
theorem ggX5_looksIn_X5_isWaiting : GoodIn wsX5_looksIn wsX5_isWaiting := goodIn_r _ [5, 6, 7, 8, 4, 9, 10, 11, 20, 21, 22, 23, 24, 25, 26, 27, 28, 29, 30, 31, 32, 33, 34] (by decide +kernel) (by decide +kernel)
set_option maxRecDepth 20000 in
theorem gX5_looksIn_X5_isWaiting : GoodIn wsX5_looksIn (wsV RX5 85 RX5 yX5_isWaiting wsX5_isWaiting) := goodIn_app (goodIn_of _ (by decide +kernel)) ggX5_looksIn_X5_isWaiting
set_option maxRecDepth 20000 in
theorem ggX5_looksIn_X5_runEnd : GoodIn wsX5_looksIn wsX5_runEnd := goodIn_r _ [15, 1, 2, 3, 4, 5, 6, 7, 8, 9, 10, 11, 20, 21, 22, 23, 24, 25, 26, 27, 28, 29, 30, 31, 32, 33, 34] (by decide +kernel) (by decide +kernel)
set_option maxRecDepth 20000 in
theorem gX5_looksIn_X5_runEnd : GoodIn wsX5_looksIn (wsV RX5 89 RX5 yX5_runEnd wsX5_runEnd) := goodIn_app (goodIn_of _ (by decide +kernel)) ggX5_looksIn_X5_runEnd
set_option maxRecDepth 20000 in
theorem ggX5_looksIn_X5_levelOf : GoodIn wsX5_looksIn wsX5_levelOf := goodIn_r _ [19] (by decide +kernel) (by decide +kernel)
set_option maxRecDepth 20000 in
theorem gX5_looksIn_X5_levelOf : GoodIn wsX5_looksIn (wsV RX5 92 RX5 yX5_levelOf wsX5_levelOf) := goodIn_app (goodIn_of _ (by decide +kernel)) ggX5_looksIn_X5_levelOf
theorem dX5_looksIn_0 : decode cX5_looksIn 0 = .ok (.iconst 0, 1) := by decide +kernel
theorem dX5_looksIn_1 : decode cX5_looksIn 1 = .ok (.istore_n 3, 1) := by decide +kernel
theorem dX5_looksIn_2 : decode cX5_looksIn 2 = .ok (.iload_n 1, 1) := by decide +kernel
theorem dX5_looksIn_3 : decode cX5_looksIn 3 = .ok (.istore 4, 2) := by decide +kernel
theorem dX5_looksIn_5 : decode cX5_looksIn 5 = .ok (.iload 4, 2) := by decide +kernel
theorem dX5_looksIn_7 : decode cX5_looksIn 7 = .ok (.iload_n 2, 1) := by decide +kernel
theorem dX5_looksIn_8 : decode cX5_looksIn 8 = .ok (.if_icmp .gt 65, 3) := by decide +kernel
theorem dX5_looksIn_11 : decode cX5_looksIn 11 = .ok (.aload_n 0, 1) := by decide +kernel
theorem dX5_looksIn_12 : decode cX5_looksIn 12 = .ok (.iload 4, 2) := by decide +kernel
theorem dX5_looksIn_14 : decode cX5_looksIn 14 = .ok (.invokevirtual 85, 3) := by decide +kernel
theorem dX5_looksIn_17 : decode cX5_looksIn 17 = .ok (.ifCond .eq 8, 3) := by decide +kernel
theorem dX5_looksIn_20 : decode cX5_looksIn 20 = .ok (.iload 4, 2) := by decide +kernel
theorem dX5_looksIn_22 : decode cX5_looksIn 22 = .ok (.goto 10, 3) := by decide +kernel
theorem dX5_looksIn_25 : decode cX5_looksIn 25 = .ok (.aload_n 0, 1) := by decide +kernel
theorem dX5_looksIn_26 : decode cX5_looksIn 26 = .ok (.iload 4, 2) := by decide +kernel
theorem dX5_looksIn_28 : decode cX5_looksIn 28 = .ok (.iload_n 2, 1) := by decide +kernel
theorem dX5_looksIn_29 : decode cX5_looksIn 29 = .ok (.invokevirtual 89, 3) := by decide +kernel
theorem dX5_looksIn_32 : decode cX5_looksIn 32 = .ok (.istore 5, 2) := by decide +kernel
theorem dX5_looksIn_34 : decode cX5_looksIn 34 = .ok (.iload 5, 2) := by decide +kernel
theorem dX5_looksIn_36 : decode cX5_looksIn 36 = .ok (.iload 4, 2) := by decide +kernel
theorem dX5_looksIn_38 : decode cX5_looksIn 38 = .ok (.isub, 1) := by decide +kernel
theorem dX5_looksIn_39 : decode cX5_looksIn 39 = .ok (.iconst 1, 1) := by decide +kernel
theorem dX5_looksIn_40 : decode cX5_looksIn 40 = .ok (.iadd, 1) := by decide +kernel
theorem dX5_looksIn_41 : decode cX5_looksIn 41 = .ok (.istore 6, 2) := by decide +kernel
theorem dX5_looksIn_43 : decode cX5_looksIn 43 = .ok (.iload_n 3, 1) := by decide +kernel
theorem dX5_looksIn_44 : decode cX5_looksIn 44 = .ok (.iconst 1, 1) := by decide +kernel
theorem dX5_looksIn_45 : decode cX5_looksIn 45 = .ok (.aload_n 0, 1) := by decide +kernel
theorem dX5_looksIn_46 : decode cX5_looksIn 46 = .ok (.iload 6, 2) := by decide +kernel
theorem dX5_looksIn_48 : decode cX5_looksIn 48 = .ok (.invokevirtual 92, 3) := by decide +kernel
theorem dX5_looksIn_51 : decode cX5_looksIn 51 = .ok (.ishl, 1) := by decide +kernel
theorem dX5_looksIn_52 : decode cX5_looksIn 52 = .ok (.iload 6, 2) := by decide +kernel
theorem dX5_looksIn_54 : decode cX5_looksIn 54 = .ok (.if_icmp .ne 7, 3) := by decide +kernel
theorem dX5_looksIn_57 : decode cX5_looksIn 57 = .ok (.iconst 1, 1) := by decide +kernel
theorem dX5_looksIn_58 : decode cX5_looksIn 58 = .ok (.goto 4, 3) := by decide +kernel
theorem dX5_looksIn_61 : decode cX5_looksIn 61 = .ok (.iconst 2, 1) := by decide +kernel
theorem dX5_looksIn_62 : decode cX5_looksIn 62 = .ok (.iadd, 1) := by decide +kernel
theorem dX5_looksIn_63 : decode cX5_looksIn 63 = .ok (.istore_n 3, 1) := by decide +kernel
theorem dX5_looksIn_64 : decode cX5_looksIn 64 = .ok (.iload 5, 2) := by decide +kernel
theorem dX5_looksIn_66 : decode cX5_looksIn 66 = .ok (.iconst 1, 1) := by decide +kernel
theorem dX5_looksIn_67 : decode cX5_looksIn 67 = .ok (.iadd, 1) := by decide +kernel
theorem dX5_looksIn_68 : decode cX5_looksIn 68 = .ok (.istore 4, 2) := by decide +kernel
theorem dX5_looksIn_70 : decode cX5_looksIn 70 = .ok (.goto (-65), 3) := by decide +kernel
theorem dX5_looksIn_73 : decode cX5_looksIn 73 = .ok (.iload_n 3, 1) := by decide +kernel
theorem dX5_looksIn_74 : decode cX5_looksIn 74 = .ok (.ireturn, 1) := by decide +kernel
set_option maxRecDepth 20000 in
theorem ggX5_toldBy_X5_cellAt : GoodIn wsX5_toldBy wsX5_cellAt := goodIn_r _ [4] (by decide +kernel) (by decide +kernel)
set_option maxRecDepth 20000 in
theorem gX5_toldBy_X5_cellAt : GoodIn wsX5_toldBy (va_wsS RX5 66 yX5_cellAt wsX5_cellAt) := goodIn_app (goodIn_of _ (by decide +kernel)) ggX5_toldBy_X5_cellAt
set_option maxRecDepth 20000 in
theorem ggX5_toldBy_X5_get : GoodIn wsX5_toldBy wsX5_get := goodIn_r _ [8, 9, 10, 11, 12, 13, 14, 15, 16, 17, 18, 19, 20, 21, 22, 23, 24, 25] (by decide +kernel) (by decide +kernel)
set_option maxRecDepth 20000 in
theorem gX5_toldBy_X5_get : GoodIn wsX5_toldBy (wsV RX5 43 RX5 yX5_get wsX5_get) := goodIn_app (goodIn_of _ (by decide +kernel)) ggX5_toldBy_X5_get
theorem dX5_toldBy_0 : decode cX5_toldBy 0 = .ok (.iload_n 1, 1) := by decide +kernel
theorem dX5_toldBy_1 : decode cX5_toldBy 1 = .ok (.ifCond .ne 7, 3) := by decide +kernel
theorem dX5_toldBy_4 : decode cX5_toldBy 4 = .ok (.iload_n 2, 1) := by decide +kernel
theorem dX5_toldBy_5 : decode cX5_toldBy 5 = .ok (.goto 12, 3) := by decide +kernel
theorem dX5_toldBy_8 : decode cX5_toldBy 8 = .ok (.aload_n 0, 1) := by decide +kernel
theorem dX5_toldBy_9 : decode cX5_toldBy 9 = .ok (.iload_n 1, 1) := by decide +kernel
theorem dX5_toldBy_10 : decode cX5_toldBy 10 = .ok (.iload_n 2, 1) := by decide +kernel
theorem dX5_toldBy_11 : decode cX5_toldBy 11 = .ok (.invokestatic 66, 3) := by decide +kernel
theorem dX5_toldBy_14 : decode cX5_toldBy 14 = .ok (.invokevirtual 43, 3) := by decide +kernel
theorem dX5_toldBy_17 : decode cX5_toldBy 17 = .ok (.ireturn, 1) := by decide +kernel
set_option maxRecDepth 20000 in
theorem ggX5_lesser_X5_valueAt : GoodIn wsX5_lesser wsX5_valueAt := goodIn_r _ [5, 6, 7, 8, 4, 9, 10, 11, 12, 13, 14, 15, 16, 17, 18, 19, 20, 21, 22, 23, 24, 25, 26] (by decide +kernel) (by decide +kernel)
set_option maxRecDepth 20000 in
theorem gX5_lesser_X5_valueAt : GoodIn wsX5_lesser (wsV RX5 54 RX5 yX5_valueAt wsX5_valueAt) := goodIn_app (goodIn_of _ (by decide +kernel)) ggX5_lesser_X5_valueAt
theorem dX5_lesser_0 : decode cX5_lesser 0 = .ok (.iload_n 1, 1) := by decide +kernel
theorem dX5_lesser_1 : decode cX5_lesser 1 = .ok (.iconst (-1), 1) := by decide +kernel
theorem dX5_lesser_2 : decode cX5_lesser 2 = .ok (.if_icmp .eq 16, 3) := by decide +kernel
theorem dX5_lesser_5 : decode cX5_lesser 5 = .ok (.aload_n 0, 1) := by decide +kernel
theorem dX5_lesser_6 : decode cX5_lesser 6 = .ok (.iload_n 2, 1) := by decide +kernel
theorem dX5_lesser_7 : decode cX5_lesser 7 = .ok (.invokevirtual 54, 3) := by decide +kernel
theorem dX5_lesser_10 : decode cX5_lesser 10 = .ok (.aload_n 0, 1) := by decide +kernel
theorem dX5_lesser_11 : decode cX5_lesser 11 = .ok (.iload_n 1, 1) := by decide +kernel
theorem dX5_lesser_12 : decode cX5_lesser 12 = .ok (.invokevirtual 54, 3) := by decide +kernel
theorem dX5_lesser_15 : decode cX5_lesser 15 = .ok (.if_icmp .ge 7, 3) := by decide +kernel
theorem dX5_lesser_18 : decode cX5_lesser 18 = .ok (.iload_n 2, 1) := by decide +kernel
theorem dX5_lesser_19 : decode cX5_lesser 19 = .ok (.goto 4, 3) := by decide +kernel
theorem dX5_lesser_22 : decode cX5_lesser 22 = .ok (.iload_n 1, 1) := by decide +kernel
theorem dX5_lesser_23 : decode cX5_lesser 23 = .ok (.ireturn, 1) := by decide +kernel
set_option maxRecDepth 20000 in
theorem ggX5_asks_X5_get : GoodIn wsX5_asks wsX5_get := goodIn_r _ [5, 6, 7, 75, 76, 77, 78, 79, 80, 81, 82, 83, 84, 85, 86, 87, 88, 89] (by decide +kernel) (by decide +kernel)
set_option maxRecDepth 20000 in
theorem gX5_asks_X5_get : GoodIn wsX5_asks (wsV RX5 43 RX5 yX5_get wsX5_get) := goodIn_app (goodIn_of _ (by decide +kernel)) ggX5_asks_X5_get
set_option maxRecDepth 20000 in
theorem ggX5_asks_X5_waiting : GoodIn wsX5_asks wsX5_waiting := goodIn_r _ [11, 12, 13, 14, 4, 15, 1, 2, 3, 5, 6, 7, 75, 76, 77, 78, 79, 80, 81, 82, 83, 84, 85, 86, 87, 88, 89] (by decide +kernel) (by decide +kernel)
set_option maxRecDepth 20000 in
theorem gX5_asks_X5_waiting : GoodIn wsX5_asks (wsV RX5 82 RX5 yX5_waiting wsX5_waiting) := goodIn_app (goodIn_of _ (by decide +kernel)) ggX5_asks_X5_waiting
set_option maxRecDepth 20000 in
theorem ggX5_asks_X5_builds : GoodIn wsX5_asks wsX5_builds := goodIn_r _ [19, 20, 21, 22, 4, 23, 24, 25, 26, 27, 12, 13, 14, 15, 1, 2, 3, 5, 6, 7, 28, 29, 30, 31, 32, 33, 34, 35, 36, 37, 38, 39, 40, 41, 42, 43, 44, 45, 46, 47, 48, 49, 50, 75, 76, 77, 78, 79, 80, 81, 82, 83, 84, 85, 86, 87, 88, 89] (by decide +kernel) (by decide +kernel)
set_option maxRecDepth 20000 in
theorem gX5_asks_X5_builds : GoodIn wsX5_asks (wsV RX5 34 RX5 yX5_builds wsX5_builds) := goodIn_app (goodIn_of _ (by decide +kernel)) ggX5_asks_X5_builds
set_option maxRecDepth 20000 in
theorem ggX5_asks_X5_adds : GoodIn wsX5_asks wsX5_adds := goodIn_r _ [50, 1, 2, 3, 4, 5, 6, 7, 43, 44, 45, 46, 75, 76, 77, 78, 79, 80, 81, 82, 83, 84, 85, 86, 87, 88, 89] (by decide +kernel) (by decide +kernel)
set_option maxRecDepth 20000 in
theorem gX5_asks_X5_adds : GoodIn wsX5_asks (wsV RX5 72 RX5 yX5_adds wsX5_adds) := goodIn_app (goodIn_of _ (by decide +kernel)) ggX5_asks_X5_adds
set_option maxRecDepth 20000 in
theorem ggX5_asks_X5_looksIn : GoodIn wsX5_asks wsX5_looksIn := goodIn_r _ [54, 55, 56, 57, 4, 58, 1, 2, 3, 5, 6, 7, 59, 60, 61, 62, 63, 64, 65, 66, 75, 76, 77, 78, 79, 80, 81, 82, 83, 84, 85, 86, 87, 88, 89] (by decide +kernel) (by decide +kernel)
set_option maxRecDepth 20000 in
theorem gX5_asks_X5_looksIn : GoodIn wsX5_asks (wsV RX5 95 RX5 yX5_looksIn wsX5_looksIn) := goodIn_app (goodIn_of _ (by decide +kernel)) ggX5_asks_X5_looksIn
set_option maxRecDepth 20000 in
theorem ggX5_asks_X5_isWaiting : GoodIn wsX5_asks wsX5_isWaiting := goodIn_r _ [58, 1, 2, 3, 4, 5, 6, 7, 75, 76, 77, 78, 79, 80, 81, 82, 83, 84, 85, 86, 87, 88, 89] (by decide +kernel) (by decide +kernel)
set_option maxRecDepth 20000 in
theorem gX5_asks_X5_isWaiting : GoodIn wsX5_asks (wsV RX5 85 RX5 yX5_isWaiting wsX5_isWaiting) := goodIn_app (goodIn_of _ (by decide +kernel)) ggX5_asks_X5_isWaiting
set_option maxRecDepth 20000 in
theorem ggX5_asks_X5_runEnd : GoodIn wsX5_asks wsX5_runEnd := goodIn_r _ [62, 55, 56, 57, 4, 58, 1, 2, 3, 5, 6, 7, 75, 76, 77, 78, 79, 80, 81, 82, 83, 84, 85, 86, 87, 88, 89] (by decide +kernel) (by decide +kernel)
set_option maxRecDepth 20000 in
theorem gX5_asks_X5_runEnd : GoodIn wsX5_asks (wsV RX5 89 RX5 yX5_runEnd wsX5_runEnd) := goodIn_app (goodIn_of _ (by decide +kernel)) ggX5_asks_X5_runEnd
set_option maxRecDepth 20000 in
theorem ggX5_asks_X5_levelOf : GoodIn wsX5_asks wsX5_levelOf := goodIn_r _ [66] (by decide +kernel) (by decide +kernel)
set_option maxRecDepth 20000 in
theorem gX5_asks_X5_levelOf : GoodIn wsX5_asks (wsV RX5 92 RX5 yX5_levelOf wsX5_levelOf) := goodIn_app (goodIn_of _ (by decide +kernel)) ggX5_asks_X5_levelOf
set_option maxRecDepth 20000 in
theorem ggX5_asks_X5_toldBy : GoodIn wsX5_asks wsX5_toldBy := goodIn_r _ [70, 32, 33, 4, 34, 1, 2, 3, 5, 6, 7, 75, 76, 77, 78, 79, 80, 81, 82, 83, 84, 85, 86, 87, 88, 89] (by decide +kernel) (by decide +kernel)
set_option maxRecDepth 20000 in
theorem gX5_asks_X5_toldBy : GoodIn wsX5_asks (wsV RX5 98 RX5 yX5_toldBy wsX5_toldBy) := goodIn_app (goodIn_of _ (by decide +kernel)) ggX5_asks_X5_toldBy
set_option maxRecDepth 20000 in
theorem ggX5_asks_X5_lesser : GoodIn wsX5_asks wsX5_lesser := goodIn_r _ [74, 39, 40, 41, 4, 42, 1, 2, 3, 5, 6, 7, 75, 76, 77, 78, 79, 80, 81, 82, 83, 84, 85, 86, 87, 88, 89] (by decide +kernel) (by decide +kernel)
set_option maxRecDepth 20000 in
theorem gX5_asks_X5_lesser : GoodIn wsX5_asks (wsV RX5 101 RX5 yX5_lesser wsX5_lesser) := goodIn_app (goodIn_of _ (by decide +kernel)) ggX5_asks_X5_lesser
theorem dX5_asks_0 : decode cX5_asks 0 = .ok (.aload_n 0, 1) := by decide +kernel
theorem dX5_asks_1 : decode cX5_asks 1 = .ok (.iconst 1, 1) := by decide +kernel
theorem dX5_asks_2 : decode cX5_asks 2 = .ok (.invokevirtual 43, 3) := by decide +kernel
theorem dX5_asks_5 : decode cX5_asks 5 = .ok (.ifCond .ne 14, 3) := by decide +kernel
theorem dX5_asks_8 : decode cX5_asks 8 = .ok (.aload_n 0, 1) := by decide +kernel
theorem dX5_asks_9 : decode cX5_asks 9 = .ok (.invokevirtual 82, 3) := by decide +kernel
theorem dX5_asks_12 : decode cX5_asks 12 = .ok (.ifCond .le 7, 3) := by decide +kernel
theorem dX5_asks_15 : decode cX5_asks 15 = .ok (.aload_n 0, 1) := by decide +kernel
theorem dX5_asks_16 : decode cX5_asks 16 = .ok (.invokevirtual 34, 3) := by decide +kernel
theorem dX5_asks_19 : decode cX5_asks 19 = .ok (.aload_n 0, 1) := by decide +kernel
theorem dX5_asks_20 : decode cX5_asks 20 = .ok (.bipush 9, 2) := by decide +kernel
theorem dX5_asks_22 : decode cX5_asks 22 = .ok (.iconst 1, 1) := by decide +kernel
theorem dX5_asks_23 : decode cX5_asks 23 = .ok (.invokevirtual 72, 3) := by decide +kernel
theorem dX5_asks_26 : decode cX5_asks 26 = .ok (.aload_n 0, 1) := by decide +kernel
theorem dX5_asks_27 : decode cX5_asks 27 = .ok (.bipush 7, 2) := by decide +kernel
theorem dX5_asks_29 : decode cX5_asks 29 = .ok (.aload_n 0, 1) := by decide +kernel
theorem dX5_asks_30 : decode cX5_asks 30 = .ok (.iload_n 1, 1) := by decide +kernel
theorem dX5_asks_31 : decode cX5_asks 31 = .ok (.iload_n 2, 1) := by decide +kernel
theorem dX5_asks_32 : decode cX5_asks 32 = .ok (.invokevirtual 95, 3) := by decide +kernel
theorem dX5_asks_35 : decode cX5_asks 35 = .ok (.invokevirtual 72, 3) := by decide +kernel
theorem dX5_asks_38 : decode cX5_asks 38 = .ok (.iconst (-1), 1) := by decide +kernel
theorem dX5_asks_39 : decode cX5_asks 39 = .ok (.istore_n 3, 1) := by decide +kernel
theorem dX5_asks_40 : decode cX5_asks 40 = .ok (.iload_n 1, 1) := by decide +kernel
theorem dX5_asks_41 : decode cX5_asks 41 = .ok (.istore 4, 2) := by decide +kernel
theorem dX5_asks_43 : decode cX5_asks 43 = .ok (.iload 4, 2) := by decide +kernel
theorem dX5_asks_45 : decode cX5_asks 45 = .ok (.iload_n 2, 1) := by decide +kernel
theorem dX5_asks_46 : decode cX5_asks 46 = .ok (.if_icmp .gt 83, 3) := by decide +kernel
theorem dX5_asks_49 : decode cX5_asks 49 = .ok (.aload_n 0, 1) := by decide +kernel
theorem dX5_asks_50 : decode cX5_asks 50 = .ok (.iload 4, 2) := by decide +kernel
theorem dX5_asks_52 : decode cX5_asks 52 = .ok (.invokevirtual 85, 3) := by decide +kernel
theorem dX5_asks_55 : decode cX5_asks 55 = .ok (.ifCond .eq 8, 3) := by decide +kernel
theorem dX5_asks_58 : decode cX5_asks 58 = .ok (.iload 4, 2) := by decide +kernel
theorem dX5_asks_60 : decode cX5_asks 60 = .ok (.goto 10, 3) := by decide +kernel
theorem dX5_asks_63 : decode cX5_asks 63 = .ok (.aload_n 0, 1) := by decide +kernel
theorem dX5_asks_64 : decode cX5_asks 64 = .ok (.iload 4, 2) := by decide +kernel
theorem dX5_asks_66 : decode cX5_asks 66 = .ok (.iload_n 2, 1) := by decide +kernel
theorem dX5_asks_67 : decode cX5_asks 67 = .ok (.invokevirtual 89, 3) := by decide +kernel
theorem dX5_asks_70 : decode cX5_asks 70 = .ok (.istore 5, 2) := by decide +kernel
theorem dX5_asks_72 : decode cX5_asks 72 = .ok (.aload_n 0, 1) := by decide +kernel
theorem dX5_asks_73 : decode cX5_asks 73 = .ok (.iload 5, 2) := by decide +kernel
theorem dX5_asks_75 : decode cX5_asks 75 = .ok (.iload 4, 2) := by decide +kernel
theorem dX5_asks_77 : decode cX5_asks 77 = .ok (.isub, 1) := by decide +kernel
theorem dX5_asks_78 : decode cX5_asks 78 = .ok (.iconst 1, 1) := by decide +kernel
theorem dX5_asks_79 : decode cX5_asks 79 = .ok (.iadd, 1) := by decide +kernel
theorem dX5_asks_80 : decode cX5_asks 80 = .ok (.invokevirtual 92, 3) := by decide +kernel
theorem dX5_asks_83 : decode cX5_asks 83 = .ok (.istore 6, 2) := by decide +kernel
theorem dX5_asks_85 : decode cX5_asks 85 = .ok (.aload_n 0, 1) := by decide +kernel
theorem dX5_asks_86 : decode cX5_asks 86 = .ok (.iload_n 3, 1) := by decide +kernel
theorem dX5_asks_87 : decode cX5_asks 87 = .ok (.aload_n 0, 1) := by decide +kernel
theorem dX5_asks_88 : decode cX5_asks 88 = .ok (.iload 6, 2) := by decide +kernel
theorem dX5_asks_90 : decode cX5_asks 90 = .ok (.iload 4, 2) := by decide +kernel
theorem dX5_asks_92 : decode cX5_asks 92 = .ok (.invokevirtual 98, 3) := by decide +kernel
theorem dX5_asks_95 : decode cX5_asks 95 = .ok (.invokevirtual 101, 3) := by decide +kernel
theorem dX5_asks_98 : decode cX5_asks 98 = .ok (.istore_n 3, 1) := by decide +kernel
theorem dX5_asks_99 : decode cX5_asks 99 = .ok (.aload_n 0, 1) := by decide +kernel
theorem dX5_asks_100 : decode cX5_asks 100 = .ok (.iload_n 3, 1) := by decide +kernel
theorem dX5_asks_101 : decode cX5_asks 101 = .ok (.aload_n 0, 1) := by decide +kernel
theorem dX5_asks_102 : decode cX5_asks 102 = .ok (.iload 6, 2) := by decide +kernel
theorem dX5_asks_104 : decode cX5_asks 104 = .ok (.iload 5, 2) := by decide +kernel
theorem dX5_asks_106 : decode cX5_asks 106 = .ok (.iconst 1, 1) := by decide +kernel
theorem dX5_asks_107 : decode cX5_asks 107 = .ok (.iload 6, 2) := by decide +kernel
theorem dX5_asks_109 : decode cX5_asks 109 = .ok (.ishl, 1) := by decide +kernel
theorem dX5_asks_110 : decode cX5_asks 110 = .ok (.isub, 1) := by decide +kernel
theorem dX5_asks_111 : decode cX5_asks 111 = .ok (.iconst 1, 1) := by decide +kernel
theorem dX5_asks_112 : decode cX5_asks 112 = .ok (.iadd, 1) := by decide +kernel
theorem dX5_asks_113 : decode cX5_asks 113 = .ok (.invokevirtual 98, 3) := by decide +kernel
theorem dX5_asks_116 : decode cX5_asks 116 = .ok (.invokevirtual 101, 3) := by decide +kernel
theorem dX5_asks_119 : decode cX5_asks 119 = .ok (.istore_n 3, 1) := by decide +kernel
theorem dX5_asks_120 : decode cX5_asks 120 = .ok (.iload 5, 2) := by decide +kernel
theorem dX5_asks_122 : decode cX5_asks 122 = .ok (.iconst 1, 1) := by decide +kernel
theorem dX5_asks_123 : decode cX5_asks 123 = .ok (.iadd, 1) := by decide +kernel
theorem dX5_asks_124 : decode cX5_asks 124 = .ok (.istore 4, 2) := by decide +kernel
theorem dX5_asks_126 : decode cX5_asks 126 = .ok (.goto (-83), 3) := by decide +kernel
theorem dX5_asks_129 : decode cX5_asks 129 = .ok (.iload_n 3, 1) := by decide +kernel
theorem dX5_asks_130 : decode cX5_asks 130 = .ok (.ireturn, 1) := by decide +kernel
set_option maxRecDepth 20000 in
theorem ggX5_keptFrom_X5_get : GoodIn wsX5_keptFrom wsX5_get := goodIn_r _ [5, 6, 7, 8, 9, 10, 11, 12, 13, 14, 15, 16, 17, 18, 19, 20, 21, 22] (by decide +kernel) (by decide +kernel)
set_option maxRecDepth 20000 in
theorem gX5_keptFrom_X5_get : GoodIn wsX5_keptFrom (wsV RX5 43 RX5 yX5_get wsX5_get) := goodIn_app (goodIn_of _ (by decide +kernel)) ggX5_keptFrom_X5_get
theorem dX5_keptFrom_0 : decode cX5_keptFrom 0 = .ok (.aload_n 0, 1) := by decide +kernel
theorem dX5_keptFrom_1 : decode cX5_keptFrom 1 = .ok (.sipush 292, 3) := by decide +kernel
theorem dX5_keptFrom_4 : decode cX5_keptFrom 4 = .ok (.iconst 2, 1) := by decide +kernel
theorem dX5_keptFrom_5 : decode cX5_keptFrom 5 = .ok (.iload_n 1, 1) := by decide +kernel
theorem dX5_keptFrom_6 : decode cX5_keptFrom 6 = .ok (.imul, 1) := by decide +kernel
theorem dX5_keptFrom_7 : decode cX5_keptFrom 7 = .ok (.iadd, 1) := by decide +kernel
theorem dX5_keptFrom_8 : decode cX5_keptFrom 8 = .ok (.invokevirtual 43, 3) := by decide +kernel
theorem dX5_keptFrom_11 : decode cX5_keptFrom 11 = .ok (.ireturn, 1) := by decide +kernel
set_option maxRecDepth 20000 in
theorem ggX5_keptTo_X5_get : GoodIn wsX5_keptTo wsX5_get := goodIn_r _ [5, 6, 7, 8, 9, 10, 11, 12, 13, 14, 15, 16, 17, 18, 19, 20, 21, 22] (by decide +kernel) (by decide +kernel)
set_option maxRecDepth 20000 in
theorem gX5_keptTo_X5_get : GoodIn wsX5_keptTo (wsV RX5 43 RX5 yX5_get wsX5_get) := goodIn_app (goodIn_of _ (by decide +kernel)) ggX5_keptTo_X5_get
theorem dX5_keptTo_0 : decode cX5_keptTo 0 = .ok (.aload_n 0, 1) := by decide +kernel
theorem dX5_keptTo_1 : decode cX5_keptTo 1 = .ok (.sipush 292, 3) := by decide +kernel
theorem dX5_keptTo_4 : decode cX5_keptTo 4 = .ok (.iconst 2, 1) := by decide +kernel
theorem dX5_keptTo_5 : decode cX5_keptTo 5 = .ok (.iload_n 1, 1) := by decide +kernel
theorem dX5_keptTo_6 : decode cX5_keptTo 6 = .ok (.imul, 1) := by decide +kernel
theorem dX5_keptTo_7 : decode cX5_keptTo 7 = .ok (.iadd, 1) := by decide +kernel
theorem dX5_keptTo_8 : decode cX5_keptTo 8 = .ok (.iconst 1, 1) := by decide +kernel
theorem dX5_keptTo_9 : decode cX5_keptTo 9 = .ok (.iadd, 1) := by decide +kernel
theorem dX5_keptTo_10 : decode cX5_keptTo 10 = .ok (.invokevirtual 43, 3) := by decide +kernel
theorem dX5_keptTo_13 : decode cX5_keptTo 13 = .ok (.ireturn, 1) := by decide +kernel
set_option maxRecDepth 20000 in
theorem ggX5_keeps_X5_get : GoodIn wsX5_keeps wsX5_get := goodIn_r _ [5, 6, 7, 16, 17, 18, 19, 20, 21, 22, 23, 24, 25, 26, 27, 28, 29, 30] (by decide +kernel) (by decide +kernel)
set_option maxRecDepth 20000 in
theorem gX5_keeps_X5_get : GoodIn wsX5_keeps (wsV RX5 43 RX5 yX5_get wsX5_get) := goodIn_app (goodIn_of _ (by decide +kernel)) ggX5_keeps_X5_get
set_option maxRecDepth 20000 in
theorem ggX5_keeps_X5_put0 : GoodIn wsX5_keeps wsX5_put0 := goodIn_r _ [11, 6, 7, 16, 17, 18, 19, 20, 21, 22, 23, 24, 25, 26, 27, 28, 29, 30] (by decide +kernel) (by decide +kernel)
set_option maxRecDepth 20000 in
theorem gX5_keeps_X5_put0 : GoodIn wsX5_keeps (wsV RX5 30 RX5 yX5_put0 wsX5_put0) := goodIn_app (goodIn_of _ (by decide +kernel)) ggX5_keeps_X5_put0
set_option maxRecDepth 20000 in
theorem ggX5_keeps_X5_adds : GoodIn wsX5_keeps wsX5_adds := goodIn_r _ [15, 1, 2, 3, 4, 5, 6, 7, 8, 9, 10, 11, 16, 17, 18, 19, 20, 21, 22, 23, 24, 25, 26, 27, 28, 29, 30] (by decide +kernel) (by decide +kernel)
set_option maxRecDepth 20000 in
theorem gX5_keeps_X5_adds : GoodIn wsX5_keeps (wsV RX5 72 RX5 yX5_adds wsX5_adds) := goodIn_app (goodIn_of _ (by decide +kernel)) ggX5_keeps_X5_adds
theorem dX5_keeps_0 : decode cX5_keeps 0 = .ok (.sipush 292, 3) := by decide +kernel
theorem dX5_keeps_3 : decode cX5_keeps 3 = .ok (.iconst 2, 1) := by decide +kernel
theorem dX5_keeps_4 : decode cX5_keeps 4 = .ok (.aload_n 0, 1) := by decide +kernel
theorem dX5_keeps_5 : decode cX5_keeps 5 = .ok (.bipush 6, 2) := by decide +kernel
theorem dX5_keeps_7 : decode cX5_keeps 7 = .ok (.invokevirtual 43, 3) := by decide +kernel
theorem dX5_keeps_10 : decode cX5_keeps 10 = .ok (.imul, 1) := by decide +kernel
theorem dX5_keeps_11 : decode cX5_keeps 11 = .ok (.iadd, 1) := by decide +kernel
theorem dX5_keeps_12 : decode cX5_keeps 12 = .ok (.istore_n 3, 1) := by decide +kernel
theorem dX5_keeps_13 : decode cX5_keeps 13 = .ok (.aload_n 0, 1) := by decide +kernel
theorem dX5_keeps_14 : decode cX5_keeps 14 = .ok (.iload_n 3, 1) := by decide +kernel
theorem dX5_keeps_15 : decode cX5_keeps 15 = .ok (.iload_n 1, 1) := by decide +kernel
theorem dX5_keeps_16 : decode cX5_keeps 16 = .ok (.invokevirtual 30, 3) := by decide +kernel
theorem dX5_keeps_19 : decode cX5_keeps 19 = .ok (.aload_n 0, 1) := by decide +kernel
theorem dX5_keeps_20 : decode cX5_keeps 20 = .ok (.iload_n 3, 1) := by decide +kernel
theorem dX5_keeps_21 : decode cX5_keeps 21 = .ok (.iconst 1, 1) := by decide +kernel
theorem dX5_keeps_22 : decode cX5_keeps 22 = .ok (.iadd, 1) := by decide +kernel
theorem dX5_keeps_23 : decode cX5_keeps 23 = .ok (.iload_n 2, 1) := by decide +kernel
theorem dX5_keeps_24 : decode cX5_keeps 24 = .ok (.invokevirtual 30, 3) := by decide +kernel
theorem dX5_keeps_27 : decode cX5_keeps 27 = .ok (.aload_n 0, 1) := by decide +kernel
theorem dX5_keeps_28 : decode cX5_keeps 28 = .ok (.bipush 6, 2) := by decide +kernel
theorem dX5_keeps_30 : decode cX5_keeps 30 = .ok (.iconst 1, 1) := by decide +kernel
theorem dX5_keeps_31 : decode cX5_keeps 31 = .ok (.invokevirtual 72, 3) := by decide +kernel
theorem dX5_keeps_34 : decode cX5_keeps 34 = .ok (.aload_n 0, 1) := by decide +kernel
theorem dX5_keeps_35 : decode cX5_keeps 35 = .ok (.bipush 6, 2) := by decide +kernel
theorem dX5_keeps_37 : decode cX5_keeps 37 = .ok (.invokevirtual 43, 3) := by decide +kernel
theorem dX5_keeps_40 : decode cX5_keeps 40 = .ok (.ireturn, 1) := by decide +kernel
set_option maxRecDepth 20000 in
theorem ggX5_forgets_X5_get : GoodIn wsX5_forgets wsX5_get := goodIn_r _ [5, 6, 7, 16, 17, 18, 19, 20, 21, 22, 23, 24, 25, 26, 27, 28, 29, 30] (by decide +kernel) (by decide +kernel)
set_option maxRecDepth 20000 in
theorem gX5_forgets_X5_get : GoodIn wsX5_forgets (wsV RX5 43 RX5 yX5_get wsX5_get) := goodIn_app (goodIn_of _ (by decide +kernel)) ggX5_forgets_X5_get
set_option maxRecDepth 20000 in
theorem ggX5_forgets_X5_put0 : GoodIn wsX5_forgets wsX5_put0 := goodIn_r _ [11, 6, 7, 16, 17, 18, 19, 20, 21, 22, 23, 24, 25, 26, 27, 28, 29, 30] (by decide +kernel) (by decide +kernel)
set_option maxRecDepth 20000 in
theorem gX5_forgets_X5_put0 : GoodIn wsX5_forgets (wsV RX5 30 RX5 yX5_put0 wsX5_put0) := goodIn_app (goodIn_of _ (by decide +kernel)) ggX5_forgets_X5_put0
set_option maxRecDepth 20000 in
theorem ggX5_forgets_X5_adds : GoodIn wsX5_forgets wsX5_adds := goodIn_r _ [15, 1, 2, 3, 4, 5, 6, 7, 8, 9, 10, 11, 16, 17, 18, 19, 20, 21, 22, 23, 24, 25, 26, 27, 28, 29, 30] (by decide +kernel) (by decide +kernel)
set_option maxRecDepth 20000 in
theorem gX5_forgets_X5_adds : GoodIn wsX5_forgets (wsV RX5 72 RX5 yX5_adds wsX5_adds) := goodIn_app (goodIn_of _ (by decide +kernel)) ggX5_forgets_X5_adds
theorem dX5_forgets_0 : decode cX5_forgets 0 = .ok (.sipush 292, 3) := by decide +kernel
theorem dX5_forgets_3 : decode cX5_forgets 3 = .ok (.iconst 2, 1) := by decide +kernel
theorem dX5_forgets_4 : decode cX5_forgets 4 = .ok (.iload_n 1, 1) := by decide +kernel
theorem dX5_forgets_5 : decode cX5_forgets 5 = .ok (.imul, 1) := by decide +kernel
theorem dX5_forgets_6 : decode cX5_forgets 6 = .ok (.iadd, 1) := by decide +kernel
theorem dX5_forgets_7 : decode cX5_forgets 7 = .ok (.istore_n 2, 1) := by decide +kernel
theorem dX5_forgets_8 : decode cX5_forgets 8 = .ok (.iload_n 2, 1) := by decide +kernel
theorem dX5_forgets_9 : decode cX5_forgets 9 = .ok (.sipush 292, 3) := by decide +kernel
theorem dX5_forgets_12 : decode cX5_forgets 12 = .ok (.iconst 2, 1) := by decide +kernel
theorem dX5_forgets_13 : decode cX5_forgets 13 = .ok (.aload_n 0, 1) := by decide +kernel
theorem dX5_forgets_14 : decode cX5_forgets 14 = .ok (.bipush 6, 2) := by decide +kernel
theorem dX5_forgets_16 : decode cX5_forgets 16 = .ok (.invokevirtual 43, 3) := by decide +kernel
theorem dX5_forgets_19 : decode cX5_forgets 19 = .ok (.imul, 1) := by decide +kernel
theorem dX5_forgets_20 : decode cX5_forgets 20 = .ok (.iadd, 1) := by decide +kernel
theorem dX5_forgets_21 : decode cX5_forgets 21 = .ok (.iconst 2, 1) := by decide +kernel
theorem dX5_forgets_22 : decode cX5_forgets 22 = .ok (.isub, 1) := by decide +kernel
theorem dX5_forgets_23 : decode cX5_forgets 23 = .ok (.if_icmp .ge 21, 3) := by decide +kernel
theorem dX5_forgets_26 : decode cX5_forgets 26 = .ok (.aload_n 0, 1) := by decide +kernel
theorem dX5_forgets_27 : decode cX5_forgets 27 = .ok (.iload_n 2, 1) := by decide +kernel
theorem dX5_forgets_28 : decode cX5_forgets 28 = .ok (.aload_n 0, 1) := by decide +kernel
theorem dX5_forgets_29 : decode cX5_forgets 29 = .ok (.iload_n 2, 1) := by decide +kernel
theorem dX5_forgets_30 : decode cX5_forgets 30 = .ok (.iconst 2, 1) := by decide +kernel
theorem dX5_forgets_31 : decode cX5_forgets 31 = .ok (.iadd, 1) := by decide +kernel
theorem dX5_forgets_32 : decode cX5_forgets 32 = .ok (.invokevirtual 43, 3) := by decide +kernel
theorem dX5_forgets_35 : decode cX5_forgets 35 = .ok (.invokevirtual 30, 3) := by decide +kernel
theorem dX5_forgets_38 : decode cX5_forgets 38 = .ok (.iinc 2 1, 3) := by decide +kernel
theorem dX5_forgets_41 : decode cX5_forgets 41 = .ok (.goto (-33), 3) := by decide +kernel
theorem dX5_forgets_44 : decode cX5_forgets 44 = .ok (.aload_n 0, 1) := by decide +kernel
theorem dX5_forgets_45 : decode cX5_forgets 45 = .ok (.bipush 6, 2) := by decide +kernel
theorem dX5_forgets_47 : decode cX5_forgets 47 = .ok (.iconst (-1), 1) := by decide +kernel
theorem dX5_forgets_48 : decode cX5_forgets 48 = .ok (.invokevirtual 72, 3) := by decide +kernel
theorem dX5_forgets_51 : decode cX5_forgets 51 = .ok (.aload_n 0, 1) := by decide +kernel
theorem dX5_forgets_52 : decode cX5_forgets 52 = .ok (.bipush 6, 2) := by decide +kernel
theorem dX5_forgets_54 : decode cX5_forgets 54 = .ok (.invokevirtual 43, 3) := by decide +kernel
theorem dX5_forgets_57 : decode cX5_forgets 57 = .ok (.ireturn, 1) := by decide +kernel
set_option maxRecDepth 20000 in
theorem ggX5_putsIn_X5_size : GoodIn wsX5_putsIn wsX5_size := goodIn_r _ [5, 6, 7, 8, 4, 9, 10, 11, 55, 56, 57, 58, 59, 60, 61, 62, 63, 64, 65, 66, 67, 68, 69] (by decide +kernel) (by decide +kernel)
set_option maxRecDepth 20000 in
theorem gX5_putsIn_X5_size : GoodIn wsX5_putsIn (wsV RX5 50 RX5 yX5_size wsX5_size) := goodIn_app (goodIn_of _ (by decide +kernel)) ggX5_putsIn_X5_size
set_option maxRecDepth 20000 in
theorem ggX5_putsIn_X5_valueAt : GoodIn wsX5_putsIn wsX5_valueAt := goodIn_r _ [15, 6, 7, 8, 4, 9, 10, 11, 55, 56, 57, 58, 59, 60, 61, 62, 63, 64, 65, 66, 67, 68, 69] (by decide +kernel) (by decide +kernel)
set_option maxRecDepth 20000 in
theorem gX5_putsIn_X5_valueAt : GoodIn wsX5_putsIn (wsV RX5 54 RX5 yX5_valueAt wsX5_valueAt) := goodIn_app (goodIn_of _ (by decide +kernel)) ggX5_putsIn_X5_valueAt
set_option maxRecDepth 20000 in
theorem ggX5_putsIn_X5_put0 : GoodIn wsX5_putsIn wsX5_put0 := goodIn_r _ [19, 10, 11, 55, 56, 57, 58, 59, 60, 61, 62, 63, 64, 65, 66, 67, 68, 69] (by decide +kernel) (by decide +kernel)
set_option maxRecDepth 20000 in
theorem gX5_putsIn_X5_put0 : GoodIn wsX5_putsIn (wsV RX5 30 RX5 yX5_put0 wsX5_put0) := goodIn_app (goodIn_of _ (by decide +kernel)) ggX5_putsIn_X5_put0
set_option maxRecDepth 20000 in
theorem ggX5_putsIn_X5_adds : GoodIn wsX5_putsIn wsX5_adds := goodIn_r _ [23, 6, 7, 8, 4, 9, 10, 11, 16, 17, 18, 19, 55, 56, 57, 58, 59, 60, 61, 62, 63, 64, 65, 66, 67, 68, 69] (by decide +kernel) (by decide +kernel)
set_option maxRecDepth 20000 in
theorem gX5_putsIn_X5_adds : GoodIn wsX5_putsIn (wsV RX5 72 RX5 yX5_adds wsX5_adds) := goodIn_app (goodIn_of _ (by decide +kernel)) ggX5_putsIn_X5_adds
set_option maxRecDepth 20000 in
theorem ggX5_putsIn_X5_get : GoodIn wsX5_putsIn wsX5_get := goodIn_r _ [9, 10, 11, 55, 56, 57, 58, 59, 60, 61, 62, 63, 64, 65, 66, 67, 68, 69] (by decide +kernel) (by decide +kernel)
set_option maxRecDepth 20000 in
theorem gX5_putsIn_X5_get : GoodIn wsX5_putsIn (wsV RX5 43 RX5 yX5_get wsX5_get) := goodIn_app (goodIn_of _ (by decide +kernel)) ggX5_putsIn_X5_get
set_option maxRecDepth 20000 in
theorem ggX5_putsIn_X5_keptTo : GoodIn wsX5_putsIn wsX5_keptTo := goodIn_r _ [27, 6, 7, 8, 4, 9, 10, 11, 55, 56, 57, 58, 59, 60, 61, 62, 63, 64, 65, 66, 67, 68, 69] (by decide +kernel) (by decide +kernel)
set_option maxRecDepth 20000 in
theorem gX5_putsIn_X5_keptTo : GoodIn wsX5_putsIn (wsV RX5 104 RX5 yX5_keptTo wsX5_keptTo) := goodIn_app (goodIn_of _ (by decide +kernel)) ggX5_putsIn_X5_keptTo
set_option maxRecDepth 20000 in
theorem ggX5_putsIn_X5_keptFrom : GoodIn wsX5_putsIn wsX5_keptFrom := goodIn_r _ [31, 6, 7, 8, 4, 9, 10, 11, 55, 56, 57, 58, 59, 60, 61, 62, 63, 64, 65, 66, 67, 68, 69] (by decide +kernel) (by decide +kernel)
set_option maxRecDepth 20000 in
theorem gX5_putsIn_X5_keptFrom : GoodIn wsX5_putsIn (wsV RX5 107 RX5 yX5_keptFrom wsX5_keptFrom) := goodIn_app (goodIn_of _ (by decide +kernel)) ggX5_putsIn_X5_keptFrom
set_option maxRecDepth 20000 in
theorem ggX5_putsIn_X5_builds : GoodIn wsX5_putsIn wsX5_builds := goodIn_r _ [35, 36, 37, 38, 4, 39, 40, 41, 42, 43, 1, 2, 3, 5, 6, 7, 8, 9, 10, 11, 44, 45, 46, 47, 48, 49, 50, 51, 52, 53, 54, 12, 13, 14, 15, 16, 17, 18, 19, 20, 21, 22, 23, 55, 56, 57, 58, 59, 60, 61, 62, 63, 64, 65, 66, 67, 68, 69] (by decide +kernel) (by decide +kernel)
set_option maxRecDepth 20000 in
theorem gX5_putsIn_X5_builds : GoodIn wsX5_putsIn (wsV RX5 34 RX5 yX5_builds wsX5_builds) := goodIn_app (goodIn_of _ (by decide +kernel)) ggX5_putsIn_X5_builds
theorem dX5_putsIn_0 : decode cX5_putsIn 0 = .ok (.aload_n 0, 1) := by decide +kernel
theorem dX5_putsIn_1 : decode cX5_putsIn 1 = .ok (.invokevirtual 50, 3) := by decide +kernel
theorem dX5_putsIn_4 : decode cX5_putsIn 4 = .ok (.istore_n 3, 1) := by decide +kernel
theorem dX5_putsIn_5 : decode cX5_putsIn 5 = .ok (.iload_n 3, 1) := by decide +kernel
theorem dX5_putsIn_6 : decode cX5_putsIn 6 = .ok (.iload_n 1, 1) := by decide +kernel
theorem dX5_putsIn_7 : decode cX5_putsIn 7 = .ok (.if_icmp .le 24, 3) := by decide +kernel
theorem dX5_putsIn_10 : decode cX5_putsIn 10 = .ok (.aload_n 0, 1) := by decide +kernel
theorem dX5_putsIn_11 : decode cX5_putsIn 11 = .ok (.bipush 12, 2) := by decide +kernel
theorem dX5_putsIn_13 : decode cX5_putsIn 13 = .ok (.iload_n 3, 1) := by decide +kernel
theorem dX5_putsIn_14 : decode cX5_putsIn 14 = .ok (.iadd, 1) := by decide +kernel
theorem dX5_putsIn_15 : decode cX5_putsIn 15 = .ok (.aload_n 0, 1) := by decide +kernel
theorem dX5_putsIn_16 : decode cX5_putsIn 16 = .ok (.iload_n 3, 1) := by decide +kernel
theorem dX5_putsIn_17 : decode cX5_putsIn 17 = .ok (.iconst 1, 1) := by decide +kernel
theorem dX5_putsIn_18 : decode cX5_putsIn 18 = .ok (.isub, 1) := by decide +kernel
theorem dX5_putsIn_19 : decode cX5_putsIn 19 = .ok (.invokevirtual 54, 3) := by decide +kernel
theorem dX5_putsIn_22 : decode cX5_putsIn 22 = .ok (.invokevirtual 30, 3) := by decide +kernel
theorem dX5_putsIn_25 : decode cX5_putsIn 25 = .ok (.iinc 3 (-1), 3) := by decide +kernel
theorem dX5_putsIn_28 : decode cX5_putsIn 28 = .ok (.goto (-23), 3) := by decide +kernel
theorem dX5_putsIn_31 : decode cX5_putsIn 31 = .ok (.aload_n 0, 1) := by decide +kernel
theorem dX5_putsIn_32 : decode cX5_putsIn 32 = .ok (.bipush 12, 2) := by decide +kernel
theorem dX5_putsIn_34 : decode cX5_putsIn 34 = .ok (.iload_n 1, 1) := by decide +kernel
theorem dX5_putsIn_35 : decode cX5_putsIn 35 = .ok (.iadd, 1) := by decide +kernel
theorem dX5_putsIn_36 : decode cX5_putsIn 36 = .ok (.iload_n 2, 1) := by decide +kernel
theorem dX5_putsIn_37 : decode cX5_putsIn 37 = .ok (.invokevirtual 30, 3) := by decide +kernel
theorem dX5_putsIn_40 : decode cX5_putsIn 40 = .ok (.aload_n 0, 1) := by decide +kernel
theorem dX5_putsIn_41 : decode cX5_putsIn 41 = .ok (.iconst 0, 1) := by decide +kernel
theorem dX5_putsIn_42 : decode cX5_putsIn 42 = .ok (.iconst 1, 1) := by decide +kernel
theorem dX5_putsIn_43 : decode cX5_putsIn 43 = .ok (.invokevirtual 72, 3) := by decide +kernel
theorem dX5_putsIn_46 : decode cX5_putsIn 46 = .ok (.iconst 0, 1) := by decide +kernel
theorem dX5_putsIn_47 : decode cX5_putsIn 47 = .ok (.istore_n 3, 1) := by decide +kernel
theorem dX5_putsIn_48 : decode cX5_putsIn 48 = .ok (.iload_n 3, 1) := by decide +kernel
theorem dX5_putsIn_49 : decode cX5_putsIn 49 = .ok (.aload_n 0, 1) := by decide +kernel
theorem dX5_putsIn_50 : decode cX5_putsIn 50 = .ok (.bipush 6, 2) := by decide +kernel
theorem dX5_putsIn_52 : decode cX5_putsIn 52 = .ok (.invokevirtual 43, 3) := by decide +kernel
theorem dX5_putsIn_55 : decode cX5_putsIn 55 = .ok (.if_icmp .ge 56, 3) := by decide +kernel
theorem dX5_putsIn_58 : decode cX5_putsIn 58 = .ok (.aload_n 0, 1) := by decide +kernel
theorem dX5_putsIn_59 : decode cX5_putsIn 59 = .ok (.iload_n 3, 1) := by decide +kernel
theorem dX5_putsIn_60 : decode cX5_putsIn 60 = .ok (.invokevirtual 104, 3) := by decide +kernel
theorem dX5_putsIn_63 : decode cX5_putsIn 63 = .ok (.iload_n 1, 1) := by decide +kernel
theorem dX5_putsIn_64 : decode cX5_putsIn 64 = .ok (.if_icmp .ge 6, 3) := by decide +kernel
theorem dX5_putsIn_67 : decode cX5_putsIn 67 = .ok (.goto 38, 3) := by decide +kernel
theorem dX5_putsIn_70 : decode cX5_putsIn 70 = .ok (.aload_n 0, 1) := by decide +kernel
theorem dX5_putsIn_71 : decode cX5_putsIn 71 = .ok (.iload_n 3, 1) := by decide +kernel
theorem dX5_putsIn_72 : decode cX5_putsIn 72 = .ok (.invokevirtual 107, 3) := by decide +kernel
theorem dX5_putsIn_75 : decode cX5_putsIn 75 = .ok (.iload_n 1, 1) := by decide +kernel
theorem dX5_putsIn_76 : decode cX5_putsIn 76 = .ok (.if_icmp .lt 15, 3) := by decide +kernel
theorem dX5_putsIn_79 : decode cX5_putsIn 79 = .ok (.aload_n 0, 1) := by decide +kernel
theorem dX5_putsIn_80 : decode cX5_putsIn 80 = .ok (.sipush 292, 3) := by decide +kernel
theorem dX5_putsIn_83 : decode cX5_putsIn 83 = .ok (.iconst 2, 1) := by decide +kernel
theorem dX5_putsIn_84 : decode cX5_putsIn 84 = .ok (.iload_n 3, 1) := by decide +kernel
theorem dX5_putsIn_85 : decode cX5_putsIn 85 = .ok (.imul, 1) := by decide +kernel
theorem dX5_putsIn_86 : decode cX5_putsIn 86 = .ok (.iadd, 1) := by decide +kernel
theorem dX5_putsIn_87 : decode cX5_putsIn 87 = .ok (.iconst 1, 1) := by decide +kernel
theorem dX5_putsIn_88 : decode cX5_putsIn 88 = .ok (.invokevirtual 72, 3) := by decide +kernel
theorem dX5_putsIn_91 : decode cX5_putsIn 91 = .ok (.aload_n 0, 1) := by decide +kernel
theorem dX5_putsIn_92 : decode cX5_putsIn 92 = .ok (.sipush 292, 3) := by decide +kernel
theorem dX5_putsIn_95 : decode cX5_putsIn 95 = .ok (.iconst 2, 1) := by decide +kernel
theorem dX5_putsIn_96 : decode cX5_putsIn 96 = .ok (.iload_n 3, 1) := by decide +kernel
theorem dX5_putsIn_97 : decode cX5_putsIn 97 = .ok (.imul, 1) := by decide +kernel
theorem dX5_putsIn_98 : decode cX5_putsIn 98 = .ok (.iadd, 1) := by decide +kernel
theorem dX5_putsIn_99 : decode cX5_putsIn 99 = .ok (.iconst 1, 1) := by decide +kernel
theorem dX5_putsIn_100 : decode cX5_putsIn 100 = .ok (.iadd, 1) := by decide +kernel
theorem dX5_putsIn_101 : decode cX5_putsIn 101 = .ok (.iconst 1, 1) := by decide +kernel
theorem dX5_putsIn_102 : decode cX5_putsIn 102 = .ok (.invokevirtual 72, 3) := by decide +kernel
theorem dX5_putsIn_105 : decode cX5_putsIn 105 = .ok (.iinc 3 1, 3) := by decide +kernel
theorem dX5_putsIn_108 : decode cX5_putsIn 108 = .ok (.goto (-60), 3) := by decide +kernel
theorem dX5_putsIn_111 : decode cX5_putsIn 111 = .ok (.aload_n 0, 1) := by decide +kernel
theorem dX5_putsIn_112 : decode cX5_putsIn 112 = .ok (.invokevirtual 34, 3) := by decide +kernel
theorem dX5_putsIn_115 : decode cX5_putsIn 115 = .ok (.aload_n 0, 1) := by decide +kernel
theorem dX5_putsIn_116 : decode cX5_putsIn 116 = .ok (.invokevirtual 50, 3) := by decide +kernel
theorem dX5_putsIn_119 : decode cX5_putsIn 119 = .ok (.ireturn, 1) := by decide +kernel
set_option maxRecDepth 20000 in
theorem ggX5_takesOut_X5_valueAt : GoodIn wsX5_takesOut wsX5_valueAt := goodIn_r _ [5, 6, 7, 8, 4, 9, 10, 11, 59, 60, 61, 62, 63, 64, 65, 66, 67, 68, 69, 70, 71, 72, 73] (by decide +kernel) (by decide +kernel)
set_option maxRecDepth 20000 in
theorem gX5_takesOut_X5_valueAt : GoodIn wsX5_takesOut (wsV RX5 54 RX5 yX5_valueAt wsX5_valueAt) := goodIn_app (goodIn_of _ (by decide +kernel)) ggX5_takesOut_X5_valueAt
set_option maxRecDepth 20000 in
theorem ggX5_takesOut_X5_size : GoodIn wsX5_takesOut wsX5_size := goodIn_r _ [15, 6, 7, 8, 4, 9, 10, 11, 59, 60, 61, 62, 63, 64, 65, 66, 67, 68, 69, 70, 71, 72, 73] (by decide +kernel) (by decide +kernel)
set_option maxRecDepth 20000 in
theorem gX5_takesOut_X5_size : GoodIn wsX5_takesOut (wsV RX5 50 RX5 yX5_size wsX5_size) := goodIn_app (goodIn_of _ (by decide +kernel)) ggX5_takesOut_X5_size
set_option maxRecDepth 20000 in
theorem ggX5_takesOut_X5_put0 : GoodIn wsX5_takesOut wsX5_put0 := goodIn_r _ [19, 10, 11, 59, 60, 61, 62, 63, 64, 65, 66, 67, 68, 69, 70, 71, 72, 73] (by decide +kernel) (by decide +kernel)
set_option maxRecDepth 20000 in
theorem gX5_takesOut_X5_put0 : GoodIn wsX5_takesOut (wsV RX5 30 RX5 yX5_put0 wsX5_put0) := goodIn_app (goodIn_of _ (by decide +kernel)) ggX5_takesOut_X5_put0
set_option maxRecDepth 20000 in
theorem ggX5_takesOut_X5_adds : GoodIn wsX5_takesOut wsX5_adds := goodIn_r _ [23, 6, 7, 8, 4, 9, 10, 11, 16, 17, 18, 19, 59, 60, 61, 62, 63, 64, 65, 66, 67, 68, 69, 70, 71, 72, 73] (by decide +kernel) (by decide +kernel)
set_option maxRecDepth 20000 in
theorem gX5_takesOut_X5_adds : GoodIn wsX5_takesOut (wsV RX5 72 RX5 yX5_adds wsX5_adds) := goodIn_app (goodIn_of _ (by decide +kernel)) ggX5_takesOut_X5_adds
set_option maxRecDepth 20000 in
theorem ggX5_takesOut_X5_get : GoodIn wsX5_takesOut wsX5_get := goodIn_r _ [9, 10, 11, 59, 60, 61, 62, 63, 64, 65, 66, 67, 68, 69, 70, 71, 72, 73] (by decide +kernel) (by decide +kernel)
set_option maxRecDepth 20000 in
theorem gX5_takesOut_X5_get : GoodIn wsX5_takesOut (wsV RX5 43 RX5 yX5_get wsX5_get) := goodIn_app (goodIn_of _ (by decide +kernel)) ggX5_takesOut_X5_get
set_option maxRecDepth 20000 in
theorem ggX5_takesOut_X5_keptTo : GoodIn wsX5_takesOut wsX5_keptTo := goodIn_r _ [27, 6, 7, 8, 4, 9, 10, 11, 59, 60, 61, 62, 63, 64, 65, 66, 67, 68, 69, 70, 71, 72, 73] (by decide +kernel) (by decide +kernel)
set_option maxRecDepth 20000 in
theorem gX5_takesOut_X5_keptTo : GoodIn wsX5_takesOut (wsV RX5 104 RX5 yX5_keptTo wsX5_keptTo) := goodIn_app (goodIn_of _ (by decide +kernel)) ggX5_takesOut_X5_keptTo
set_option maxRecDepth 20000 in
theorem ggX5_takesOut_X5_keptFrom : GoodIn wsX5_takesOut wsX5_keptFrom := goodIn_r _ [31, 6, 7, 8, 4, 9, 10, 11, 59, 60, 61, 62, 63, 64, 65, 66, 67, 68, 69, 70, 71, 72, 73] (by decide +kernel) (by decide +kernel)
set_option maxRecDepth 20000 in
theorem gX5_takesOut_X5_keptFrom : GoodIn wsX5_takesOut (wsV RX5 107 RX5 yX5_keptFrom wsX5_keptFrom) := goodIn_app (goodIn_of _ (by decide +kernel)) ggX5_takesOut_X5_keptFrom
set_option maxRecDepth 20000 in
theorem ggX5_takesOut_X5_forgets : GoodIn wsX5_takesOut wsX5_forgets := goodIn_r _ [35, 6, 7, 8, 4, 9, 10, 11, 16, 17, 18, 19, 20, 21, 22, 23, 59, 60, 61, 62, 63, 64, 65, 66, 67, 68, 69, 70, 71, 72, 73] (by decide +kernel) (by decide +kernel)
set_option maxRecDepth 20000 in
theorem gX5_takesOut_X5_forgets : GoodIn wsX5_takesOut (wsV RX5 110 RX5 yX5_forgets wsX5_forgets) := goodIn_app (goodIn_of _ (by decide +kernel)) ggX5_takesOut_X5_forgets
set_option maxRecDepth 20000 in
theorem ggX5_takesOut_X5_builds : GoodIn wsX5_takesOut wsX5_builds := goodIn_r _ [39, 40, 41, 42, 4, 43, 44, 45, 46, 47, 12, 13, 14, 15, 6, 7, 8, 9, 10, 11, 48, 49, 50, 51, 52, 53, 54, 55, 56, 57, 58, 1, 2, 3, 5, 16, 17, 18, 19, 20, 21, 22, 23, 59, 60, 61, 62, 63, 64, 65, 66, 67, 68, 69, 70, 71, 72, 73] (by decide +kernel) (by decide +kernel)
set_option maxRecDepth 20000 in
theorem gX5_takesOut_X5_builds : GoodIn wsX5_takesOut (wsV RX5 34 RX5 yX5_builds wsX5_builds) := goodIn_app (goodIn_of _ (by decide +kernel)) ggX5_takesOut_X5_builds
theorem dX5_takesOut_0 : decode cX5_takesOut 0 = .ok (.aload_n 0, 1) := by decide +kernel
theorem dX5_takesOut_1 : decode cX5_takesOut 1 = .ok (.iload_n 1, 1) := by decide +kernel
theorem dX5_takesOut_2 : decode cX5_takesOut 2 = .ok (.invokevirtual 54, 3) := by decide +kernel
theorem dX5_takesOut_5 : decode cX5_takesOut 5 = .ok (.istore_n 2, 1) := by decide +kernel
theorem dX5_takesOut_6 : decode cX5_takesOut 6 = .ok (.iload_n 1, 1) := by decide +kernel
theorem dX5_takesOut_7 : decode cX5_takesOut 7 = .ok (.istore_n 3, 1) := by decide +kernel
theorem dX5_takesOut_8 : decode cX5_takesOut 8 = .ok (.iload_n 3, 1) := by decide +kernel
theorem dX5_takesOut_9 : decode cX5_takesOut 9 = .ok (.aload_n 0, 1) := by decide +kernel
theorem dX5_takesOut_10 : decode cX5_takesOut 10 = .ok (.invokevirtual 50, 3) := by decide +kernel
theorem dX5_takesOut_13 : decode cX5_takesOut 13 = .ok (.iconst 1, 1) := by decide +kernel
theorem dX5_takesOut_14 : decode cX5_takesOut 14 = .ok (.isub, 1) := by decide +kernel
theorem dX5_takesOut_15 : decode cX5_takesOut 15 = .ok (.if_icmp .ge 24, 3) := by decide +kernel
theorem dX5_takesOut_18 : decode cX5_takesOut 18 = .ok (.aload_n 0, 1) := by decide +kernel
theorem dX5_takesOut_19 : decode cX5_takesOut 19 = .ok (.bipush 12, 2) := by decide +kernel
theorem dX5_takesOut_21 : decode cX5_takesOut 21 = .ok (.iload_n 3, 1) := by decide +kernel
theorem dX5_takesOut_22 : decode cX5_takesOut 22 = .ok (.iadd, 1) := by decide +kernel
theorem dX5_takesOut_23 : decode cX5_takesOut 23 = .ok (.aload_n 0, 1) := by decide +kernel
theorem dX5_takesOut_24 : decode cX5_takesOut 24 = .ok (.iload_n 3, 1) := by decide +kernel
theorem dX5_takesOut_25 : decode cX5_takesOut 25 = .ok (.iconst 1, 1) := by decide +kernel
theorem dX5_takesOut_26 : decode cX5_takesOut 26 = .ok (.iadd, 1) := by decide +kernel
theorem dX5_takesOut_27 : decode cX5_takesOut 27 = .ok (.invokevirtual 54, 3) := by decide +kernel
theorem dX5_takesOut_30 : decode cX5_takesOut 30 = .ok (.invokevirtual 30, 3) := by decide +kernel
theorem dX5_takesOut_33 : decode cX5_takesOut 33 = .ok (.iinc 3 1, 3) := by decide +kernel
theorem dX5_takesOut_36 : decode cX5_takesOut 36 = .ok (.goto (-28), 3) := by decide +kernel
theorem dX5_takesOut_39 : decode cX5_takesOut 39 = .ok (.aload_n 0, 1) := by decide +kernel
theorem dX5_takesOut_40 : decode cX5_takesOut 40 = .ok (.iconst 0, 1) := by decide +kernel
theorem dX5_takesOut_41 : decode cX5_takesOut 41 = .ok (.iconst (-1), 1) := by decide +kernel
theorem dX5_takesOut_42 : decode cX5_takesOut 42 = .ok (.invokevirtual 72, 3) := by decide +kernel
theorem dX5_takesOut_45 : decode cX5_takesOut 45 = .ok (.aload_n 0, 1) := by decide +kernel
theorem dX5_takesOut_46 : decode cX5_takesOut 46 = .ok (.bipush 6, 2) := by decide +kernel
theorem dX5_takesOut_48 : decode cX5_takesOut 48 = .ok (.invokevirtual 43, 3) := by decide +kernel
theorem dX5_takesOut_51 : decode cX5_takesOut 51 = .ok (.iconst 1, 1) := by decide +kernel
theorem dX5_takesOut_52 : decode cX5_takesOut 52 = .ok (.isub, 1) := by decide +kernel
theorem dX5_takesOut_53 : decode cX5_takesOut 53 = .ok (.istore_n 3, 1) := by decide +kernel
theorem dX5_takesOut_54 : decode cX5_takesOut 54 = .ok (.iload_n 3, 1) := by decide +kernel
theorem dX5_takesOut_55 : decode cX5_takesOut 55 = .ok (.ifCond .lt 79, 3) := by decide +kernel
theorem dX5_takesOut_58 : decode cX5_takesOut 58 = .ok (.aload_n 0, 1) := by decide +kernel
theorem dX5_takesOut_59 : decode cX5_takesOut 59 = .ok (.iload_n 3, 1) := by decide +kernel
theorem dX5_takesOut_60 : decode cX5_takesOut 60 = .ok (.invokevirtual 104, 3) := by decide +kernel
theorem dX5_takesOut_63 : decode cX5_takesOut 63 = .ok (.iload_n 1, 1) := by decide +kernel
theorem dX5_takesOut_64 : decode cX5_takesOut 64 = .ok (.if_icmp .ge 6, 3) := by decide +kernel
theorem dX5_takesOut_67 : decode cX5_takesOut 67 = .ok (.goto 61, 3) := by decide +kernel
theorem dX5_takesOut_70 : decode cX5_takesOut 70 = .ok (.aload_n 0, 1) := by decide +kernel
theorem dX5_takesOut_71 : decode cX5_takesOut 71 = .ok (.iload_n 3, 1) := by decide +kernel
theorem dX5_takesOut_72 : decode cX5_takesOut 72 = .ok (.invokevirtual 107, 3) := by decide +kernel
theorem dX5_takesOut_75 : decode cX5_takesOut 75 = .ok (.iload_n 1, 1) := by decide +kernel
theorem dX5_takesOut_76 : decode cX5_takesOut 76 = .ok (.if_icmp .le 15, 3) := by decide +kernel
theorem dX5_takesOut_79 : decode cX5_takesOut 79 = .ok (.aload_n 0, 1) := by decide +kernel
theorem dX5_takesOut_80 : decode cX5_takesOut 80 = .ok (.sipush 292, 3) := by decide +kernel
theorem dX5_takesOut_83 : decode cX5_takesOut 83 = .ok (.iconst 2, 1) := by decide +kernel
theorem dX5_takesOut_84 : decode cX5_takesOut 84 = .ok (.iload_n 3, 1) := by decide +kernel
theorem dX5_takesOut_85 : decode cX5_takesOut 85 = .ok (.imul, 1) := by decide +kernel
theorem dX5_takesOut_86 : decode cX5_takesOut 86 = .ok (.iadd, 1) := by decide +kernel
theorem dX5_takesOut_87 : decode cX5_takesOut 87 = .ok (.iconst (-1), 1) := by decide +kernel
theorem dX5_takesOut_88 : decode cX5_takesOut 88 = .ok (.invokevirtual 72, 3) := by decide +kernel
theorem dX5_takesOut_91 : decode cX5_takesOut 91 = .ok (.aload_n 0, 1) := by decide +kernel
theorem dX5_takesOut_92 : decode cX5_takesOut 92 = .ok (.sipush 292, 3) := by decide +kernel
theorem dX5_takesOut_95 : decode cX5_takesOut 95 = .ok (.iconst 2, 1) := by decide +kernel
theorem dX5_takesOut_96 : decode cX5_takesOut 96 = .ok (.iload_n 3, 1) := by decide +kernel
theorem dX5_takesOut_97 : decode cX5_takesOut 97 = .ok (.imul, 1) := by decide +kernel
theorem dX5_takesOut_98 : decode cX5_takesOut 98 = .ok (.iadd, 1) := by decide +kernel
theorem dX5_takesOut_99 : decode cX5_takesOut 99 = .ok (.iconst 1, 1) := by decide +kernel
theorem dX5_takesOut_100 : decode cX5_takesOut 100 = .ok (.iadd, 1) := by decide +kernel
theorem dX5_takesOut_101 : decode cX5_takesOut 101 = .ok (.iconst (-1), 1) := by decide +kernel
theorem dX5_takesOut_102 : decode cX5_takesOut 102 = .ok (.invokevirtual 72, 3) := by decide +kernel
theorem dX5_takesOut_105 : decode cX5_takesOut 105 = .ok (.aload_n 0, 1) := by decide +kernel
theorem dX5_takesOut_106 : decode cX5_takesOut 106 = .ok (.iload_n 3, 1) := by decide +kernel
theorem dX5_takesOut_107 : decode cX5_takesOut 107 = .ok (.invokevirtual 104, 3) := by decide +kernel
theorem dX5_takesOut_110 : decode cX5_takesOut 110 = .ok (.aload_n 0, 1) := by decide +kernel
theorem dX5_takesOut_111 : decode cX5_takesOut 111 = .ok (.iload_n 3, 1) := by decide +kernel
theorem dX5_takesOut_112 : decode cX5_takesOut 112 = .ok (.invokevirtual 107, 3) := by decide +kernel
theorem dX5_takesOut_115 : decode cX5_takesOut 115 = .ok (.if_icmp .ge 13, 3) := by decide +kernel
theorem dX5_takesOut_118 : decode cX5_takesOut 118 = .ok (.aload_n 0, 1) := by decide +kernel
theorem dX5_takesOut_119 : decode cX5_takesOut 119 = .ok (.iload_n 3, 1) := by decide +kernel
theorem dX5_takesOut_120 : decode cX5_takesOut 120 = .ok (.invokevirtual 110, 3) := by decide +kernel
theorem dX5_takesOut_123 : decode cX5_takesOut 123 = .ok (.ifCond .ge 5, 3) := by decide +kernel
theorem dX5_takesOut_126 : decode cX5_takesOut 126 = .ok (.iload_n 2, 1) := by decide +kernel
theorem dX5_takesOut_127 : decode cX5_takesOut 127 = .ok (.ireturn, 1) := by decide +kernel
theorem dX5_takesOut_128 : decode cX5_takesOut 128 = .ok (.iinc 3 (-1), 3) := by decide +kernel
theorem dX5_takesOut_131 : decode cX5_takesOut 131 = .ok (.goto (-77), 3) := by decide +kernel
theorem dX5_takesOut_134 : decode cX5_takesOut 134 = .ok (.aload_n 0, 1) := by decide +kernel
theorem dX5_takesOut_135 : decode cX5_takesOut 135 = .ok (.invokevirtual 34, 3) := by decide +kernel
theorem dX5_takesOut_138 : decode cX5_takesOut 138 = .ok (.iload_n 2, 1) := by decide +kernel
theorem dX5_takesOut_139 : decode cX5_takesOut 139 = .ok (.ireturn, 1) := by decide +kernel
set_option maxRecDepth 20000 in
theorem ggX5_append_X5_four : GoodIn wsX5_append wsX5_four := goodIn_r _ [7, 8, 2, 9, 10, 11, 12, 13, 14, 15, 16, 17, 18, 19, 20, 21, 22, 23] (by decide +kernel) (by decide +kernel)
set_option maxRecDepth 20000 in
theorem gX5_append_X5_four : GoodIn wsX5_append (wsV RX5 116 RX5 yX5_four wsX5_four) := goodIn_app (goodIn_of _ (by decide +kernel)) ggX5_append_X5_four
theorem dX5_append_0 : decode cX5_append 0 = .ok (.aload_n 0, 1) := by decide +kernel
theorem dX5_append_1 : decode cX5_append 1 = .ok (.iconst 0, 1) := by decide +kernel
theorem dX5_append_2 : decode cX5_append 2 = .ok (.putfield 37, 3) := by decide +kernel
theorem dX5_append_5 : decode cX5_append 5 = .ok (.aload_n 0, 1) := by decide +kernel
theorem dX5_append_6 : decode cX5_append 6 = .ok (.getfield 113, 3) := by decide +kernel
theorem dX5_append_9 : decode cX5_append 9 = .ok (.bipush 20, 2) := by decide +kernel
theorem dX5_append_11 : decode cX5_append 11 = .ok (.iadd, 1) := by decide +kernel
theorem dX5_append_12 : decode cX5_append 12 = .ok (.sipush 500, 3) := by decide +kernel
theorem dX5_append_15 : decode cX5_append 15 = .ok (.if_icmp .le 5, 3) := by decide +kernel
theorem dX5_append_18 : decode cX5_append 18 = .ok (.iconst (-1), 1) := by decide +kernel
theorem dX5_append_19 : decode cX5_append 19 = .ok (.ireturn, 1) := by decide +kernel
theorem dX5_append_20 : decode cX5_append 20 = .ok (.aload_n 0, 1) := by decide +kernel
theorem dX5_append_21 : decode cX5_append 21 = .ok (.iload_n 1, 1) := by decide +kernel
theorem dX5_append_22 : decode cX5_append 22 = .ok (.invokevirtual 116, 3) := by decide +kernel
theorem dX5_append_25 : decode cX5_append 25 = .ok (.aload_n 0, 1) := by decide +kernel
theorem dX5_append_26 : decode cX5_append 26 = .ok (.iload_n 2, 1) := by decide +kernel
theorem dX5_append_27 : decode cX5_append 27 = .ok (.invokevirtual 116, 3) := by decide +kernel
theorem dX5_append_30 : decode cX5_append 30 = .ok (.aload_n 0, 1) := by decide +kernel
theorem dX5_append_31 : decode cX5_append 31 = .ok (.iload_n 3, 1) := by decide +kernel
theorem dX5_append_32 : decode cX5_append 32 = .ok (.invokevirtual 116, 3) := by decide +kernel
theorem dX5_append_35 : decode cX5_append 35 = .ok (.aload_n 0, 1) := by decide +kernel
theorem dX5_append_36 : decode cX5_append 36 = .ok (.iload 4, 2) := by decide +kernel
theorem dX5_append_38 : decode cX5_append 38 = .ok (.invokevirtual 116, 3) := by decide +kernel
theorem dX5_append_41 : decode cX5_append 41 = .ok (.aload_n 0, 1) := by decide +kernel
theorem dX5_append_42 : decode cX5_append 42 = .ok (.iload 5, 2) := by decide +kernel
theorem dX5_append_44 : decode cX5_append 44 = .ok (.invokevirtual 116, 3) := by decide +kernel
theorem dX5_append_47 : decode cX5_append 47 = .ok (.aload_n 0, 1) := by decide +kernel
theorem dX5_append_48 : decode cX5_append 48 = .ok (.getfield 113, 3) := by decide +kernel
theorem dX5_append_51 : decode cX5_append 51 = .ok (.ireturn, 1) := by decide +kernel
theorem dX5_four_0 : decode cX5_four 0 = .ok (.bipush 24, 2) := by decide +kernel
theorem dX5_four_2 : decode cX5_four 2 = .ok (.istore_n 2, 1) := by decide +kernel
theorem dX5_four_3 : decode cX5_four 3 = .ok (.iload_n 2, 1) := by decide +kernel
theorem dX5_four_4 : decode cX5_four 4 = .ok (.ifCond .lt 35, 3) := by decide +kernel
theorem dX5_four_7 : decode cX5_four 7 = .ok (.aload_n 0, 1) := by decide +kernel
theorem dX5_four_8 : decode cX5_four 8 = .ok (.getfield 19, 3) := by decide +kernel
theorem dX5_four_11 : decode cX5_four 11 = .ok (.aload_n 0, 1) := by decide +kernel
theorem dX5_four_12 : decode cX5_four 12 = .ok (.getfield 113, 3) := by decide +kernel
theorem dX5_four_15 : decode cX5_four 15 = .ok (.iload_n 1, 1) := by decide +kernel
theorem dX5_four_16 : decode cX5_four 16 = .ok (.iload_n 2, 1) := by decide +kernel
theorem dX5_four_17 : decode cX5_four 17 = .ok (.ishr, 1) := by decide +kernel
theorem dX5_four_18 : decode cX5_four 18 = .ok (.sipush 255, 3) := by decide +kernel
theorem dX5_four_21 : decode cX5_four 21 = .ok (.iand, 1) := by decide +kernel
theorem dX5_four_22 : decode cX5_four 22 = .ok (.iastore, 1) := by decide +kernel
theorem dX5_four_23 : decode cX5_four 23 = .ok (.aload_n 0, 1) := by decide +kernel
theorem dX5_four_24 : decode cX5_four 24 = .ok (.dup, 1) := by decide +kernel
theorem dX5_four_25 : decode cX5_four 25 = .ok (.getfield 113, 3) := by decide +kernel
theorem dX5_four_28 : decode cX5_four 28 = .ok (.iconst 1, 1) := by decide +kernel
theorem dX5_four_29 : decode cX5_four 29 = .ok (.iadd, 1) := by decide +kernel
theorem dX5_four_30 : decode cX5_four 30 = .ok (.putfield 113, 3) := by decide +kernel
theorem dX5_four_33 : decode cX5_four 33 = .ok (.iinc 2 (-8), 3) := by decide +kernel
theorem dX5_four_36 : decode cX5_four 36 = .ok (.goto (-33), 3) := by decide +kernel
theorem dX5_four_39 : decode cX5_four 39 = .ok (.return_, 1) := by decide +kernel
theorem dX5_errorOffset_0 : decode cX5_errorOffset 0 = .ok (.aload_n 0, 1) := by decide +kernel
theorem dX5_errorOffset_1 : decode cX5_errorOffset 1 = .ok (.iconst 0, 1) := by decide +kernel
theorem dX5_errorOffset_2 : decode cX5_errorOffset 2 = .ok (.putfield 37, 3) := by decide +kernel
theorem dX5_errorOffset_5 : decode cX5_errorOffset 5 = .ok (.aload_n 0, 1) := by decide +kernel
theorem dX5_errorOffset_6 : decode cX5_errorOffset 6 = .ok (.getfield 22, 3) := by decide +kernel
theorem dX5_errorOffset_9 : decode cX5_errorOffset 9 = .ok (.ireturn, 1) := by decide +kernel
theorem dX5_fails_0 : decode cX5_fails 0 = .ok (.aload_n 0, 1) := by decide +kernel
theorem dX5_fails_1 : decode cX5_fails 1 = .ok (.getfield 120, 3) := by decide +kernel
theorem dX5_fails_4 : decode cX5_fails 4 = .ok (.ifCond .eq 5, 3) := by decide +kernel
theorem dX5_fails_7 : decode cX5_fails 7 = .ok (.iconst 0, 1) := by decide +kernel
theorem dX5_fails_8 : decode cX5_fails 8 = .ok (.ireturn, 1) := by decide +kernel
theorem dX5_fails_9 : decode cX5_fails 9 = .ok (.aload_n 0, 1) := by decide +kernel
theorem dX5_fails_10 : decode cX5_fails 10 = .ok (.iload_n 1, 1) := by decide +kernel
theorem dX5_fails_11 : decode cX5_fails 11 = .ok (.putfield 120, 3) := by decide +kernel
theorem dX5_fails_14 : decode cX5_fails 14 = .ok (.aload_n 0, 1) := by decide +kernel
theorem dX5_fails_15 : decode cX5_fails 15 = .ok (.iload_n 2, 1) := by decide +kernel
theorem dX5_fails_16 : decode cX5_fails 16 = .ok (.putfield 22, 3) := by decide +kernel
theorem dX5_fails_19 : decode cX5_fails 19 = .ok (.iconst 0, 1) := by decide +kernel
theorem dX5_fails_20 : decode cX5_fails 20 = .ok (.ireturn, 1) := by decide +kernel
theorem dX5_here_0 : decode cX5_here 0 = .ok (.aload_n 0, 1) := by decide +kernel
theorem dX5_here_1 : decode cX5_here 1 = .ok (.getfield 123, 3) := by decide +kernel
theorem dX5_here_4 : decode cX5_here 4 = .ok (.aload_n 0, 1) := by decide +kernel
theorem dX5_here_5 : decode cX5_here 5 = .ok (.getfield 126, 3) := by decide +kernel
theorem dX5_here_8 : decode cX5_here 8 = .ok (.if_icmp .ge 30, 3) := by decide +kernel
theorem dX5_here_11 : decode cX5_here 11 = .ok (.aload_n 0, 1) := by decide +kernel
theorem dX5_here_12 : decode cX5_here 12 = .ok (.getfield 19, 3) := by decide +kernel
theorem dX5_here_15 : decode cX5_here 15 = .ok (.aload_n 0, 1) := by decide +kernel
theorem dX5_here_16 : decode cX5_here 16 = .ok (.getfield 123, 3) := by decide +kernel
theorem dX5_here_19 : decode cX5_here 19 = .ok (.iaload, 1) := by decide +kernel
theorem dX5_here_20 : decode cX5_here 20 = .ok (.bipush 32, 2) := by decide +kernel
theorem dX5_here_22 : decode cX5_here 22 = .ok (.if_icmp .ne 16, 3) := by decide +kernel
theorem dX5_here_25 : decode cX5_here 25 = .ok (.aload_n 0, 1) := by decide +kernel
theorem dX5_here_26 : decode cX5_here 26 = .ok (.dup, 1) := by decide +kernel
theorem dX5_here_27 : decode cX5_here 27 = .ok (.getfield 123, 3) := by decide +kernel
theorem dX5_here_30 : decode cX5_here 30 = .ok (.iconst 1, 1) := by decide +kernel
theorem dX5_here_31 : decode cX5_here 31 = .ok (.iadd, 1) := by decide +kernel
theorem dX5_here_32 : decode cX5_here 32 = .ok (.putfield 123, 3) := by decide +kernel
theorem dX5_here_35 : decode cX5_here 35 = .ok (.goto (-35), 3) := by decide +kernel
theorem dX5_here_38 : decode cX5_here 38 = .ok (.aload_n 0, 1) := by decide +kernel
theorem dX5_here_39 : decode cX5_here 39 = .ok (.getfield 123, 3) := by decide +kernel
theorem dX5_here_42 : decode cX5_here 42 = .ok (.aload_n 0, 1) := by decide +kernel
theorem dX5_here_43 : decode cX5_here 43 = .ok (.getfield 126, 3) := by decide +kernel
theorem dX5_here_46 : decode cX5_here 46 = .ok (.if_icmp .ge 15, 3) := by decide +kernel
theorem dX5_here_49 : decode cX5_here 49 = .ok (.aload_n 0, 1) := by decide +kernel
theorem dX5_here_50 : decode cX5_here 50 = .ok (.getfield 19, 3) := by decide +kernel
theorem dX5_here_53 : decode cX5_here 53 = .ok (.aload_n 0, 1) := by decide +kernel
theorem dX5_here_54 : decode cX5_here 54 = .ok (.getfield 123, 3) := by decide +kernel
theorem dX5_here_57 : decode cX5_here 57 = .ok (.iaload, 1) := by decide +kernel
theorem dX5_here_58 : decode cX5_here 58 = .ok (.goto 4, 3) := by decide +kernel
theorem dX5_here_61 : decode cX5_here 61 = .ok (.iconst (-1), 1) := by decide +kernel
theorem dX5_here_62 : decode cX5_here 62 = .ok (.ireturn, 1) := by decide +kernel
theorem dX5_isSmall_0 : decode cX5_isSmall 0 = .ok (.iload_n 0, 1) := by decide +kernel
theorem dX5_isSmall_1 : decode cX5_isSmall 1 = .ok (.bipush 97, 2) := by decide +kernel
theorem dX5_isSmall_3 : decode cX5_isSmall 3 = .ok (.if_icmp .lt 13, 3) := by decide +kernel
theorem dX5_isSmall_6 : decode cX5_isSmall 6 = .ok (.iload_n 0, 1) := by decide +kernel
theorem dX5_isSmall_7 : decode cX5_isSmall 7 = .ok (.bipush 122, 2) := by decide +kernel
theorem dX5_isSmall_9 : decode cX5_isSmall 9 = .ok (.if_icmp .gt 7, 3) := by decide +kernel
theorem dX5_isSmall_12 : decode cX5_isSmall 12 = .ok (.iconst 1, 1) := by decide +kernel
theorem dX5_isSmall_13 : decode cX5_isSmall 13 = .ok (.goto 4, 3) := by decide +kernel
theorem dX5_isSmall_16 : decode cX5_isSmall 16 = .ok (.iconst 0, 1) := by decide +kernel
theorem dX5_isSmall_17 : decode cX5_isSmall 17 = .ok (.ireturn, 1) := by decide +kernel
theorem dX5_isDigit_0 : decode cX5_isDigit 0 = .ok (.iload_n 0, 1) := by decide +kernel
theorem dX5_isDigit_1 : decode cX5_isDigit 1 = .ok (.bipush 48, 2) := by decide +kernel
theorem dX5_isDigit_3 : decode cX5_isDigit 3 = .ok (.if_icmp .lt 13, 3) := by decide +kernel
theorem dX5_isDigit_6 : decode cX5_isDigit 6 = .ok (.iload_n 0, 1) := by decide +kernel
theorem dX5_isDigit_7 : decode cX5_isDigit 7 = .ok (.bipush 57, 2) := by decide +kernel
theorem dX5_isDigit_9 : decode cX5_isDigit 9 = .ok (.if_icmp .gt 7, 3) := by decide +kernel
theorem dX5_isDigit_12 : decode cX5_isDigit 12 = .ok (.iconst 1, 1) := by decide +kernel
theorem dX5_isDigit_13 : decode cX5_isDigit 13 = .ok (.goto 4, 3) := by decide +kernel
theorem dX5_isDigit_16 : decode cX5_isDigit 16 = .ok (.iconst 0, 1) := by decide +kernel
theorem dX5_isDigit_17 : decode cX5_isDigit 17 = .ok (.ireturn, 1) := by decide +kernel
set_option maxRecDepth 20000 in
theorem ggX5_passes_X5_here : GoodIn wsX5_passes wsX5_here := goodIn_r _ [8, 1, 2, 3, 61, 62, 63, 64, 65, 66, 67, 68, 69, 70, 71, 72, 73, 74, 75] (by decide +kernel) (by decide +kernel)
set_option maxRecDepth 20000 in
theorem gX5_passes_X5_here : GoodIn wsX5_passes (wsV RX5 129 RX5 yX5_here wsX5_here) := goodIn_app (goodIn_of _ (by decide +kernel)) ggX5_passes_X5_here
set_option maxRecDepth 20000 in
theorem ggX5_passes_X5_isSmall : GoodIn wsX5_passes wsX5_isSmall := goodIn_r _ [11] (by decide +kernel) (by decide +kernel)
set_option maxRecDepth 20000 in
theorem gX5_passes_X5_isSmall : GoodIn wsX5_passes (va_wsS RX5 132 yX5_isSmall wsX5_isSmall) := goodIn_app (goodIn_of _ (by decide +kernel)) ggX5_passes_X5_isSmall
set_option maxRecDepth 20000 in
theorem ggX5_passes_J0_length_8abf5 : GoodIn wsX5_passes wsJ0_length_8abf5 := goodIn_r _ [16, 17, 18, 19, 20, 15, 21, 22, 23] (by decide +kernel) (by decide +kernel)
set_option maxRecDepth 20000 in
theorem gX5_passes_J0_length_8abf5 : GoodIn wsX5_passes (wsV RX5 135 RJ0 yJ0_length_8abf5 wsJ0_length_8abf5) := goodIn_app (goodIn_of _ (by decide +kernel)) ggX5_passes_J0_length_8abf5
set_option maxRecDepth 20000 in
theorem ggX5_passes_J0_charAt_5068e : GoodIn wsX5_passes wsJ0_charAt_5068e := goodIn_r _ [27, 17, 28, 29, 30, 15, 31, 22, 23, 32, 33, 34, 35, 36, 37, 38, 39, 40, 41, 42, 43, 44, 45, 46, 47, 48, 49, 50, 51, 52, 53, 54, 55, 56, 57, 58, 59, 60] (by decide +kernel) (by decide +kernel)
set_option maxRecDepth 20000 in
theorem gX5_passes_J0_charAt_5068e : GoodIn wsX5_passes (wsV RX5 139 RJ0 yJ0_charAt_5068e wsJ0_charAt_5068e) := goodIn_app (goodIn_of _ (by decide +kernel)) ggX5_passes_J0_charAt_5068e
theorem dX5_passes_0 : decode cX5_passes 0 = .ok (.aload_n 0, 1) := by decide +kernel
theorem dX5_passes_1 : decode cX5_passes 1 = .ok (.invokevirtual 129, 3) := by decide +kernel
theorem dX5_passes_4 : decode cX5_passes 4 = .ok (.pop, 1) := by decide +kernel
theorem dX5_passes_5 : decode cX5_passes 5 = .ok (.iconst 0, 1) := by decide +kernel
theorem dX5_passes_6 : decode cX5_passes 6 = .ok (.istore_n 2, 1) := by decide +kernel
theorem dX5_passes_7 : decode cX5_passes 7 = .ok (.aload_n 0, 1) := by decide +kernel
theorem dX5_passes_8 : decode cX5_passes 8 = .ok (.getfield 123, 3) := by decide +kernel
theorem dX5_passes_11 : decode cX5_passes 11 = .ok (.iload_n 2, 1) := by decide +kernel
theorem dX5_passes_12 : decode cX5_passes 12 = .ok (.iadd, 1) := by decide +kernel
theorem dX5_passes_13 : decode cX5_passes 13 = .ok (.aload_n 0, 1) := by decide +kernel
theorem dX5_passes_14 : decode cX5_passes 14 = .ok (.getfield 126, 3) := by decide +kernel
theorem dX5_passes_17 : decode cX5_passes 17 = .ok (.if_icmp .ge 26, 3) := by decide +kernel
theorem dX5_passes_20 : decode cX5_passes 20 = .ok (.aload_n 0, 1) := by decide +kernel
theorem dX5_passes_21 : decode cX5_passes 21 = .ok (.getfield 19, 3) := by decide +kernel
theorem dX5_passes_24 : decode cX5_passes 24 = .ok (.aload_n 0, 1) := by decide +kernel
theorem dX5_passes_25 : decode cX5_passes 25 = .ok (.getfield 123, 3) := by decide +kernel
theorem dX5_passes_28 : decode cX5_passes 28 = .ok (.iload_n 2, 1) := by decide +kernel
theorem dX5_passes_29 : decode cX5_passes 29 = .ok (.iadd, 1) := by decide +kernel
theorem dX5_passes_30 : decode cX5_passes 30 = .ok (.iaload, 1) := by decide +kernel
theorem dX5_passes_31 : decode cX5_passes 31 = .ok (.invokestatic 132, 3) := by decide +kernel
theorem dX5_passes_34 : decode cX5_passes 34 = .ok (.ifCond .eq 9, 3) := by decide +kernel
theorem dX5_passes_37 : decode cX5_passes 37 = .ok (.iinc 2 1, 3) := by decide +kernel
theorem dX5_passes_40 : decode cX5_passes 40 = .ok (.goto (-33), 3) := by decide +kernel
theorem dX5_passes_43 : decode cX5_passes 43 = .ok (.iload_n 2, 1) := by decide +kernel
theorem dX5_passes_44 : decode cX5_passes 44 = .ok (.aload_n 1, 1) := by decide +kernel
theorem dX5_passes_45 : decode cX5_passes 45 = .ok (.invokevirtual 135, 3) := by decide +kernel
theorem dX5_passes_48 : decode cX5_passes 48 = .ok (.if_icmp .eq 5, 3) := by decide +kernel
theorem dX5_passes_51 : decode cX5_passes 51 = .ok (.iconst 0, 1) := by decide +kernel
theorem dX5_passes_52 : decode cX5_passes 52 = .ok (.ireturn, 1) := by decide +kernel
theorem dX5_passes_53 : decode cX5_passes 53 = .ok (.iconst 0, 1) := by decide +kernel
theorem dX5_passes_54 : decode cX5_passes 54 = .ok (.istore_n 3, 1) := by decide +kernel
theorem dX5_passes_55 : decode cX5_passes 55 = .ok (.iload_n 3, 1) := by decide +kernel
theorem dX5_passes_56 : decode cX5_passes 56 = .ok (.iload_n 2, 1) := by decide +kernel
theorem dX5_passes_57 : decode cX5_passes 57 = .ok (.if_icmp .ge 30, 3) := by decide +kernel
theorem dX5_passes_60 : decode cX5_passes 60 = .ok (.aload_n 0, 1) := by decide +kernel
theorem dX5_passes_61 : decode cX5_passes 61 = .ok (.getfield 19, 3) := by decide +kernel
theorem dX5_passes_64 : decode cX5_passes 64 = .ok (.aload_n 0, 1) := by decide +kernel
theorem dX5_passes_65 : decode cX5_passes 65 = .ok (.getfield 123, 3) := by decide +kernel
theorem dX5_passes_68 : decode cX5_passes 68 = .ok (.iload_n 3, 1) := by decide +kernel
theorem dX5_passes_69 : decode cX5_passes 69 = .ok (.iadd, 1) := by decide +kernel
theorem dX5_passes_70 : decode cX5_passes 70 = .ok (.iaload, 1) := by decide +kernel
theorem dX5_passes_71 : decode cX5_passes 71 = .ok (.aload_n 1, 1) := by decide +kernel
theorem dX5_passes_72 : decode cX5_passes 72 = .ok (.iload_n 3, 1) := by decide +kernel
theorem dX5_passes_73 : decode cX5_passes 73 = .ok (.invokevirtual 139, 3) := by decide +kernel
theorem dX5_passes_76 : decode cX5_passes 76 = .ok (.if_icmp .eq 5, 3) := by decide +kernel
theorem dX5_passes_79 : decode cX5_passes 79 = .ok (.iconst 0, 1) := by decide +kernel
theorem dX5_passes_80 : decode cX5_passes 80 = .ok (.ireturn, 1) := by decide +kernel
theorem dX5_passes_81 : decode cX5_passes 81 = .ok (.iinc 3 1, 3) := by decide +kernel
theorem dX5_passes_84 : decode cX5_passes 84 = .ok (.goto (-29), 3) := by decide +kernel
theorem dX5_passes_87 : decode cX5_passes 87 = .ok (.aload_n 0, 1) := by decide +kernel
theorem dX5_passes_88 : decode cX5_passes 88 = .ok (.dup, 1) := by decide +kernel
theorem dX5_passes_89 : decode cX5_passes 89 = .ok (.getfield 123, 3) := by decide +kernel
theorem dX5_passes_92 : decode cX5_passes 92 = .ok (.iload_n 2, 1) := by decide +kernel
theorem dX5_passes_93 : decode cX5_passes 93 = .ok (.iadd, 1) := by decide +kernel
theorem dX5_passes_94 : decode cX5_passes 94 = .ok (.putfield 123, 3) := by decide +kernel
theorem dX5_passes_97 : decode cX5_passes 97 = .ok (.iconst 1, 1) := by decide +kernel
theorem dX5_passes_98 : decode cX5_passes 98 = .ok (.ireturn, 1) := by decide +kernel
set_option maxRecDepth 20000 in
theorem ggX5_sign_X5_here : GoodIn wsX5_sign wsX5_here := goodIn_r _ [6, 1, 7, 8, 15, 16, 17, 18, 19, 20, 21, 22, 23, 24, 25, 26, 27, 28, 29] (by decide +kernel) (by decide +kernel)
set_option maxRecDepth 20000 in
theorem gX5_sign_X5_here : GoodIn wsX5_sign (wsV RX5 129 RX5 yX5_here wsX5_here) := goodIn_app (goodIn_of _ (by decide +kernel)) ggX5_sign_X5_here
set_option maxRecDepth 20000 in
theorem ggX5_sign_X5_fails : GoodIn wsX5_sign wsX5_fails := goodIn_r _ [12, 13, 14, 15, 16, 17, 18, 19, 20, 21, 22, 23, 24, 25, 26, 27, 28, 29] (by decide +kernel) (by decide +kernel)
set_option maxRecDepth 20000 in
theorem gX5_sign_X5_fails : GoodIn wsX5_sign (wsV RX5 143 RX5 yX5_fails wsX5_fails) := goodIn_app (goodIn_of _ (by decide +kernel)) ggX5_sign_X5_fails
theorem dX5_sign_0 : decode cX5_sign 0 = .ok (.aload_n 0, 1) := by decide +kernel
theorem dX5_sign_1 : decode cX5_sign 1 = .ok (.invokevirtual 129, 3) := by decide +kernel
theorem dX5_sign_4 : decode cX5_sign 4 = .ok (.iload_n 1, 1) := by decide +kernel
theorem dX5_sign_5 : decode cX5_sign 5 = .ok (.if_icmp .eq 14, 3) := by decide +kernel
theorem dX5_sign_8 : decode cX5_sign 8 = .ok (.aload_n 0, 1) := by decide +kernel
theorem dX5_sign_9 : decode cX5_sign 9 = .ok (.bipush (-2), 2) := by decide +kernel
theorem dX5_sign_11 : decode cX5_sign 11 = .ok (.aload_n 0, 1) := by decide +kernel
theorem dX5_sign_12 : decode cX5_sign 12 = .ok (.getfield 123, 3) := by decide +kernel
theorem dX5_sign_15 : decode cX5_sign 15 = .ok (.invokevirtual 143, 3) := by decide +kernel
theorem dX5_sign_18 : decode cX5_sign 18 = .ok (.ireturn, 1) := by decide +kernel
theorem dX5_sign_19 : decode cX5_sign 19 = .ok (.aload_n 0, 1) := by decide +kernel
theorem dX5_sign_20 : decode cX5_sign 20 = .ok (.dup, 1) := by decide +kernel
theorem dX5_sign_21 : decode cX5_sign 21 = .ok (.getfield 123, 3) := by decide +kernel
theorem dX5_sign_24 : decode cX5_sign 24 = .ok (.iconst 1, 1) := by decide +kernel
theorem dX5_sign_25 : decode cX5_sign 25 = .ok (.iadd, 1) := by decide +kernel
theorem dX5_sign_26 : decode cX5_sign 26 = .ok (.putfield 123, 3) := by decide +kernel
theorem dX5_sign_29 : decode cX5_sign 29 = .ok (.iconst 1, 1) := by decide +kernel
theorem dX5_sign_30 : decode cX5_sign 30 = .ok (.ireturn, 1) := by decide +kernel
set_option maxRecDepth 20000 in
theorem ggX5_reads_X5_here : GoodIn wsX5_reads wsX5_here := goodIn_r _ [11, 1, 4, 5, 24, 25, 26, 27, 28, 29, 30, 31, 32, 33, 34, 35, 36, 37, 38] (by decide +kernel) (by decide +kernel)
set_option maxRecDepth 20000 in
theorem gX5_reads_X5_here : GoodIn wsX5_reads (wsV RX5 129 RX5 yX5_here wsX5_here) := goodIn_app (goodIn_of _ (by decide +kernel)) ggX5_reads_X5_here
set_option maxRecDepth 20000 in
theorem ggX5_reads_X5_isDigit : GoodIn wsX5_reads wsX5_isDigit := goodIn_r _ [14] (by decide +kernel) (by decide +kernel)
set_option maxRecDepth 20000 in
theorem gX5_reads_X5_isDigit : GoodIn wsX5_reads (va_wsS RX5 147 yX5_isDigit wsX5_isDigit) := goodIn_app (goodIn_of _ (by decide +kernel)) ggX5_reads_X5_isDigit
set_option maxRecDepth 20000 in
theorem ggX5_reads_X5_fails : GoodIn wsX5_reads wsX5_fails := goodIn_r _ [18, 19, 20, 24, 25, 26, 27, 28, 29, 30, 31, 32, 33, 34, 35, 36, 37, 38] (by decide +kernel) (by decide +kernel)
set_option maxRecDepth 20000 in
theorem gX5_reads_X5_fails : GoodIn wsX5_reads (wsV RX5 143 RX5 yX5_fails wsX5_fails) := goodIn_app (goodIn_of _ (by decide +kernel)) ggX5_reads_X5_fails
set_option maxRecDepth 20000 in
theorem ggX5_reads_X5_isIn : GoodIn wsX5_reads wsX5_isIn := goodIn_r _ [23] (by decide +kernel) (by decide +kernel)
set_option maxRecDepth 20000 in
theorem gX5_reads_X5_isIn : GoodIn wsX5_reads (va_wsS RX5 157 yX5_isIn wsX5_isIn) := goodIn_app (goodIn_of _ (by decide +kernel)) ggX5_reads_X5_isIn
theorem dX5_reads_0 : decode cX5_reads 0 = .ok (.aload_n 0, 1) := by decide +kernel
theorem dX5_reads_1 : decode cX5_reads 1 = .ok (.invokevirtual 129, 3) := by decide +kernel
theorem dX5_reads_4 : decode cX5_reads 4 = .ok (.invokestatic 147, 3) := by decide +kernel
theorem dX5_reads_7 : decode cX5_reads 7 = .ok (.ifCond .ne 14, 3) := by decide +kernel
theorem dX5_reads_10 : decode cX5_reads 10 = .ok (.aload_n 0, 1) := by decide +kernel
theorem dX5_reads_11 : decode cX5_reads 11 = .ok (.bipush (-2), 2) := by decide +kernel
theorem dX5_reads_13 : decode cX5_reads 13 = .ok (.aload_n 0, 1) := by decide +kernel
theorem dX5_reads_14 : decode cX5_reads 14 = .ok (.getfield 123, 3) := by decide +kernel
theorem dX5_reads_17 : decode cX5_reads 17 = .ok (.invokevirtual 143, 3) := by decide +kernel
theorem dX5_reads_20 : decode cX5_reads 20 = .ok (.ireturn, 1) := by decide +kernel
theorem dX5_reads_21 : decode cX5_reads 21 = .ok (.aload_n 0, 1) := by decide +kernel
theorem dX5_reads_22 : decode cX5_reads 22 = .ok (.aload_n 0, 1) := by decide +kernel
theorem dX5_reads_23 : decode cX5_reads 23 = .ok (.getfield 123, 3) := by decide +kernel
theorem dX5_reads_26 : decode cX5_reads 26 = .ok (.putfield 150, 3) := by decide +kernel
theorem dX5_reads_29 : decode cX5_reads 29 = .ok (.aload_n 0, 1) := by decide +kernel
theorem dX5_reads_30 : decode cX5_reads 30 = .ok (.iconst 0, 1) := by decide +kernel
theorem dX5_reads_31 : decode cX5_reads 31 = .ok (.putfield 153, 3) := by decide +kernel
theorem dX5_reads_34 : decode cX5_reads 34 = .ok (.aload_n 0, 1) := by decide +kernel
theorem dX5_reads_35 : decode cX5_reads 35 = .ok (.getfield 123, 3) := by decide +kernel
theorem dX5_reads_38 : decode cX5_reads 38 = .ok (.aload_n 0, 1) := by decide +kernel
theorem dX5_reads_39 : decode cX5_reads 39 = .ok (.getfield 126, 3) := by decide +kernel
theorem dX5_reads_42 : decode cX5_reads 42 = .ok (.if_icmp .ge 71, 3) := by decide +kernel
theorem dX5_reads_45 : decode cX5_reads 45 = .ok (.aload_n 0, 1) := by decide +kernel
theorem dX5_reads_46 : decode cX5_reads 46 = .ok (.getfield 19, 3) := by decide +kernel
theorem dX5_reads_49 : decode cX5_reads 49 = .ok (.aload_n 0, 1) := by decide +kernel
theorem dX5_reads_50 : decode cX5_reads 50 = .ok (.getfield 123, 3) := by decide +kernel
theorem dX5_reads_53 : decode cX5_reads 53 = .ok (.iaload, 1) := by decide +kernel
theorem dX5_reads_54 : decode cX5_reads 54 = .ok (.invokestatic 147, 3) := by decide +kernel
theorem dX5_reads_57 : decode cX5_reads 57 = .ok (.ifCond .eq 56, 3) := by decide +kernel
theorem dX5_reads_60 : decode cX5_reads 60 = .ok (.aload_n 0, 1) := by decide +kernel
theorem dX5_reads_61 : decode cX5_reads 61 = .ok (.aload_n 0, 1) := by decide +kernel
theorem dX5_reads_62 : decode cX5_reads 62 = .ok (.getfield 153, 3) := by decide +kernel
theorem dX5_reads_65 : decode cX5_reads 65 = .ok (.ldc 156, 2) := by decide +kernel
theorem dX5_reads_67 : decode cX5_reads 67 = .ok (.if_icmp .le 10, 3) := by decide +kernel
theorem dX5_reads_70 : decode cX5_reads 70 = .ok (.aload_n 0, 1) := by decide +kernel
theorem dX5_reads_71 : decode cX5_reads 71 = .ok (.getfield 153, 3) := by decide +kernel
theorem dX5_reads_74 : decode cX5_reads 74 = .ok (.goto 23, 3) := by decide +kernel
theorem dX5_reads_77 : decode cX5_reads 77 = .ok (.bipush 10, 2) := by decide +kernel
theorem dX5_reads_79 : decode cX5_reads 79 = .ok (.aload_n 0, 1) := by decide +kernel
theorem dX5_reads_80 : decode cX5_reads 80 = .ok (.getfield 153, 3) := by decide +kernel
theorem dX5_reads_83 : decode cX5_reads 83 = .ok (.imul, 1) := by decide +kernel
theorem dX5_reads_84 : decode cX5_reads 84 = .ok (.aload_n 0, 1) := by decide +kernel
theorem dX5_reads_85 : decode cX5_reads 85 = .ok (.getfield 19, 3) := by decide +kernel
theorem dX5_reads_88 : decode cX5_reads 88 = .ok (.aload_n 0, 1) := by decide +kernel
theorem dX5_reads_89 : decode cX5_reads 89 = .ok (.getfield 123, 3) := by decide +kernel
theorem dX5_reads_92 : decode cX5_reads 92 = .ok (.iaload, 1) := by decide +kernel
theorem dX5_reads_93 : decode cX5_reads 93 = .ok (.iadd, 1) := by decide +kernel
theorem dX5_reads_94 : decode cX5_reads 94 = .ok (.bipush 48, 2) := by decide +kernel
theorem dX5_reads_96 : decode cX5_reads 96 = .ok (.isub, 1) := by decide +kernel
theorem dX5_reads_97 : decode cX5_reads 97 = .ok (.putfield 153, 3) := by decide +kernel
theorem dX5_reads_100 : decode cX5_reads 100 = .ok (.aload_n 0, 1) := by decide +kernel
theorem dX5_reads_101 : decode cX5_reads 101 = .ok (.dup, 1) := by decide +kernel
theorem dX5_reads_102 : decode cX5_reads 102 = .ok (.getfield 123, 3) := by decide +kernel
theorem dX5_reads_105 : decode cX5_reads 105 = .ok (.iconst 1, 1) := by decide +kernel
theorem dX5_reads_106 : decode cX5_reads 106 = .ok (.iadd, 1) := by decide +kernel
theorem dX5_reads_107 : decode cX5_reads 107 = .ok (.putfield 123, 3) := by decide +kernel
theorem dX5_reads_110 : decode cX5_reads 110 = .ok (.goto (-76), 3) := by decide +kernel
theorem dX5_reads_113 : decode cX5_reads 113 = .ok (.aload_n 0, 1) := by decide +kernel
theorem dX5_reads_114 : decode cX5_reads 114 = .ok (.getfield 153, 3) := by decide +kernel
theorem dX5_reads_117 : decode cX5_reads 117 = .ok (.iload_n 1, 1) := by decide +kernel
theorem dX5_reads_118 : decode cX5_reads 118 = .ok (.iload_n 2, 1) := by decide +kernel
theorem dX5_reads_119 : decode cX5_reads 119 = .ok (.invokestatic 157, 3) := by decide +kernel
theorem dX5_reads_122 : decode cX5_reads 122 = .ok (.ifCond .ne 16, 3) := by decide +kernel
theorem dX5_reads_125 : decode cX5_reads 125 = .ok (.aload_n 0, 1) := by decide +kernel
theorem dX5_reads_126 : decode cX5_reads 126 = .ok (.bipush (-3), 2) := by decide +kernel
theorem dX5_reads_128 : decode cX5_reads 128 = .ok (.aload_n 0, 1) := by decide +kernel
theorem dX5_reads_129 : decode cX5_reads 129 = .ok (.getfield 150, 3) := by decide +kernel
theorem dX5_reads_132 : decode cX5_reads 132 = .ok (.invokevirtual 143, 3) := by decide +kernel
theorem dX5_reads_135 : decode cX5_reads 135 = .ok (.ifCond .eq 7, 3) := by decide +kernel
theorem dX5_reads_138 : decode cX5_reads 138 = .ok (.iconst 1, 1) := by decide +kernel
theorem dX5_reads_139 : decode cX5_reads 139 = .ok (.goto 4, 3) := by decide +kernel
theorem dX5_reads_142 : decode cX5_reads 142 = .ok (.iconst 0, 1) := by decide +kernel
theorem dX5_reads_143 : decode cX5_reads 143 = .ok (.ireturn, 1) := by decide +kernel
set_option maxRecDepth 20000 in
theorem ggX5_readsValue_X5_here : GoodIn wsX5_readsValue wsX5_here := goodIn_r _ [7, 1, 8, 9, 28, 29, 30, 31, 32, 33, 34, 35, 36, 37, 38, 39, 40, 41, 42] (by decide +kernel) (by decide +kernel)
set_option maxRecDepth 20000 in
theorem gX5_readsValue_X5_here : GoodIn wsX5_readsValue (wsV RX5 129 RX5 yX5_here wsX5_here) := goodIn_app (goodIn_of _ (by decide +kernel)) ggX5_readsValue_X5_here
set_option maxRecDepth 20000 in
theorem ggX5_readsValue_X5_reads : GoodIn wsX5_readsValue wsX5_reads := goodIn_r _ [13, 1, 14, 2, 8, 9, 15, 3, 4, 5, 6, 7, 16, 17, 18, 19, 20, 21, 22, 23, 24, 25, 26, 27, 28, 29, 30, 31, 32, 33, 34, 35, 36, 37, 38, 39, 40, 41, 42] (by decide +kernel) (by decide +kernel)
set_option maxRecDepth 20000 in
theorem gX5_readsValue_X5_reads : GoodIn wsX5_readsValue (wsV RX5 160 RX5 yX5_reads wsX5_reads) := goodIn_app (goodIn_of _ (by decide +kernel)) ggX5_readsValue_X5_reads
theorem dX5_readsValue_0 : decode cX5_readsValue 0 = .ok (.aload_n 0, 1) := by decide +kernel
theorem dX5_readsValue_1 : decode cX5_readsValue 1 = .ok (.invokevirtual 129, 3) := by decide +kernel
theorem dX5_readsValue_4 : decode cX5_readsValue 4 = .ok (.bipush 45, 2) := by decide +kernel
theorem dX5_readsValue_6 : decode cX5_readsValue 6 = .ok (.if_icmp .ne 7, 3) := by decide +kernel
theorem dX5_readsValue_9 : decode cX5_readsValue 9 = .ok (.iconst 1, 1) := by decide +kernel
theorem dX5_readsValue_10 : decode cX5_readsValue 10 = .ok (.goto 4, 3) := by decide +kernel
theorem dX5_readsValue_13 : decode cX5_readsValue 13 = .ok (.iconst 0, 1) := by decide +kernel
theorem dX5_readsValue_14 : decode cX5_readsValue 14 = .ok (.istore_n 1, 1) := by decide +kernel
theorem dX5_readsValue_15 : decode cX5_readsValue 15 = .ok (.aload_n 0, 1) := by decide +kernel
theorem dX5_readsValue_16 : decode cX5_readsValue 16 = .ok (.dup, 1) := by decide +kernel
theorem dX5_readsValue_17 : decode cX5_readsValue 17 = .ok (.getfield 123, 3) := by decide +kernel
theorem dX5_readsValue_20 : decode cX5_readsValue 20 = .ok (.iload_n 1, 1) := by decide +kernel
theorem dX5_readsValue_21 : decode cX5_readsValue 21 = .ok (.ifCond .eq 7, 3) := by decide +kernel
theorem dX5_readsValue_24 : decode cX5_readsValue 24 = .ok (.iconst 1, 1) := by decide +kernel
theorem dX5_readsValue_25 : decode cX5_readsValue 25 = .ok (.goto 4, 3) := by decide +kernel
theorem dX5_readsValue_28 : decode cX5_readsValue 28 = .ok (.iconst 0, 1) := by decide +kernel
theorem dX5_readsValue_29 : decode cX5_readsValue 29 = .ok (.iadd, 1) := by decide +kernel
theorem dX5_readsValue_30 : decode cX5_readsValue 30 = .ok (.putfield 123, 3) := by decide +kernel
theorem dX5_readsValue_33 : decode cX5_readsValue 33 = .ok (.aload_n 0, 1) := by decide +kernel
theorem dX5_readsValue_34 : decode cX5_readsValue 34 = .ok (.iconst 0, 1) := by decide +kernel
theorem dX5_readsValue_35 : decode cX5_readsValue 35 = .ok (.sipush 999, 3) := by decide +kernel
theorem dX5_readsValue_38 : decode cX5_readsValue 38 = .ok (.invokevirtual 160, 3) := by decide +kernel
theorem dX5_readsValue_41 : decode cX5_readsValue 41 = .ok (.ifCond .ne 5, 3) := by decide +kernel
theorem dX5_readsValue_44 : decode cX5_readsValue 44 = .ok (.iconst 0, 1) := by decide +kernel
theorem dX5_readsValue_45 : decode cX5_readsValue 45 = .ok (.ireturn, 1) := by decide +kernel
theorem dX5_readsValue_46 : decode cX5_readsValue 46 = .ok (.aload_n 0, 1) := by decide +kernel
theorem dX5_readsValue_47 : decode cX5_readsValue 47 = .ok (.iload_n 1, 1) := by decide +kernel
theorem dX5_readsValue_48 : decode cX5_readsValue 48 = .ok (.ifCond .eq 11, 3) := by decide +kernel
theorem dX5_readsValue_51 : decode cX5_readsValue 51 = .ok (.aload_n 0, 1) := by decide +kernel
theorem dX5_readsValue_52 : decode cX5_readsValue 52 = .ok (.getfield 153, 3) := by decide +kernel
theorem dX5_readsValue_55 : decode cX5_readsValue 55 = .ok (.ineg, 1) := by decide +kernel
theorem dX5_readsValue_56 : decode cX5_readsValue 56 = .ok (.goto 7, 3) := by decide +kernel
theorem dX5_readsValue_59 : decode cX5_readsValue 59 = .ok (.aload_n 0, 1) := by decide +kernel
theorem dX5_readsValue_60 : decode cX5_readsValue 60 = .ok (.getfield 153, 3) := by decide +kernel
theorem dX5_readsValue_63 : decode cX5_readsValue 63 = .ok (.putfield 153, 3) := by decide +kernel
theorem dX5_readsValue_66 : decode cX5_readsValue 66 = .ok (.iconst 1, 1) := by decide +kernel
theorem dX5_readsValue_67 : decode cX5_readsValue 67 = .ok (.ireturn, 1) := by decide +kernel
set_option maxRecDepth 20000 in
theorem ggX5_isValueHere_X5_here : GoodIn wsX5_isValueHere wsX5_here := goodIn_r _ [5, 6, 7, 8, 12, 13, 14, 15, 16, 17, 18, 19, 20, 21, 22, 23, 24, 25, 26] (by decide +kernel) (by decide +kernel)
set_option maxRecDepth 20000 in
theorem gX5_isValueHere_X5_here : GoodIn wsX5_isValueHere (wsV RX5 129 RX5 yX5_here wsX5_here) := goodIn_app (goodIn_of _ (by decide +kernel)) ggX5_isValueHere_X5_here
set_option maxRecDepth 20000 in
theorem ggX5_isValueHere_X5_isDigit : GoodIn wsX5_isValueHere wsX5_isDigit := goodIn_r _ [11] (by decide +kernel) (by decide +kernel)
set_option maxRecDepth 20000 in
theorem gX5_isValueHere_X5_isDigit : GoodIn wsX5_isValueHere (va_wsS RX5 147 yX5_isDigit wsX5_isDigit) := goodIn_app (goodIn_of _ (by decide +kernel)) ggX5_isValueHere_X5_isDigit
theorem dX5_isValueHere_0 : decode cX5_isValueHere 0 = .ok (.aload_n 0, 1) := by decide +kernel
theorem dX5_isValueHere_1 : decode cX5_isValueHere 1 = .ok (.invokevirtual 129, 3) := by decide +kernel
theorem dX5_isValueHere_4 : decode cX5_isValueHere 4 = .ok (.bipush 45, 2) := by decide +kernel
theorem dX5_isValueHere_6 : decode cX5_isValueHere 6 = .ok (.if_icmp .eq 13, 3) := by decide +kernel
theorem dX5_isValueHere_9 : decode cX5_isValueHere 9 = .ok (.aload_n 0, 1) := by decide +kernel
theorem dX5_isValueHere_10 : decode cX5_isValueHere 10 = .ok (.invokevirtual 129, 3) := by decide +kernel
theorem dX5_isValueHere_13 : decode cX5_isValueHere 13 = .ok (.invokestatic 147, 3) := by decide +kernel
theorem dX5_isValueHere_16 : decode cX5_isValueHere 16 = .ok (.ifCond .eq 7, 3) := by decide +kernel
theorem dX5_isValueHere_19 : decode cX5_isValueHere 19 = .ok (.iconst 1, 1) := by decide +kernel
theorem dX5_isValueHere_20 : decode cX5_isValueHere 20 = .ok (.goto 4, 3) := by decide +kernel
theorem dX5_isValueHere_23 : decode cX5_isValueHere 23 = .ok (.iconst 0, 1) := by decide +kernel
theorem dX5_isValueHere_24 : decode cX5_isValueHere 24 = .ok (.ireturn, 1) := by decide +kernel
set_option maxRecDepth 20000 in
theorem ggX5_readsValues_X5_isValueHere : GoodIn wsX5_readsValues wsX5_isValueHere := goodIn_r _ [7, 8, 9, 10, 6, 11, 1, 12, 13, 14, 15, 16, 54, 55, 56, 57, 58, 59, 60, 61, 62, 63, 64, 65, 66, 67, 68] (by decide +kernel) (by decide +kernel)
set_option maxRecDepth 20000 in
theorem gX5_readsValues_X5_isValueHere : GoodIn wsX5_readsValues (wsV RX5 163 RX5 yX5_isValueHere wsX5_isValueHere) := goodIn_app (goodIn_of _ (by decide +kernel)) ggX5_readsValues_X5_isValueHere
set_option maxRecDepth 20000 in
theorem ggX5_readsValues_X5_fails : GoodIn wsX5_readsValues wsX5_fails := goodIn_r _ [20, 21, 22, 54, 55, 56, 57, 58, 59, 60, 61, 62, 63, 64, 65, 66, 67, 68] (by decide +kernel) (by decide +kernel)
set_option maxRecDepth 20000 in
theorem gX5_readsValues_X5_fails : GoodIn wsX5_readsValues (wsV RX5 143 RX5 yX5_fails wsX5_fails) := goodIn_app (goodIn_of _ (by decide +kernel)) ggX5_readsValues_X5_fails
set_option maxRecDepth 20000 in
theorem ggX5_readsValues_X5_size : GoodIn wsX5_readsValues wsX5_size := goodIn_r _ [26, 27, 28, 29, 6, 30, 31, 32, 54, 55, 56, 57, 58, 59, 60, 61, 62, 63, 64, 65, 66, 67, 68] (by decide +kernel) (by decide +kernel)
set_option maxRecDepth 20000 in
theorem gX5_readsValues_X5_size : GoodIn wsX5_readsValues (wsV RX5 50 RX5 yX5_size wsX5_size) := goodIn_app (goodIn_of _ (by decide +kernel)) ggX5_readsValues_X5_size
set_option maxRecDepth 20000 in
theorem ggX5_readsValues_X5_here : GoodIn wsX5_readsValues wsX5_here := goodIn_r _ [11, 1, 12, 13, 54, 55, 56, 57, 58, 59, 60, 61, 62, 63, 64, 65, 66, 67, 68] (by decide +kernel) (by decide +kernel)
set_option maxRecDepth 20000 in
theorem gX5_readsValues_X5_here : GoodIn wsX5_readsValues (wsV RX5 129 RX5 yX5_here wsX5_here) := goodIn_app (goodIn_of _ (by decide +kernel)) ggX5_readsValues_X5_here
set_option maxRecDepth 20000 in
theorem ggX5_readsValues_X5_readsValue : GoodIn wsX5_readsValues wsX5_readsValue := goodIn_r _ [36, 1, 2, 8, 9, 10, 6, 11, 12, 13, 37, 38, 39, 40, 41, 42, 14, 15, 16, 17, 18, 19, 20, 21, 22, 43, 44, 45, 54, 55, 56, 57, 58, 59, 60, 61, 62, 63, 64, 65, 66, 67, 68] (by decide +kernel) (by decide +kernel)
set_option maxRecDepth 20000 in
theorem gX5_readsValues_X5_readsValue : GoodIn wsX5_readsValues (wsV RX5 167 RX5 yX5_readsValue wsX5_readsValue) := goodIn_app (goodIn_of _ (by decide +kernel)) ggX5_readsValues_X5_readsValue
set_option maxRecDepth 20000 in
theorem ggX5_readsValues_X5_put0 : GoodIn wsX5_readsValues wsX5_put0 := goodIn_r _ [49, 31, 32, 54, 55, 56, 57, 58, 59, 60, 61, 62, 63, 64, 65, 66, 67, 68] (by decide +kernel) (by decide +kernel)
set_option maxRecDepth 20000 in
theorem gX5_readsValues_X5_put0 : GoodIn wsX5_readsValues (wsV RX5 30 RX5 yX5_put0 wsX5_put0) := goodIn_app (goodIn_of _ (by decide +kernel)) ggX5_readsValues_X5_put0
set_option maxRecDepth 20000 in
theorem ggX5_readsValues_X5_adds : GoodIn wsX5_readsValues wsX5_adds := goodIn_r _ [53, 27, 28, 29, 6, 30, 31, 32, 46, 47, 48, 49, 54, 55, 56, 57, 58, 59, 60, 61, 62, 63, 64, 65, 66, 67, 68] (by decide +kernel) (by decide +kernel)
set_option maxRecDepth 20000 in
theorem gX5_readsValues_X5_adds : GoodIn wsX5_readsValues (wsV RX5 72 RX5 yX5_adds wsX5_adds) := goodIn_app (goodIn_of _ (by decide +kernel)) ggX5_readsValues_X5_adds
theorem dX5_readsValues_0 : decode cX5_readsValues 0 = .ok (.aload_n 0, 1) := by decide +kernel
theorem dX5_readsValues_1 : decode cX5_readsValues 1 = .ok (.invokevirtual 163, 3) := by decide +kernel
theorem dX5_readsValues_4 : decode cX5_readsValues 4 = .ok (.ifCond .ne 14, 3) := by decide +kernel
theorem dX5_readsValues_7 : decode cX5_readsValues 7 = .ok (.aload_n 0, 1) := by decide +kernel
theorem dX5_readsValues_8 : decode cX5_readsValues 8 = .ok (.bipush (-2), 2) := by decide +kernel
theorem dX5_readsValues_10 : decode cX5_readsValues 10 = .ok (.aload_n 0, 1) := by decide +kernel
theorem dX5_readsValues_11 : decode cX5_readsValues 11 = .ok (.getfield 123, 3) := by decide +kernel
theorem dX5_readsValues_14 : decode cX5_readsValues 14 = .ok (.invokevirtual 143, 3) := by decide +kernel
theorem dX5_readsValues_17 : decode cX5_readsValues 17 = .ok (.ireturn, 1) := by decide +kernel
theorem dX5_readsValues_18 : decode cX5_readsValues 18 = .ok (.aload_n 0, 1) := by decide +kernel
theorem dX5_readsValues_19 : decode cX5_readsValues 19 = .ok (.invokevirtual 163, 3) := by decide +kernel
theorem dX5_readsValues_22 : decode cX5_readsValues 22 = .ok (.ifCond .eq 82, 3) := by decide +kernel
theorem dX5_readsValues_25 : decode cX5_readsValues 25 = .ok (.aload_n 0, 1) := by decide +kernel
theorem dX5_readsValues_26 : decode cX5_readsValues 26 = .ok (.getfield 123, 3) := by decide +kernel
theorem dX5_readsValues_29 : decode cX5_readsValues 29 = .ok (.istore_n 1, 1) := by decide +kernel
theorem dX5_readsValues_30 : decode cX5_readsValues 30 = .ok (.aload_n 0, 1) := by decide +kernel
theorem dX5_readsValues_31 : decode cX5_readsValues 31 = .ok (.invokevirtual 50, 3) := by decide +kernel
theorem dX5_readsValues_34 : decode cX5_readsValues 34 = .ok (.bipush 40, 2) := by decide +kernel
theorem dX5_readsValues_36 : decode cX5_readsValues 36 = .ok (.if_icmp .ne 12, 3) := by decide +kernel
theorem dX5_readsValues_39 : decode cX5_readsValues 39 = .ok (.aload_n 0, 1) := by decide +kernel
theorem dX5_readsValues_40 : decode cX5_readsValues 40 = .ok (.invokevirtual 129, 3) := by decide +kernel
theorem dX5_readsValues_43 : decode cX5_readsValues 43 = .ok (.bipush 45, 2) := by decide +kernel
theorem dX5_readsValues_45 : decode cX5_readsValues 45 = .ok (.if_icmp .eq 10, 3) := by decide +kernel
theorem dX5_readsValues_48 : decode cX5_readsValues 48 = .ok (.aload_n 0, 1) := by decide +kernel
theorem dX5_readsValues_49 : decode cX5_readsValues 49 = .ok (.invokevirtual 167, 3) := by decide +kernel
theorem dX5_readsValues_52 : decode cX5_readsValues 52 = .ok (.ifCond .ne 11, 3) := by decide +kernel
theorem dX5_readsValues_55 : decode cX5_readsValues 55 = .ok (.aload_n 0, 1) := by decide +kernel
theorem dX5_readsValues_56 : decode cX5_readsValues 56 = .ok (.bipush (-4), 2) := by decide +kernel
theorem dX5_readsValues_58 : decode cX5_readsValues 58 = .ok (.iload_n 1, 1) := by decide +kernel
theorem dX5_readsValues_59 : decode cX5_readsValues 59 = .ok (.invokevirtual 143, 3) := by decide +kernel
theorem dX5_readsValues_62 : decode cX5_readsValues 62 = .ok (.ireturn, 1) := by decide +kernel
theorem dX5_readsValues_63 : decode cX5_readsValues 63 = .ok (.aload_n 0, 1) := by decide +kernel
theorem dX5_readsValues_64 : decode cX5_readsValues 64 = .ok (.invokevirtual 50, 3) := by decide +kernel
theorem dX5_readsValues_67 : decode cX5_readsValues 67 = .ok (.bipush 40, 2) := by decide +kernel
theorem dX5_readsValues_69 : decode cX5_readsValues 69 = .ok (.if_icmp .ne 11, 3) := by decide +kernel
theorem dX5_readsValues_72 : decode cX5_readsValues 72 = .ok (.aload_n 0, 1) := by decide +kernel
theorem dX5_readsValues_73 : decode cX5_readsValues 73 = .ok (.bipush (-4), 2) := by decide +kernel
theorem dX5_readsValues_75 : decode cX5_readsValues 75 = .ok (.iload_n 1, 1) := by decide +kernel
theorem dX5_readsValues_76 : decode cX5_readsValues 76 = .ok (.invokevirtual 143, 3) := by decide +kernel
theorem dX5_readsValues_79 : decode cX5_readsValues 79 = .ok (.ireturn, 1) := by decide +kernel
theorem dX5_readsValues_80 : decode cX5_readsValues 80 = .ok (.aload_n 0, 1) := by decide +kernel
theorem dX5_readsValues_81 : decode cX5_readsValues 81 = .ok (.bipush 12, 2) := by decide +kernel
theorem dX5_readsValues_83 : decode cX5_readsValues 83 = .ok (.aload_n 0, 1) := by decide +kernel
theorem dX5_readsValues_84 : decode cX5_readsValues 84 = .ok (.invokevirtual 50, 3) := by decide +kernel
theorem dX5_readsValues_87 : decode cX5_readsValues 87 = .ok (.iadd, 1) := by decide +kernel
theorem dX5_readsValues_88 : decode cX5_readsValues 88 = .ok (.aload_n 0, 1) := by decide +kernel
theorem dX5_readsValues_89 : decode cX5_readsValues 89 = .ok (.getfield 153, 3) := by decide +kernel
theorem dX5_readsValues_92 : decode cX5_readsValues 92 = .ok (.invokevirtual 30, 3) := by decide +kernel
theorem dX5_readsValues_95 : decode cX5_readsValues 95 = .ok (.aload_n 0, 1) := by decide +kernel
theorem dX5_readsValues_96 : decode cX5_readsValues 96 = .ok (.iconst 0, 1) := by decide +kernel
theorem dX5_readsValues_97 : decode cX5_readsValues 97 = .ok (.iconst 1, 1) := by decide +kernel
theorem dX5_readsValues_98 : decode cX5_readsValues 98 = .ok (.invokevirtual 72, 3) := by decide +kernel
theorem dX5_readsValues_101 : decode cX5_readsValues 101 = .ok (.goto (-83), 3) := by decide +kernel
theorem dX5_readsValues_104 : decode cX5_readsValues 104 = .ok (.iconst 1, 1) := by decide +kernel
theorem dX5_readsValues_105 : decode cX5_readsValues 105 = .ok (.ireturn, 1) := by decide +kernel
set_option maxRecDepth 20000 in
theorem ggX5_readsPlace_X5_size : GoodIn wsX5_readsPlace wsX5_size := goodIn_r _ [5, 6, 7, 8, 4, 9, 10, 11, 38, 39, 40, 41, 42, 43, 44, 45, 46, 47, 48, 49, 50, 51, 52] (by decide +kernel) (by decide +kernel)
set_option maxRecDepth 20000 in
theorem gX5_readsPlace_X5_size : GoodIn wsX5_readsPlace (wsV RX5 50 RX5 yX5_size wsX5_size) := goodIn_app (goodIn_of _ (by decide +kernel)) ggX5_readsPlace_X5_size
set_option maxRecDepth 20000 in
theorem ggX5_readsPlace_X5_reads : GoodIn wsX5_readsPlace wsX5_reads := goodIn_r _ [15, 16, 17, 18, 19, 20, 21, 22, 23, 24, 4, 25, 26, 27, 28, 29, 30, 31, 32, 33, 34, 35, 36, 37, 38, 39, 40, 41, 42, 43, 44, 45, 46, 47, 48, 49, 50, 51, 52] (by decide +kernel) (by decide +kernel)
set_option maxRecDepth 20000 in
theorem gX5_readsPlace_X5_reads : GoodIn wsX5_readsPlace (wsV RX5 160 RX5 yX5_reads wsX5_reads) := goodIn_app (goodIn_of _ (by decide +kernel)) ggX5_readsPlace_X5_reads
theorem dX5_readsPlace_0 : decode cX5_readsPlace 0 = .ok (.aload_n 0, 1) := by decide +kernel
theorem dX5_readsPlace_1 : decode cX5_readsPlace 1 = .ok (.iload_n 1, 1) := by decide +kernel
theorem dX5_readsPlace_2 : decode cX5_readsPlace 2 = .ok (.aload_n 0, 1) := by decide +kernel
theorem dX5_readsPlace_3 : decode cX5_readsPlace 3 = .ok (.invokevirtual 50, 3) := by decide +kernel
theorem dX5_readsPlace_6 : decode cX5_readsPlace 6 = .ok (.iconst 1, 1) := by decide +kernel
theorem dX5_readsPlace_7 : decode cX5_readsPlace 7 = .ok (.isub, 1) := by decide +kernel
theorem dX5_readsPlace_8 : decode cX5_readsPlace 8 = .ok (.invokevirtual 160, 3) := by decide +kernel
theorem dX5_readsPlace_11 : decode cX5_readsPlace 11 = .ok (.ireturn, 1) := by decide +kernel
set_option maxRecDepth 20000 in
theorem ggX5_readsSet_X5_readsPlace : GoodIn wsX5_readsSet wsX5_readsPlace := goodIn_r _ [6, 7, 8, 9, 5, 10, 11, 12, 13, 14, 15, 16, 17, 18, 19, 20, 21, 22, 1, 23, 24, 25, 26, 27, 28, 29, 30, 31, 32, 33, 34, 35, 36, 37, 38, 39, 40, 41, 93, 94, 95, 96, 97, 98, 99, 100, 101, 102, 103, 104, 105, 106, 107] (by decide +kernel) (by decide +kernel)
set_option maxRecDepth 20000 in
theorem gX5_readsSet_X5_readsPlace : GoodIn wsX5_readsSet (wsV RX5 170 RX5 yX5_readsPlace wsX5_readsPlace) := goodIn_app (goodIn_of _ (by decide +kernel)) ggX5_readsSet_X5_readsPlace
set_option maxRecDepth 20000 in
theorem ggX5_readsSet_X5_readsValue : GoodIn wsX5_readsSet wsX5_readsValue := goodIn_r _ [45, 21, 1, 26, 27, 28, 5, 29, 23, 24, 17, 18, 19, 20, 22, 25, 30, 31, 32, 33, 34, 35, 36, 37, 38, 39, 40, 41, 93, 94, 95, 96, 97, 98, 99, 100, 101, 102, 103, 104, 105, 106, 107] (by decide +kernel) (by decide +kernel)
set_option maxRecDepth 20000 in
theorem gX5_readsSet_X5_readsValue : GoodIn wsX5_readsSet (wsV RX5 167 RX5 yX5_readsValue wsX5_readsValue) := goodIn_app (goodIn_of _ (by decide +kernel)) ggX5_readsSet_X5_readsValue
set_option maxRecDepth 20000 in
theorem ggX5_readsSet_X5_sets : GoodIn wsX5_readsSet wsX5_sets := goodIn_r _ [49, 50, 51, 52, 5, 53, 11, 12, 13, 14, 15, 16, 54, 55, 56, 57, 58, 59, 60, 61, 62, 63, 64, 65, 7, 8, 9, 10, 66, 67, 68, 69, 70, 71, 72, 73, 74, 75, 76, 77, 78, 79, 80, 81, 82, 83, 84, 85, 86, 87, 88, 89, 90, 91, 92, 93, 94, 95, 96, 97, 98, 99, 100, 101, 102, 103, 104, 105, 106, 107] (by decide +kernel) (by decide +kernel)
set_option maxRecDepth 20000 in
theorem gX5_readsSet_X5_sets : GoodIn wsX5_readsSet (wsV RX5 173 RX5 yX5_sets wsX5_sets) := goodIn_app (goodIn_of _ (by decide +kernel)) ggX5_readsSet_X5_sets
theorem dX5_readsSet_0 : decode cX5_readsSet 0 = .ok (.aload_n 0, 1) := by decide +kernel
theorem dX5_readsSet_1 : decode cX5_readsSet 1 = .ok (.iconst 0, 1) := by decide +kernel
theorem dX5_readsSet_2 : decode cX5_readsSet 2 = .ok (.invokevirtual 170, 3) := by decide +kernel
theorem dX5_readsSet_5 : decode cX5_readsSet 5 = .ok (.ifCond .ne 5, 3) := by decide +kernel
theorem dX5_readsSet_8 : decode cX5_readsSet 8 = .ok (.iconst 0, 1) := by decide +kernel
theorem dX5_readsSet_9 : decode cX5_readsSet 9 = .ok (.ireturn, 1) := by decide +kernel
theorem dX5_readsSet_10 : decode cX5_readsSet 10 = .ok (.aload_n 0, 1) := by decide +kernel
theorem dX5_readsSet_11 : decode cX5_readsSet 11 = .ok (.getfield 153, 3) := by decide +kernel
theorem dX5_readsSet_14 : decode cX5_readsSet 14 = .ok (.istore_n 1, 1) := by decide +kernel
theorem dX5_readsSet_15 : decode cX5_readsSet 15 = .ok (.aload_n 0, 1) := by decide +kernel
theorem dX5_readsSet_16 : decode cX5_readsSet 16 = .ok (.invokevirtual 167, 3) := by decide +kernel
theorem dX5_readsSet_19 : decode cX5_readsSet 19 = .ok (.ifCond .eq 22, 3) := by decide +kernel
theorem dX5_readsSet_22 : decode cX5_readsSet 22 = .ok (.aload_n 0, 1) := by decide +kernel
theorem dX5_readsSet_23 : decode cX5_readsSet 23 = .ok (.iload_n 1, 1) := by decide +kernel
theorem dX5_readsSet_24 : decode cX5_readsSet 24 = .ok (.aload_n 0, 1) := by decide +kernel
theorem dX5_readsSet_25 : decode cX5_readsSet 25 = .ok (.getfield 153, 3) := by decide +kernel
theorem dX5_readsSet_28 : decode cX5_readsSet 28 = .ok (.invokevirtual 173, 3) := by decide +kernel
theorem dX5_readsSet_31 : decode cX5_readsSet 31 = .ok (.sipush 999, 3) := by decide +kernel
theorem dX5_readsSet_34 : decode cX5_readsSet 34 = .ok (.if_icmp .gt 7, 3) := by decide +kernel
theorem dX5_readsSet_37 : decode cX5_readsSet 37 = .ok (.iconst 1, 1) := by decide +kernel
theorem dX5_readsSet_38 : decode cX5_readsSet 38 = .ok (.goto 4, 3) := by decide +kernel
theorem dX5_readsSet_41 : decode cX5_readsSet 41 = .ok (.iconst 0, 1) := by decide +kernel
theorem dX5_readsSet_42 : decode cX5_readsSet 42 = .ok (.ireturn, 1) := by decide +kernel
set_option maxRecDepth 20000 in
theorem ggX5_readsAsk_X5_readsPlace : GoodIn wsX5_readsAsk wsX5_readsPlace := goodIn_r _ [6, 7, 8, 9, 5, 10, 11, 12, 13, 14, 15, 16, 17, 18, 19, 20, 21, 22, 1, 23, 24, 25, 26, 27, 28, 29, 30, 31, 32, 33, 34, 35, 36, 37, 38, 39, 40, 41, 109, 110, 111, 112, 113, 114, 115, 116, 117, 118, 119, 120, 121, 122, 123] (by decide +kernel) (by decide +kernel)
set_option maxRecDepth 20000 in
theorem gX5_readsAsk_X5_readsPlace : GoodIn wsX5_readsAsk (wsV RX5 170 RX5 yX5_readsPlace wsX5_readsPlace) := goodIn_app (goodIn_of _ (by decide +kernel)) ggX5_readsAsk_X5_readsPlace
set_option maxRecDepth 20000 in
theorem ggX5_readsAsk_X5_asks : GoodIn wsX5_readsAsk wsX5_asks := goodIn_r _ [45, 11, 12, 13, 5, 14, 15, 16, 46, 47, 48, 49, 7, 8, 9, 10, 50, 51, 52, 53, 54, 55, 56, 57, 58, 59, 60, 61, 62, 63, 64, 65, 66, 67, 68, 69, 70, 71, 72, 73, 74, 75, 76, 77, 78, 79, 80, 81, 82, 83, 84, 85, 86, 87, 88, 89, 90, 91, 92, 93, 94, 95, 96, 97, 98, 99, 100, 101, 102, 103, 104, 105, 106, 107, 108, 109, 110, 111, 112, 113, 114, 115, 116, 117, 118, 119, 120, 121, 122, 123] (by decide +kernel) (by decide +kernel)
set_option maxRecDepth 20000 in
theorem gX5_readsAsk_X5_asks : GoodIn wsX5_readsAsk (wsV RX5 176 RX5 yX5_asks wsX5_asks) := goodIn_app (goodIn_of _ (by decide +kernel)) ggX5_readsAsk_X5_asks
theorem dX5_readsAsk_0 : decode cX5_readsAsk 0 = .ok (.aload_n 0, 1) := by decide +kernel
theorem dX5_readsAsk_1 : decode cX5_readsAsk 1 = .ok (.iconst 0, 1) := by decide +kernel
theorem dX5_readsAsk_2 : decode cX5_readsAsk 2 = .ok (.invokevirtual 170, 3) := by decide +kernel
theorem dX5_readsAsk_5 : decode cX5_readsAsk 5 = .ok (.ifCond .ne 5, 3) := by decide +kernel
theorem dX5_readsAsk_8 : decode cX5_readsAsk 8 = .ok (.iconst 0, 1) := by decide +kernel
theorem dX5_readsAsk_9 : decode cX5_readsAsk 9 = .ok (.ireturn, 1) := by decide +kernel
theorem dX5_readsAsk_10 : decode cX5_readsAsk 10 = .ok (.aload_n 0, 1) := by decide +kernel
theorem dX5_readsAsk_11 : decode cX5_readsAsk 11 = .ok (.getfield 153, 3) := by decide +kernel
theorem dX5_readsAsk_14 : decode cX5_readsAsk 14 = .ok (.istore_n 1, 1) := by decide +kernel
theorem dX5_readsAsk_15 : decode cX5_readsAsk 15 = .ok (.aload_n 0, 1) := by decide +kernel
theorem dX5_readsAsk_16 : decode cX5_readsAsk 16 = .ok (.iload_n 1, 1) := by decide +kernel
theorem dX5_readsAsk_17 : decode cX5_readsAsk 17 = .ok (.invokevirtual 170, 3) := by decide +kernel
theorem dX5_readsAsk_20 : decode cX5_readsAsk 20 = .ok (.ifCond .eq 19, 3) := by decide +kernel
theorem dX5_readsAsk_23 : decode cX5_readsAsk 23 = .ok (.aload_n 0, 1) := by decide +kernel
theorem dX5_readsAsk_24 : decode cX5_readsAsk 24 = .ok (.iload_n 1, 1) := by decide +kernel
theorem dX5_readsAsk_25 : decode cX5_readsAsk 25 = .ok (.aload_n 0, 1) := by decide +kernel
theorem dX5_readsAsk_26 : decode cX5_readsAsk 26 = .ok (.getfield 153, 3) := by decide +kernel
theorem dX5_readsAsk_29 : decode cX5_readsAsk 29 = .ok (.invokevirtual 176, 3) := by decide +kernel
theorem dX5_readsAsk_32 : decode cX5_readsAsk 32 = .ok (.ifCond .lt 7, 3) := by decide +kernel
theorem dX5_readsAsk_35 : decode cX5_readsAsk 35 = .ok (.iconst 1, 1) := by decide +kernel
theorem dX5_readsAsk_36 : decode cX5_readsAsk 36 = .ok (.goto 4, 3) := by decide +kernel
theorem dX5_readsAsk_39 : decode cX5_readsAsk 39 = .ok (.iconst 0, 1) := by decide +kernel
theorem dX5_readsAsk_40 : decode cX5_readsAsk 40 = .ok (.ireturn, 1) := by decide +kernel
set_option maxRecDepth 20000 in
theorem ggX5_readsKeep_X5_readsPlace : GoodIn wsX5_readsKeep wsX5_readsPlace := goodIn_r _ [7, 8, 9, 10, 6, 11, 12, 13, 14, 15, 16, 17, 18, 19, 20, 21, 22, 1, 2, 23, 24, 25, 26, 27, 28, 29, 30, 31, 32, 33, 34, 35, 36, 37, 38, 39, 40, 41, 54, 55, 56, 57, 58, 59, 60, 61, 62, 63, 64, 65, 66, 67, 68] (by decide +kernel) (by decide +kernel)
set_option maxRecDepth 20000 in
theorem gX5_readsKeep_X5_readsPlace : GoodIn wsX5_readsKeep (wsV RX5 170 RX5 yX5_readsPlace wsX5_readsPlace) := goodIn_app (goodIn_of _ (by decide +kernel)) ggX5_readsKeep_X5_readsPlace
set_option maxRecDepth 20000 in
theorem ggX5_readsKeep_X5_get : GoodIn wsX5_readsKeep wsX5_get := goodIn_r _ [15, 16, 17, 54, 55, 56, 57, 58, 59, 60, 61, 62, 63, 64, 65, 66, 67, 68] (by decide +kernel) (by decide +kernel)
set_option maxRecDepth 20000 in
theorem gX5_readsKeep_X5_get : GoodIn wsX5_readsKeep (wsV RX5 43 RX5 yX5_get wsX5_get) := goodIn_app (goodIn_of _ (by decide +kernel)) ggX5_readsKeep_X5_get
set_option maxRecDepth 20000 in
theorem ggX5_readsKeep_X5_fails : GoodIn wsX5_readsKeep wsX5_fails := goodIn_r _ [36, 37, 38, 54, 55, 56, 57, 58, 59, 60, 61, 62, 63, 64, 65, 66, 67, 68] (by decide +kernel) (by decide +kernel)
set_option maxRecDepth 20000 in
theorem gX5_readsKeep_X5_fails : GoodIn wsX5_readsKeep (wsV RX5 143 RX5 yX5_fails wsX5_fails) := goodIn_app (goodIn_of _ (by decide +kernel)) ggX5_readsKeep_X5_fails
set_option maxRecDepth 20000 in
theorem ggX5_readsKeep_X5_keeps : GoodIn wsX5_readsKeep wsX5_keeps := goodIn_r _ [45, 12, 13, 14, 6, 15, 16, 17, 46, 47, 48, 49, 50, 51, 52, 53, 54, 55, 56, 57, 58, 59, 60, 61, 62, 63, 64, 65, 66, 67, 68] (by decide +kernel) (by decide +kernel)
set_option maxRecDepth 20000 in
theorem gX5_readsKeep_X5_keeps : GoodIn wsX5_readsKeep (wsV RX5 179 RX5 yX5_keeps wsX5_keeps) := goodIn_app (goodIn_of _ (by decide +kernel)) ggX5_readsKeep_X5_keeps
theorem dX5_readsKeep_0 : decode cX5_readsKeep 0 = .ok (.aload_n 0, 1) := by decide +kernel
theorem dX5_readsKeep_1 : decode cX5_readsKeep 1 = .ok (.iconst 0, 1) := by decide +kernel
theorem dX5_readsKeep_2 : decode cX5_readsKeep 2 = .ok (.invokevirtual 170, 3) := by decide +kernel
theorem dX5_readsKeep_5 : decode cX5_readsKeep 5 = .ok (.ifCond .ne 5, 3) := by decide +kernel
theorem dX5_readsKeep_8 : decode cX5_readsKeep 8 = .ok (.iconst 0, 1) := by decide +kernel
theorem dX5_readsKeep_9 : decode cX5_readsKeep 9 = .ok (.ireturn, 1) := by decide +kernel
theorem dX5_readsKeep_10 : decode cX5_readsKeep 10 = .ok (.aload_n 0, 1) := by decide +kernel
theorem dX5_readsKeep_11 : decode cX5_readsKeep 11 = .ok (.bipush 6, 2) := by decide +kernel
theorem dX5_readsKeep_13 : decode cX5_readsKeep 13 = .ok (.invokevirtual 43, 3) := by decide +kernel
theorem dX5_readsKeep_16 : decode cX5_readsKeep 16 = .ok (.bipush 8, 2) := by decide +kernel
theorem dX5_readsKeep_18 : decode cX5_readsKeep 18 = .ok (.if_icmp .ne 14, 3) := by decide +kernel
theorem dX5_readsKeep_21 : decode cX5_readsKeep 21 = .ok (.aload_n 0, 1) := by decide +kernel
theorem dX5_readsKeep_22 : decode cX5_readsKeep 22 = .ok (.bipush (-4), 2) := by decide +kernel
theorem dX5_readsKeep_24 : decode cX5_readsKeep 24 = .ok (.aload_n 0, 1) := by decide +kernel
theorem dX5_readsKeep_25 : decode cX5_readsKeep 25 = .ok (.getfield 150, 3) := by decide +kernel
theorem dX5_readsKeep_28 : decode cX5_readsKeep 28 = .ok (.invokevirtual 143, 3) := by decide +kernel
theorem dX5_readsKeep_31 : decode cX5_readsKeep 31 = .ok (.ireturn, 1) := by decide +kernel
theorem dX5_readsKeep_32 : decode cX5_readsKeep 32 = .ok (.aload_n 0, 1) := by decide +kernel
theorem dX5_readsKeep_33 : decode cX5_readsKeep 33 = .ok (.getfield 153, 3) := by decide +kernel
theorem dX5_readsKeep_36 : decode cX5_readsKeep 36 = .ok (.istore_n 1, 1) := by decide +kernel
theorem dX5_readsKeep_37 : decode cX5_readsKeep 37 = .ok (.aload_n 0, 1) := by decide +kernel
theorem dX5_readsKeep_38 : decode cX5_readsKeep 38 = .ok (.iload_n 1, 1) := by decide +kernel
theorem dX5_readsKeep_39 : decode cX5_readsKeep 39 = .ok (.invokevirtual 170, 3) := by decide +kernel
theorem dX5_readsKeep_42 : decode cX5_readsKeep 42 = .ok (.ifCond .eq 19, 3) := by decide +kernel
theorem dX5_readsKeep_45 : decode cX5_readsKeep 45 = .ok (.aload_n 0, 1) := by decide +kernel
theorem dX5_readsKeep_46 : decode cX5_readsKeep 46 = .ok (.iload_n 1, 1) := by decide +kernel
theorem dX5_readsKeep_47 : decode cX5_readsKeep 47 = .ok (.aload_n 0, 1) := by decide +kernel
theorem dX5_readsKeep_48 : decode cX5_readsKeep 48 = .ok (.getfield 153, 3) := by decide +kernel
theorem dX5_readsKeep_51 : decode cX5_readsKeep 51 = .ok (.invokevirtual 179, 3) := by decide +kernel
theorem dX5_readsKeep_54 : decode cX5_readsKeep 54 = .ok (.ifCond .le 7, 3) := by decide +kernel
theorem dX5_readsKeep_57 : decode cX5_readsKeep 57 = .ok (.iconst 1, 1) := by decide +kernel
theorem dX5_readsKeep_58 : decode cX5_readsKeep 58 = .ok (.goto 4, 3) := by decide +kernel
theorem dX5_readsKeep_61 : decode cX5_readsKeep 61 = .ok (.iconst 0, 1) := by decide +kernel
theorem dX5_readsKeep_62 : decode cX5_readsKeep 62 = .ok (.ireturn, 1) := by decide +kernel
set_option maxRecDepth 20000 in
theorem ggX5_readsPut_X5_size : GoodIn wsX5_readsPut wsX5_size := goodIn_r _ [7, 8, 9, 10, 6, 11, 12, 13, 89, 90, 91, 92, 93, 94, 95, 96, 97, 98, 99, 100, 101, 102, 103] (by decide +kernel) (by decide +kernel)
set_option maxRecDepth 20000 in
theorem gX5_readsPut_X5_size : GoodIn wsX5_readsPut (wsV RX5 50 RX5 yX5_size wsX5_size) := goodIn_app (goodIn_of _ (by decide +kernel)) ggX5_readsPut_X5_size
set_option maxRecDepth 20000 in
theorem ggX5_readsPut_X5_reads : GoodIn wsX5_readsPut wsX5_reads := goodIn_r _ [17, 18, 1, 2, 19, 20, 21, 22, 23, 24, 6, 25, 26, 27, 28, 29, 30, 31, 32, 33, 34, 35, 36, 37, 89, 90, 91, 92, 93, 94, 95, 96, 97, 98, 99, 100, 101, 102, 103] (by decide +kernel) (by decide +kernel)
set_option maxRecDepth 20000 in
theorem gX5_readsPut_X5_reads : GoodIn wsX5_readsPut (wsV RX5 160 RX5 yX5_reads wsX5_reads) := goodIn_app (goodIn_of _ (by decide +kernel)) ggX5_readsPut_X5_reads
set_option maxRecDepth 20000 in
theorem ggX5_readsPut_X5_fails : GoodIn wsX5_readsPut wsX5_fails := goodIn_r _ [32, 33, 34, 89, 90, 91, 92, 93, 94, 95, 96, 97, 98, 99, 100, 101, 102, 103] (by decide +kernel) (by decide +kernel)
set_option maxRecDepth 20000 in
theorem gX5_readsPut_X5_fails : GoodIn wsX5_readsPut (wsV RX5 143 RX5 yX5_fails wsX5_fails) := goodIn_app (goodIn_of _ (by decide +kernel)) ggX5_readsPut_X5_fails
set_option maxRecDepth 20000 in
theorem ggX5_readsPut_X5_readsValue : GoodIn wsX5_readsPut wsX5_readsValue := goodIn_r _ [41, 18, 2, 22, 23, 24, 6, 25, 19, 20, 14, 15, 16, 17, 1, 21, 26, 27, 28, 29, 30, 31, 32, 33, 34, 35, 36, 37, 89, 90, 91, 92, 93, 94, 95, 96, 97, 98, 99, 100, 101, 102, 103] (by decide +kernel) (by decide +kernel)
set_option maxRecDepth 20000 in
theorem gX5_readsPut_X5_readsValue : GoodIn wsX5_readsPut (wsV RX5 167 RX5 yX5_readsValue wsX5_readsValue) := goodIn_app (goodIn_of _ (by decide +kernel)) ggX5_readsPut_X5_readsValue
set_option maxRecDepth 20000 in
theorem ggX5_readsPut_X5_putsIn : GoodIn wsX5_readsPut wsX5_putsIn := goodIn_r _ [45, 3, 4, 5, 6, 7, 8, 9, 10, 11, 12, 13, 46, 47, 48, 49, 50, 51, 52, 53, 54, 55, 56, 57, 58, 59, 60, 61, 62, 63, 64, 65, 66, 67, 68, 69, 70, 71, 72, 73, 74, 75, 76, 77, 78, 79, 80, 81, 82, 83, 84, 85, 86, 87, 88, 89, 90, 91, 92, 93, 94, 95, 96, 97, 98, 99, 100, 101, 102, 103] (by decide +kernel) (by decide +kernel)
set_option maxRecDepth 20000 in
theorem gX5_readsPut_X5_putsIn : GoodIn wsX5_readsPut (wsV RX5 182 RX5 yX5_putsIn wsX5_putsIn) := goodIn_app (goodIn_of _ (by decide +kernel)) ggX5_readsPut_X5_putsIn
theorem dX5_readsPut_0 : decode cX5_readsPut 0 = .ok (.aload_n 0, 1) := by decide +kernel
theorem dX5_readsPut_1 : decode cX5_readsPut 1 = .ok (.iconst 0, 1) := by decide +kernel
theorem dX5_readsPut_2 : decode cX5_readsPut 2 = .ok (.aload_n 0, 1) := by decide +kernel
theorem dX5_readsPut_3 : decode cX5_readsPut 3 = .ok (.invokevirtual 50, 3) := by decide +kernel
theorem dX5_readsPut_6 : decode cX5_readsPut 6 = .ok (.invokevirtual 160, 3) := by decide +kernel
theorem dX5_readsPut_9 : decode cX5_readsPut 9 = .ok (.ifCond .ne 5, 3) := by decide +kernel
theorem dX5_readsPut_12 : decode cX5_readsPut 12 = .ok (.iconst 0, 1) := by decide +kernel
theorem dX5_readsPut_13 : decode cX5_readsPut 13 = .ok (.ireturn, 1) := by decide +kernel
theorem dX5_readsPut_14 : decode cX5_readsPut 14 = .ok (.aload_n 0, 1) := by decide +kernel
theorem dX5_readsPut_15 : decode cX5_readsPut 15 = .ok (.invokevirtual 50, 3) := by decide +kernel
theorem dX5_readsPut_18 : decode cX5_readsPut 18 = .ok (.bipush 40, 2) := by decide +kernel
theorem dX5_readsPut_20 : decode cX5_readsPut 20 = .ok (.if_icmp .ne 14, 3) := by decide +kernel
theorem dX5_readsPut_23 : decode cX5_readsPut 23 = .ok (.aload_n 0, 1) := by decide +kernel
theorem dX5_readsPut_24 : decode cX5_readsPut 24 = .ok (.bipush (-4), 2) := by decide +kernel
theorem dX5_readsPut_26 : decode cX5_readsPut 26 = .ok (.aload_n 0, 1) := by decide +kernel
theorem dX5_readsPut_27 : decode cX5_readsPut 27 = .ok (.getfield 150, 3) := by decide +kernel
theorem dX5_readsPut_30 : decode cX5_readsPut 30 = .ok (.invokevirtual 143, 3) := by decide +kernel
theorem dX5_readsPut_33 : decode cX5_readsPut 33 = .ok (.ireturn, 1) := by decide +kernel
theorem dX5_readsPut_34 : decode cX5_readsPut 34 = .ok (.aload_n 0, 1) := by decide +kernel
theorem dX5_readsPut_35 : decode cX5_readsPut 35 = .ok (.getfield 153, 3) := by decide +kernel
theorem dX5_readsPut_38 : decode cX5_readsPut 38 = .ok (.istore_n 1, 1) := by decide +kernel
theorem dX5_readsPut_39 : decode cX5_readsPut 39 = .ok (.aload_n 0, 1) := by decide +kernel
theorem dX5_readsPut_40 : decode cX5_readsPut 40 = .ok (.invokevirtual 167, 3) := by decide +kernel
theorem dX5_readsPut_43 : decode cX5_readsPut 43 = .ok (.ifCond .eq 19, 3) := by decide +kernel
theorem dX5_readsPut_46 : decode cX5_readsPut 46 = .ok (.aload_n 0, 1) := by decide +kernel
theorem dX5_readsPut_47 : decode cX5_readsPut 47 = .ok (.iload_n 1, 1) := by decide +kernel
theorem dX5_readsPut_48 : decode cX5_readsPut 48 = .ok (.aload_n 0, 1) := by decide +kernel
theorem dX5_readsPut_49 : decode cX5_readsPut 49 = .ok (.getfield 153, 3) := by decide +kernel
theorem dX5_readsPut_52 : decode cX5_readsPut 52 = .ok (.invokevirtual 182, 3) := by decide +kernel
theorem dX5_readsPut_55 : decode cX5_readsPut 55 = .ok (.ifCond .le 7, 3) := by decide +kernel
theorem dX5_readsPut_58 : decode cX5_readsPut 58 = .ok (.iconst 1, 1) := by decide +kernel
theorem dX5_readsPut_59 : decode cX5_readsPut 59 = .ok (.goto 4, 3) := by decide +kernel
theorem dX5_readsPut_62 : decode cX5_readsPut 62 = .ok (.iconst 0, 1) := by decide +kernel
theorem dX5_readsPut_63 : decode cX5_readsPut 63 = .ok (.ireturn, 1) := by decide +kernel
set_option maxRecDepth 20000 in
theorem ggX5_readsTake_X5_readsPlace : GoodIn wsX5_readsTake wsX5_readsPlace := goodIn_r _ [7, 8, 9, 10, 6, 11, 12, 13, 14, 15, 16, 17, 18, 19, 20, 21, 22, 1, 2, 23, 24, 25, 26, 27, 28, 29, 30, 31, 32, 33, 34, 35, 36, 37, 38, 39, 40, 41, 93, 94, 95, 96, 97, 98, 99, 100, 101, 102, 103, 104, 105, 106, 107] (by decide +kernel) (by decide +kernel)
set_option maxRecDepth 20000 in
theorem gX5_readsTake_X5_readsPlace : GoodIn wsX5_readsTake (wsV RX5 170 RX5 yX5_readsPlace wsX5_readsPlace) := goodIn_app (goodIn_of _ (by decide +kernel)) ggX5_readsTake_X5_readsPlace
set_option maxRecDepth 20000 in
theorem ggX5_readsTake_X5_size : GoodIn wsX5_readsTake wsX5_size := goodIn_r _ [11, 12, 13, 14, 6, 15, 16, 17, 93, 94, 95, 96, 97, 98, 99, 100, 101, 102, 103, 104, 105, 106, 107] (by decide +kernel) (by decide +kernel)
set_option maxRecDepth 20000 in
theorem gX5_readsTake_X5_size : GoodIn wsX5_readsTake (wsV RX5 50 RX5 yX5_size wsX5_size) := goodIn_app (goodIn_of _ (by decide +kernel)) ggX5_readsTake_X5_size
set_option maxRecDepth 20000 in
theorem ggX5_readsTake_X5_fails : GoodIn wsX5_readsTake wsX5_fails := goodIn_r _ [36, 37, 38, 93, 94, 95, 96, 97, 98, 99, 100, 101, 102, 103, 104, 105, 106, 107] (by decide +kernel) (by decide +kernel)
set_option maxRecDepth 20000 in
theorem gX5_readsTake_X5_fails : GoodIn wsX5_readsTake (wsV RX5 143 RX5 yX5_fails wsX5_fails) := goodIn_app (goodIn_of _ (by decide +kernel)) ggX5_readsTake_X5_fails
set_option maxRecDepth 20000 in
theorem ggX5_readsTake_X5_takesOut : GoodIn wsX5_readsTake wsX5_takesOut := goodIn_r _ [45, 46, 47, 48, 6, 49, 12, 13, 14, 15, 16, 17, 8, 9, 10, 11, 50, 51, 52, 53, 54, 55, 56, 57, 58, 59, 60, 61, 62, 63, 64, 65, 66, 67, 68, 69, 70, 71, 72, 73, 74, 75, 76, 77, 78, 79, 80, 81, 82, 83, 84, 85, 86, 87, 88, 89, 90, 91, 92, 93, 94, 95, 96, 97, 98, 99, 100, 101, 102, 103, 104, 105, 106, 107] (by decide +kernel) (by decide +kernel)
set_option maxRecDepth 20000 in
theorem gX5_readsTake_X5_takesOut : GoodIn wsX5_readsTake (wsV RX5 185 RX5 yX5_takesOut wsX5_takesOut) := goodIn_app (goodIn_of _ (by decide +kernel)) ggX5_readsTake_X5_takesOut
theorem dX5_readsTake_0 : decode cX5_readsTake 0 = .ok (.aload_n 0, 1) := by decide +kernel
theorem dX5_readsTake_1 : decode cX5_readsTake 1 = .ok (.iconst 0, 1) := by decide +kernel
theorem dX5_readsTake_2 : decode cX5_readsTake 2 = .ok (.invokevirtual 170, 3) := by decide +kernel
theorem dX5_readsTake_5 : decode cX5_readsTake 5 = .ok (.ifCond .ne 5, 3) := by decide +kernel
theorem dX5_readsTake_8 : decode cX5_readsTake 8 = .ok (.iconst 0, 1) := by decide +kernel
theorem dX5_readsTake_9 : decode cX5_readsTake 9 = .ok (.ireturn, 1) := by decide +kernel
theorem dX5_readsTake_10 : decode cX5_readsTake 10 = .ok (.aload_n 0, 1) := by decide +kernel
theorem dX5_readsTake_11 : decode cX5_readsTake 11 = .ok (.invokevirtual 50, 3) := by decide +kernel
theorem dX5_readsTake_14 : decode cX5_readsTake 14 = .ok (.iconst 1, 1) := by decide +kernel
theorem dX5_readsTake_15 : decode cX5_readsTake 15 = .ok (.if_icmp .ne 14, 3) := by decide +kernel
theorem dX5_readsTake_18 : decode cX5_readsTake 18 = .ok (.aload_n 0, 1) := by decide +kernel
theorem dX5_readsTake_19 : decode cX5_readsTake 19 = .ok (.bipush (-5), 2) := by decide +kernel
theorem dX5_readsTake_21 : decode cX5_readsTake 21 = .ok (.aload_n 0, 1) := by decide +kernel
theorem dX5_readsTake_22 : decode cX5_readsTake 22 = .ok (.getfield 150, 3) := by decide +kernel
theorem dX5_readsTake_25 : decode cX5_readsTake 25 = .ok (.invokevirtual 143, 3) := by decide +kernel
theorem dX5_readsTake_28 : decode cX5_readsTake 28 = .ok (.ireturn, 1) := by decide +kernel
theorem dX5_readsTake_29 : decode cX5_readsTake 29 = .ok (.aload_n 0, 1) := by decide +kernel
theorem dX5_readsTake_30 : decode cX5_readsTake 30 = .ok (.aload_n 0, 1) := by decide +kernel
theorem dX5_readsTake_31 : decode cX5_readsTake 31 = .ok (.getfield 153, 3) := by decide +kernel
theorem dX5_readsTake_34 : decode cX5_readsTake 34 = .ok (.invokevirtual 185, 3) := by decide +kernel
theorem dX5_readsTake_37 : decode cX5_readsTake 37 = .ok (.sipush 999, 3) := by decide +kernel
theorem dX5_readsTake_40 : decode cX5_readsTake 40 = .ok (.if_icmp .gt 7, 3) := by decide +kernel
theorem dX5_readsTake_43 : decode cX5_readsTake 43 = .ok (.iconst 1, 1) := by decide +kernel
theorem dX5_readsTake_44 : decode cX5_readsTake 44 = .ok (.goto 4, 3) := by decide +kernel
theorem dX5_readsTake_47 : decode cX5_readsTake 47 = .ok (.iconst 0, 1) := by decide +kernel
theorem dX5_readsTake_48 : decode cX5_readsTake 48 = .ok (.ireturn, 1) := by decide +kernel
set_option maxRecDepth 20000 in
theorem ggX5_readsStatement_X5_here : GoodIn wsX5_readsStatement wsX5_here := goodIn_r _ [6, 1, 7, 8, 221, 222, 223, 224, 225, 226, 227, 228, 229, 230, 231, 232, 233, 234, 235] (by decide +kernel) (by decide +kernel)
set_option maxRecDepth 20000 in
theorem gX5_readsStatement_X5_here : GoodIn wsX5_readsStatement (wsV RX5 129 RX5 yX5_here wsX5_here) := goodIn_app (goodIn_of _ (by decide +kernel)) ggX5_readsStatement_X5_here
set_option maxRecDepth 20000 in
theorem ggX5_readsStatement_X5_passes : GoodIn wsX5_readsStatement wsX5_passes := goodIn_r _ [12, 1, 7, 8, 2, 3, 4, 5, 6, 13, 14, 15, 16, 17, 18, 19, 20, 21, 22, 23, 24, 25, 26, 27, 28, 29, 30, 31, 32, 33, 34, 35, 36, 37, 38, 39, 40, 41, 42, 43, 44, 45, 46, 47, 48, 49, 50, 51, 52, 53, 54, 55, 56, 57, 58, 59, 60, 61, 62, 63, 64, 221, 222, 223, 224, 225, 226, 227, 228, 229, 230, 231, 232, 233, 234, 235] (by decide +kernel) (by decide +kernel)
set_option maxRecDepth 20000 in
theorem gX5_readsStatement_X5_passes : GoodIn wsX5_readsStatement (wsV RX5 190 RX5 yX5_passes wsX5_passes) := goodIn_app (goodIn_of _ (by decide +kernel)) ggX5_readsStatement_X5_passes
set_option maxRecDepth 20000 in
theorem ggX5_readsStatement_X5_readsSet : GoodIn wsX5_readsStatement wsX5_readsSet := goodIn_r _ [68, 69, 70, 71, 72, 5, 73, 74, 75, 76, 77, 78, 79, 80, 81, 82, 83, 84, 85, 86, 87, 1, 88, 7, 8, 89, 2, 3, 4, 6, 90, 91, 92, 93, 94, 95, 96, 97, 98, 99, 100, 101, 102, 103, 104, 105, 106, 107, 108, 109, 110, 111, 112, 113, 114, 115, 116, 117, 118, 119, 120, 121, 122, 123, 124, 125, 126, 127, 128, 129, 130, 131, 132, 133, 134, 135, 136, 137, 138, 139, 140, 141, 142, 143, 144, 145, 146, 147, 148, 149, 150, 151, 152, 221, 222, 223, 224, 225, 226, 227, 228, 229, 230, 231, 232, 233, 234, 235] (by decide +kernel) (by decide +kernel)
set_option maxRecDepth 20000 in
theorem gX5_readsStatement_X5_readsSet : GoodIn wsX5_readsStatement (wsV RX5 194 RX5 yX5_readsSet wsX5_readsSet) := goodIn_app (goodIn_of _ (by decide +kernel)) ggX5_readsStatement_X5_readsSet
set_option maxRecDepth 20000 in
theorem ggX5_readsStatement_X5_readsAsk : GoodIn wsX5_readsStatement wsX5_readsAsk := goodIn_r _ [156, 69, 70, 71, 72, 5, 73, 74, 75, 76, 77, 78, 79, 80, 81, 82, 83, 84, 85, 86, 87, 1, 88, 7, 8, 89, 2, 3, 4, 6, 90, 91, 92, 93, 94, 95, 96, 97, 98, 99, 100, 101, 157, 158, 159, 160, 145, 146, 147, 148, 149, 150, 151, 152, 118, 119, 120, 121, 122, 123, 124, 125, 130, 131, 132, 133, 134, 135, 136, 137, 138, 139, 140, 110, 111, 112, 113, 114, 115, 116, 117, 141, 142, 143, 144, 161, 162, 163, 164, 165, 166, 167, 168, 169, 170, 171, 172, 173, 174, 175, 176, 177, 178, 179, 180, 181, 182, 183, 184, 221, 222, 223, 224, 225, 226, 227, 228, 229, 230, 231, 232, 233, 234, 235] (by decide +kernel) (by decide +kernel)
set_option maxRecDepth 20000 in
theorem gX5_readsStatement_X5_readsAsk : GoodIn wsX5_readsStatement (wsV RX5 199 RX5 yX5_readsAsk wsX5_readsAsk) := goodIn_app (goodIn_of _ (by decide +kernel)) ggX5_readsStatement_X5_readsAsk
set_option maxRecDepth 20000 in
theorem ggX5_readsStatement_X5_readsKeep : GoodIn wsX5_readsStatement wsX5_readsKeep := goodIn_r _ [188, 88, 69, 70, 71, 72, 5, 73, 74, 75, 76, 77, 78, 79, 80, 81, 82, 83, 84, 85, 86, 87, 1, 7, 8, 89, 2, 3, 4, 6, 90, 91, 92, 93, 94, 95, 96, 97, 98, 99, 100, 101, 189, 190, 191, 192, 114, 115, 116, 117, 141, 142, 143, 144, 221, 222, 223, 224, 225, 226, 227, 228, 229, 230, 231, 232, 233, 234, 235] (by decide +kernel) (by decide +kernel)
set_option maxRecDepth 20000 in
theorem gX5_readsStatement_X5_readsKeep : GoodIn wsX5_readsStatement (wsV RX5 204 RX5 yX5_readsKeep wsX5_readsKeep) := goodIn_app (goodIn_of _ (by decide +kernel)) ggX5_readsStatement_X5_readsKeep
set_option maxRecDepth 20000 in
theorem ggX5_readsStatement_X5_readsPut : GoodIn wsX5_readsStatement wsX5_readsPut := goodIn_r _ [196, 88, 69, 74, 75, 76, 5, 77, 78, 79, 80, 81, 82, 83, 84, 85, 86, 87, 1, 7, 8, 89, 2, 3, 4, 6, 90, 91, 92, 93, 94, 95, 96, 97, 98, 99, 100, 101, 102, 103, 104, 105, 197, 198, 199, 200, 110, 111, 112, 113, 114, 115, 116, 117, 141, 142, 143, 144, 201, 202, 203, 204, 205, 206, 207, 208, 149, 150, 151, 152, 118, 119, 120, 121, 122, 123, 124, 125, 130, 131, 132, 133, 134, 135, 136, 137, 138, 139, 140, 221, 222, 223, 224, 225, 226, 227, 228, 229, 230, 231, 232, 233, 234, 235] (by decide +kernel) (by decide +kernel)
set_option maxRecDepth 20000 in
theorem gX5_readsStatement_X5_readsPut : GoodIn wsX5_readsStatement (wsV RX5 209 RX5 yX5_readsPut wsX5_readsPut) := goodIn_app (goodIn_of _ (by decide +kernel)) ggX5_readsStatement_X5_readsPut
set_option maxRecDepth 20000 in
theorem ggX5_readsStatement_X5_readsTake : GoodIn wsX5_readsStatement wsX5_readsTake := goodIn_r _ [212, 88, 69, 70, 71, 72, 5, 73, 74, 75, 76, 77, 78, 79, 80, 81, 82, 83, 84, 85, 86, 87, 1, 7, 8, 89, 2, 3, 4, 6, 90, 91, 92, 93, 94, 95, 96, 97, 98, 99, 100, 101, 213, 214, 215, 216, 110, 111, 112, 113, 114, 115, 116, 117, 141, 142, 143, 144, 201, 202, 203, 204, 205, 206, 207, 208, 217, 218, 219, 220, 149, 150, 151, 152, 118, 119, 120, 121, 122, 123, 124, 125, 130, 131, 132, 133, 134, 135, 136, 137, 138, 139, 140, 221, 222, 223, 224, 225, 226, 227, 228, 229, 230, 231, 232, 233, 234, 235] (by decide +kernel) (by decide +kernel)
set_option maxRecDepth 20000 in
theorem gX5_readsStatement_X5_readsTake : GoodIn wsX5_readsStatement (wsV RX5 214 RX5 yX5_readsTake wsX5_readsTake) := goodIn_app (goodIn_of _ (by decide +kernel)) ggX5_readsStatement_X5_readsTake
set_option maxRecDepth 20000 in
theorem ggX5_readsStatement_X5_fails : GoodIn wsX5_readsStatement wsX5_fails := goodIn_r _ [96, 97, 98, 221, 222, 223, 224, 225, 226, 227, 228, 229, 230, 231, 232, 233, 234, 235] (by decide +kernel) (by decide +kernel)
set_option maxRecDepth 20000 in
theorem gX5_readsStatement_X5_fails : GoodIn wsX5_readsStatement (wsV RX5 143 RX5 yX5_fails wsX5_fails) := goodIn_app (goodIn_of _ (by decide +kernel)) ggX5_readsStatement_X5_fails
theorem dX5_readsStatement_0 : decode cX5_readsStatement 0 = .ok (.aload_n 0, 1) := by decide +kernel
theorem dX5_readsStatement_1 : decode cX5_readsStatement 1 = .ok (.invokevirtual 129, 3) := by decide +kernel
theorem dX5_readsStatement_4 : decode cX5_readsStatement 4 = .ok (.pop, 1) := by decide +kernel
theorem dX5_readsStatement_5 : decode cX5_readsStatement 5 = .ok (.aload_n 0, 1) := by decide +kernel
theorem dX5_readsStatement_6 : decode cX5_readsStatement 6 = .ok (.getfield 123, 3) := by decide +kernel
theorem dX5_readsStatement_9 : decode cX5_readsStatement 9 = .ok (.istore_n 1, 1) := by decide +kernel
theorem dX5_readsStatement_10 : decode cX5_readsStatement 10 = .ok (.aload_n 0, 1) := by decide +kernel
theorem dX5_readsStatement_11 : decode cX5_readsStatement 11 = .ok (.ldc 188, 2) := by decide +kernel
theorem dX5_readsStatement_13 : decode cX5_readsStatement 13 = .ok (.invokevirtual 190, 3) := by decide +kernel
theorem dX5_readsStatement_16 : decode cX5_readsStatement 16 = .ok (.ifCond .eq 8, 3) := by decide +kernel
theorem dX5_readsStatement_19 : decode cX5_readsStatement 19 = .ok (.aload_n 0, 1) := by decide +kernel
theorem dX5_readsStatement_20 : decode cX5_readsStatement 20 = .ok (.invokevirtual 194, 3) := by decide +kernel
theorem dX5_readsStatement_23 : decode cX5_readsStatement 23 = .ok (.ireturn, 1) := by decide +kernel
theorem dX5_readsStatement_24 : decode cX5_readsStatement 24 = .ok (.aload_n 0, 1) := by decide +kernel
theorem dX5_readsStatement_25 : decode cX5_readsStatement 25 = .ok (.ldc 197, 2) := by decide +kernel
theorem dX5_readsStatement_27 : decode cX5_readsStatement 27 = .ok (.invokevirtual 190, 3) := by decide +kernel
theorem dX5_readsStatement_30 : decode cX5_readsStatement 30 = .ok (.ifCond .eq 8, 3) := by decide +kernel
theorem dX5_readsStatement_33 : decode cX5_readsStatement 33 = .ok (.aload_n 0, 1) := by decide +kernel
theorem dX5_readsStatement_34 : decode cX5_readsStatement 34 = .ok (.invokevirtual 199, 3) := by decide +kernel
theorem dX5_readsStatement_37 : decode cX5_readsStatement 37 = .ok (.ireturn, 1) := by decide +kernel
theorem dX5_readsStatement_38 : decode cX5_readsStatement 38 = .ok (.aload_n 0, 1) := by decide +kernel
theorem dX5_readsStatement_39 : decode cX5_readsStatement 39 = .ok (.ldc 202, 2) := by decide +kernel
theorem dX5_readsStatement_41 : decode cX5_readsStatement 41 = .ok (.invokevirtual 190, 3) := by decide +kernel
theorem dX5_readsStatement_44 : decode cX5_readsStatement 44 = .ok (.ifCond .eq 8, 3) := by decide +kernel
theorem dX5_readsStatement_47 : decode cX5_readsStatement 47 = .ok (.aload_n 0, 1) := by decide +kernel
theorem dX5_readsStatement_48 : decode cX5_readsStatement 48 = .ok (.invokevirtual 204, 3) := by decide +kernel
theorem dX5_readsStatement_51 : decode cX5_readsStatement 51 = .ok (.ireturn, 1) := by decide +kernel
theorem dX5_readsStatement_52 : decode cX5_readsStatement 52 = .ok (.aload_n 0, 1) := by decide +kernel
theorem dX5_readsStatement_53 : decode cX5_readsStatement 53 = .ok (.ldc 207, 2) := by decide +kernel
theorem dX5_readsStatement_55 : decode cX5_readsStatement 55 = .ok (.invokevirtual 190, 3) := by decide +kernel
theorem dX5_readsStatement_58 : decode cX5_readsStatement 58 = .ok (.ifCond .eq 8, 3) := by decide +kernel
theorem dX5_readsStatement_61 : decode cX5_readsStatement 61 = .ok (.aload_n 0, 1) := by decide +kernel
theorem dX5_readsStatement_62 : decode cX5_readsStatement 62 = .ok (.invokevirtual 209, 3) := by decide +kernel
theorem dX5_readsStatement_65 : decode cX5_readsStatement 65 = .ok (.ireturn, 1) := by decide +kernel
theorem dX5_readsStatement_66 : decode cX5_readsStatement 66 = .ok (.aload_n 0, 1) := by decide +kernel
theorem dX5_readsStatement_67 : decode cX5_readsStatement 67 = .ok (.ldc 212, 2) := by decide +kernel
theorem dX5_readsStatement_69 : decode cX5_readsStatement 69 = .ok (.invokevirtual 190, 3) := by decide +kernel
theorem dX5_readsStatement_72 : decode cX5_readsStatement 72 = .ok (.ifCond .eq 10, 3) := by decide +kernel
theorem dX5_readsStatement_75 : decode cX5_readsStatement 75 = .ok (.aload_n 0, 1) := by decide +kernel
theorem dX5_readsStatement_76 : decode cX5_readsStatement 76 = .ok (.invokevirtual 214, 3) := by decide +kernel
theorem dX5_readsStatement_79 : decode cX5_readsStatement 79 = .ok (.goto 10, 3) := by decide +kernel
theorem dX5_readsStatement_82 : decode cX5_readsStatement 82 = .ok (.aload_n 0, 1) := by decide +kernel
theorem dX5_readsStatement_83 : decode cX5_readsStatement 83 = .ok (.bipush (-2), 2) := by decide +kernel
theorem dX5_readsStatement_85 : decode cX5_readsStatement 85 = .ok (.iload_n 1, 1) := by decide +kernel
theorem dX5_readsStatement_86 : decode cX5_readsStatement 86 = .ok (.invokevirtual 143, 3) := by decide +kernel
theorem dX5_readsStatement_89 : decode cX5_readsStatement 89 = .ok (.ireturn, 1) := by decide +kernel
set_option maxRecDepth 20000 in
theorem ggX5_readsText_X5_passes : GoodIn wsX5_readsText wsX5_passes := goodIn_r _ [7, 1, 8, 9, 10, 11, 12, 6, 13, 14, 15, 16, 17, 18, 19, 20, 21, 22, 23, 24, 25, 26, 27, 28, 29, 30, 31, 32, 33, 34, 35, 36, 37, 38, 39, 40, 41, 42, 43, 44, 45, 46, 47, 48, 49, 50, 51, 52, 53, 54, 55, 56, 57, 58, 59, 60, 61, 62, 63, 64, 65, 237, 238, 239, 240, 241, 242, 243, 244, 245, 246, 247, 248, 249, 250, 251] (by decide +kernel) (by decide +kernel)
set_option maxRecDepth 20000 in
theorem gX5_readsText_X5_passes : GoodIn wsX5_readsText (wsV RX5 190 RX5 yX5_passes wsX5_passes) := goodIn_app (goodIn_of _ (by decide +kernel)) ggX5_readsText_X5_passes
set_option maxRecDepth 20000 in
theorem ggX5_readsText_X5_fails : GoodIn wsX5_readsText wsX5_fails := goodIn_r _ [69, 70, 71, 237, 238, 239, 240, 241, 242, 243, 244, 245, 246, 247, 248, 249, 250, 251] (by decide +kernel) (by decide +kernel)
set_option maxRecDepth 20000 in
theorem gX5_readsText_X5_fails : GoodIn wsX5_readsText (wsV RX5 143 RX5 yX5_fails wsX5_fails) := goodIn_app (goodIn_of _ (by decide +kernel)) ggX5_readsText_X5_fails
set_option maxRecDepth 20000 in
theorem ggX5_readsText_X5_put0 : GoodIn wsX5_readsText wsX5_put0 := goodIn_r _ [75, 76, 77, 237, 238, 239, 240, 241, 242, 243, 244, 245, 246, 247, 248, 249, 250, 251] (by decide +kernel) (by decide +kernel)
set_option maxRecDepth 20000 in
theorem gX5_readsText_X5_put0 : GoodIn wsX5_readsText (wsV RX5 30 RX5 yX5_put0 wsX5_put0) := goodIn_app (goodIn_of _ (by decide +kernel)) ggX5_readsText_X5_put0
set_option maxRecDepth 20000 in
theorem ggX5_readsText_X5_reads : GoodIn wsX5_readsText wsX5_reads := goodIn_r _ [81, 1, 82, 2, 8, 9, 83, 10, 11, 12, 6, 13, 84, 85, 86, 66, 67, 68, 69, 70, 71, 87, 88, 89, 237, 238, 239, 240, 241, 242, 243, 244, 245, 246, 247, 248, 249, 250, 251] (by decide +kernel) (by decide +kernel)
set_option maxRecDepth 20000 in
theorem gX5_readsText_X5_reads : GoodIn wsX5_readsText (wsV RX5 160 RX5 yX5_reads wsX5_reads) := goodIn_app (goodIn_of _ (by decide +kernel)) ggX5_readsText_X5_reads
set_option maxRecDepth 20000 in
theorem ggX5_readsText_X5_sign : GoodIn wsX5_readsText wsX5_sign := goodIn_r _ [93, 1, 10, 11, 12, 6, 13, 8, 9, 66, 67, 68, 69, 70, 71, 237, 238, 239, 240, 241, 242, 243, 244, 245, 246, 247, 248, 249, 250, 251] (by decide +kernel) (by decide +kernel)
set_option maxRecDepth 20000 in
theorem gX5_readsText_X5_sign : GoodIn wsX5_readsText (wsV RX5 219 RX5 yX5_sign wsX5_sign) := goodIn_app (goodIn_of _ (by decide +kernel)) ggX5_readsText_X5_sign
set_option maxRecDepth 20000 in
theorem ggX5_readsText_X5_readsValues : GoodIn wsX5_readsText wsX5_readsValues := goodIn_r _ [97, 1, 2, 98, 99, 100, 6, 101, 10, 11, 12, 13, 8, 9, 84, 85, 86, 66, 67, 68, 69, 70, 71, 102, 103, 104, 105, 106, 107, 108, 109, 76, 77, 110, 111, 112, 113, 78, 79, 80, 81, 82, 83, 87, 88, 89, 72, 73, 74, 75, 114, 115, 116, 117, 237, 238, 239, 240, 241, 242, 243, 244, 245, 246, 247, 248, 249, 250, 251] (by decide +kernel) (by decide +kernel)
set_option maxRecDepth 20000 in
theorem gX5_readsText_X5_readsValues : GoodIn wsX5_readsText (wsV RX5 222 RX5 yX5_readsValues wsX5_readsValues) := goodIn_app (goodIn_of _ (by decide +kernel)) ggX5_readsText_X5_readsValues
set_option maxRecDepth 20000 in
theorem ggX5_readsText_X5_builds : GoodIn wsX5_readsText wsX5_builds := goodIn_r _ [121, 122, 123, 124, 6, 125, 126, 127, 128, 129, 102, 103, 104, 105, 106, 107, 108, 109, 76, 77, 130, 131, 132, 133, 134, 135, 136, 137, 138, 139, 140, 141, 142, 143, 144, 72, 73, 74, 75, 114, 115, 116, 117, 237, 238, 239, 240, 241, 242, 243, 244, 245, 246, 247, 248, 249, 250, 251] (by decide +kernel) (by decide +kernel)
set_option maxRecDepth 20000 in
theorem gX5_readsText_X5_builds : GoodIn wsX5_readsText (wsV RX5 34 RX5 yX5_builds wsX5_builds) := goodIn_app (goodIn_of _ (by decide +kernel)) ggX5_readsText_X5_builds
set_option maxRecDepth 20000 in
theorem ggX5_readsText_X5_here : GoodIn wsX5_readsText wsX5_here := goodIn_r _ [13, 1, 8, 9, 237, 238, 239, 240, 241, 242, 243, 244, 245, 246, 247, 248, 249, 250, 251] (by decide +kernel) (by decide +kernel)
set_option maxRecDepth 20000 in
theorem gX5_readsText_X5_here : GoodIn wsX5_readsText (wsV RX5 129 RX5 yX5_here wsX5_here) := goodIn_app (goodIn_of _ (by decide +kernel)) ggX5_readsText_X5_here
set_option maxRecDepth 20000 in
theorem ggX5_readsText_X5_readsStatement : GoodIn wsX5_readsText wsX5_readsStatement := goodIn_r _ [148, 1, 10, 11, 12, 6, 13, 8, 9, 3, 4, 5, 7, 14, 15, 16, 17, 18, 19, 20, 21, 22, 23, 24, 25, 26, 27, 28, 29, 30, 31, 32, 33, 34, 35, 36, 37, 38, 39, 40, 41, 42, 43, 44, 45, 46, 47, 48, 49, 50, 51, 52, 53, 54, 55, 56, 57, 58, 59, 60, 61, 62, 63, 64, 65, 149, 150, 151, 152, 2, 153, 154, 155, 156, 102, 103, 104, 105, 106, 107, 108, 109, 76, 77, 78, 79, 80, 81, 82, 83, 84, 85, 86, 66, 67, 68, 69, 70, 71, 87, 88, 89, 110, 111, 112, 113, 157, 158, 159, 160, 141, 142, 143, 144, 72, 73, 74, 75, 122, 123, 124, 125, 126, 127, 128, 129, 161, 162, 163, 164, 130, 131, 132, 133, 134, 135, 136, 137, 138, 139, 140, 114, 115, 116, 117, 165, 166, 167, 168, 118, 119, 120, 121, 169, 170, 171, 172, 173, 174, 175, 176, 177, 178, 179, 180, 181, 182, 183, 184, 185, 186, 187, 188, 189, 190, 191, 192, 193, 194, 195, 196, 197, 198, 199, 200, 201, 202, 203, 204, 205, 206, 207, 208, 209, 210, 211, 212, 213, 214, 215, 216, 217, 218, 219, 220, 221, 222, 223, 224, 225, 226, 227, 228, 229, 230, 231, 232, 233, 234, 235, 236, 237, 238, 239, 240, 241, 242, 243, 244, 245, 246, 247, 248, 249, 250, 251] (by decide +kernel) (by decide +kernel)
set_option maxRecDepth 20000 in
theorem gX5_readsText_X5_readsStatement : GoodIn wsX5_readsText (wsV RX5 225 RX5 yX5_readsStatement wsX5_readsStatement) := goodIn_app (goodIn_of _ (by decide +kernel)) ggX5_readsText_X5_readsStatement
theorem dX5_readsText_0 : decode cX5_readsText 0 = .ok (.aload_n 0, 1) := by decide +kernel
theorem dX5_readsText_1 : decode cX5_readsText 1 = .ok (.ldc 217, 2) := by decide +kernel
theorem dX5_readsText_3 : decode cX5_readsText 3 = .ok (.invokevirtual 190, 3) := by decide +kernel
theorem dX5_readsText_6 : decode cX5_readsText 6 = .ok (.ifCond .ne 14, 3) := by decide +kernel
theorem dX5_readsText_9 : decode cX5_readsText 9 = .ok (.aload_n 0, 1) := by decide +kernel
theorem dX5_readsText_10 : decode cX5_readsText 10 = .ok (.bipush (-2), 2) := by decide +kernel
theorem dX5_readsText_12 : decode cX5_readsText 12 = .ok (.aload_n 0, 1) := by decide +kernel
theorem dX5_readsText_13 : decode cX5_readsText 13 = .ok (.getfield 123, 3) := by decide +kernel
theorem dX5_readsText_16 : decode cX5_readsText 16 = .ok (.invokevirtual 143, 3) := by decide +kernel
theorem dX5_readsText_19 : decode cX5_readsText 19 = .ok (.ireturn, 1) := by decide +kernel
theorem dX5_readsText_20 : decode cX5_readsText 20 = .ok (.iconst 0, 1) := by decide +kernel
theorem dX5_readsText_21 : decode cX5_readsText 21 = .ok (.istore_n 1, 1) := by decide +kernel
theorem dX5_readsText_22 : decode cX5_readsText 22 = .ok (.iload_n 1, 1) := by decide +kernel
theorem dX5_readsText_23 : decode cX5_readsText 23 = .ok (.sipush 310, 3) := by decide +kernel
theorem dX5_readsText_26 : decode cX5_readsText 26 = .ok (.if_icmp .ge 15, 3) := by decide +kernel
theorem dX5_readsText_29 : decode cX5_readsText 29 = .ok (.aload_n 0, 1) := by decide +kernel
theorem dX5_readsText_30 : decode cX5_readsText 30 = .ok (.iload_n 1, 1) := by decide +kernel
theorem dX5_readsText_31 : decode cX5_readsText 31 = .ok (.iconst 0, 1) := by decide +kernel
theorem dX5_readsText_32 : decode cX5_readsText 32 = .ok (.invokevirtual 30, 3) := by decide +kernel
theorem dX5_readsText_35 : decode cX5_readsText 35 = .ok (.iinc 1 1, 3) := by decide +kernel
theorem dX5_readsText_38 : decode cX5_readsText 38 = .ok (.goto (-16), 3) := by decide +kernel
theorem dX5_readsText_41 : decode cX5_readsText 41 = .ok (.aload_n 0, 1) := by decide +kernel
theorem dX5_readsText_42 : decode cX5_readsText 42 = .ok (.iconst 0, 1) := by decide +kernel
theorem dX5_readsText_43 : decode cX5_readsText 43 = .ok (.iconst 2, 1) := by decide +kernel
theorem dX5_readsText_44 : decode cX5_readsText 44 = .ok (.invokevirtual 160, 3) := by decide +kernel
theorem dX5_readsText_47 : decode cX5_readsText 47 = .ok (.ifCond .ne 5, 3) := by decide +kernel
theorem dX5_readsText_50 : decode cX5_readsText 50 = .ok (.iconst 0, 1) := by decide +kernel
theorem dX5_readsText_51 : decode cX5_readsText 51 = .ok (.ireturn, 1) := by decide +kernel
theorem dX5_readsText_52 : decode cX5_readsText 52 = .ok (.aload_n 0, 1) := by decide +kernel
theorem dX5_readsText_53 : decode cX5_readsText 53 = .ok (.iconst 1, 1) := by decide +kernel
theorem dX5_readsText_54 : decode cX5_readsText 54 = .ok (.aload_n 0, 1) := by decide +kernel
theorem dX5_readsText_55 : decode cX5_readsText 55 = .ok (.getfield 153, 3) := by decide +kernel
theorem dX5_readsText_58 : decode cX5_readsText 58 = .ok (.invokevirtual 30, 3) := by decide +kernel
theorem dX5_readsText_61 : decode cX5_readsText 61 = .ok (.aload_n 0, 1) := by decide +kernel
theorem dX5_readsText_62 : decode cX5_readsText 62 = .ok (.iconst 1, 1) := by decide +kernel
theorem dX5_readsText_63 : decode cX5_readsText 63 = .ok (.bipush 8, 2) := by decide +kernel
theorem dX5_readsText_65 : decode cX5_readsText 65 = .ok (.invokevirtual 160, 3) := by decide +kernel
theorem dX5_readsText_68 : decode cX5_readsText 68 = .ok (.ifCond .ne 5, 3) := by decide +kernel
theorem dX5_readsText_71 : decode cX5_readsText 71 = .ok (.iconst 0, 1) := by decide +kernel
theorem dX5_readsText_72 : decode cX5_readsText 72 = .ok (.ireturn, 1) := by decide +kernel
theorem dX5_readsText_73 : decode cX5_readsText 73 = .ok (.aload_n 0, 1) := by decide +kernel
theorem dX5_readsText_74 : decode cX5_readsText 74 = .ok (.iconst 2, 1) := by decide +kernel
theorem dX5_readsText_75 : decode cX5_readsText 75 = .ok (.aload_n 0, 1) := by decide +kernel
theorem dX5_readsText_76 : decode cX5_readsText 76 = .ok (.getfield 153, 3) := by decide +kernel
theorem dX5_readsText_79 : decode cX5_readsText 79 = .ok (.invokevirtual 30, 3) := by decide +kernel
theorem dX5_readsText_82 : decode cX5_readsText 82 = .ok (.aload_n 0, 1) := by decide +kernel
theorem dX5_readsText_83 : decode cX5_readsText 83 = .ok (.bipush 58, 2) := by decide +kernel
theorem dX5_readsText_85 : decode cX5_readsText 85 = .ok (.invokevirtual 219, 3) := by decide +kernel
theorem dX5_readsText_88 : decode cX5_readsText 88 = .ok (.ifCond .eq 19, 3) := by decide +kernel
theorem dX5_readsText_91 : decode cX5_readsText 91 = .ok (.aload_n 0, 1) := by decide +kernel
theorem dX5_readsText_92 : decode cX5_readsText 92 = .ok (.invokevirtual 222, 3) := by decide +kernel
theorem dX5_readsText_95 : decode cX5_readsText 95 = .ok (.ifCond .eq 12, 3) := by decide +kernel
theorem dX5_readsText_98 : decode cX5_readsText 98 = .ok (.aload_n 0, 1) := by decide +kernel
theorem dX5_readsText_99 : decode cX5_readsText 99 = .ok (.bipush 59, 2) := by decide +kernel
theorem dX5_readsText_101 : decode cX5_readsText 101 = .ok (.invokevirtual 219, 3) := by decide +kernel
theorem dX5_readsText_104 : decode cX5_readsText 104 = .ok (.ifCond .ne 5, 3) := by decide +kernel
theorem dX5_readsText_107 : decode cX5_readsText 107 = .ok (.iconst 0, 1) := by decide +kernel
theorem dX5_readsText_108 : decode cX5_readsText 108 = .ok (.ireturn, 1) := by decide +kernel
theorem dX5_readsText_109 : decode cX5_readsText 109 = .ok (.aload_n 0, 1) := by decide +kernel
theorem dX5_readsText_110 : decode cX5_readsText 110 = .ok (.invokevirtual 34, 3) := by decide +kernel
theorem dX5_readsText_113 : decode cX5_readsText 113 = .ok (.aload_n 0, 1) := by decide +kernel
theorem dX5_readsText_114 : decode cX5_readsText 114 = .ok (.invokevirtual 129, 3) := by decide +kernel
theorem dX5_readsText_117 : decode cX5_readsText 117 = .ok (.iconst (-1), 1) := by decide +kernel
theorem dX5_readsText_118 : decode cX5_readsText 118 = .ok (.if_icmp .eq 21, 3) := by decide +kernel
theorem dX5_readsText_121 : decode cX5_readsText 121 = .ok (.aload_n 0, 1) := by decide +kernel
theorem dX5_readsText_122 : decode cX5_readsText 122 = .ok (.invokevirtual 225, 3) := by decide +kernel
theorem dX5_readsText_125 : decode cX5_readsText 125 = .ok (.ifCond .eq 12, 3) := by decide +kernel
theorem dX5_readsText_128 : decode cX5_readsText 128 = .ok (.aload_n 0, 1) := by decide +kernel
theorem dX5_readsText_129 : decode cX5_readsText 129 = .ok (.bipush 59, 2) := by decide +kernel
theorem dX5_readsText_131 : decode cX5_readsText 131 = .ok (.invokevirtual 219, 3) := by decide +kernel
theorem dX5_readsText_134 : decode cX5_readsText 134 = .ok (.ifCond .ne (-21), 3) := by decide +kernel
theorem dX5_readsText_137 : decode cX5_readsText 137 = .ok (.iconst 0, 1) := by decide +kernel
theorem dX5_readsText_138 : decode cX5_readsText 138 = .ok (.ireturn, 1) := by decide +kernel
theorem dX5_readsText_139 : decode cX5_readsText 139 = .ok (.iconst 1, 1) := by decide +kernel
theorem dX5_readsText_140 : decode cX5_readsText 140 = .ok (.ireturn, 1) := by decide +kernel
set_option maxRecDepth 20000 in
theorem ggX5_load_X5_isIn : GoodIn wsX5_load wsX5_isIn := goodIn_r _ [14] (by decide +kernel) (by decide +kernel)
set_option maxRecDepth 20000 in
theorem gX5_load_X5_isIn : GoodIn wsX5_load (va_wsS RX5 157 yX5_isIn wsX5_isIn) := goodIn_app (goodIn_of _ (by decide +kernel)) ggX5_load_X5_isIn
set_option maxRecDepth 20000 in
theorem ggX5_load_X5_right : GoodIn wsX5_load wsX5_right := goodIn_r _ [18, 1, 249, 250, 251, 252, 253, 254, 255, 256, 257, 258, 259, 260, 261, 262, 263] (by decide +kernel) (by decide +kernel)
set_option maxRecDepth 20000 in
theorem gX5_load_X5_right : GoodIn wsX5_load (wsV RX5 228 RX5 yX5_right wsX5_right) := goodIn_app (goodIn_of _ (by decide +kernel)) ggX5_load_X5_right
set_option maxRecDepth 20000 in
theorem ggX5_load_X5_get : GoodIn wsX5_load wsX5_get := goodIn_r _ [22, 9, 8, 249, 250, 251, 252, 253, 254, 255, 256, 257, 258, 259, 260, 261, 262, 263] (by decide +kernel) (by decide +kernel)
set_option maxRecDepth 20000 in
theorem gX5_load_X5_get : GoodIn wsX5_load (wsV RX5 43 RX5 yX5_get wsX5_get) := goodIn_app (goodIn_of _ (by decide +kernel)) ggX5_load_X5_get
set_option maxRecDepth 20000 in
theorem ggX5_load_X5_readsText : GoodIn wsX5_load wsX5_readsText := goodIn_r _ [26, 4, 27, 28, 29, 30, 13, 31, 3, 32, 33, 34, 35, 36, 37, 38, 39, 40, 41, 42, 43, 44, 45, 46, 47, 48, 49, 50, 51, 52, 53, 54, 55, 56, 57, 58, 59, 60, 61, 62, 63, 64, 65, 66, 67, 68, 69, 70, 71, 72, 73, 74, 75, 76, 77, 78, 79, 80, 81, 82, 83, 84, 85, 86, 87, 88, 89, 90, 91, 92, 5, 6, 93, 94, 95, 96, 9, 8, 97, 98, 99, 100, 101, 102, 103, 104, 105, 11, 12, 14, 106, 107, 108, 109, 110, 111, 112, 113, 114, 115, 116, 117, 118, 119, 120, 121, 19, 20, 21, 22, 122, 123, 124, 125, 126, 127, 128, 129, 130, 131, 132, 133, 134, 135, 136, 137, 138, 139, 140, 141, 142, 143, 144, 145, 146, 147, 148, 149, 150, 151, 152, 153, 154, 155, 156, 157, 158, 159, 160, 161, 162, 163, 164, 165, 166, 167, 168, 169, 170, 171, 172, 173, 174, 175, 176, 177, 178, 179, 180, 181, 182, 183, 184, 185, 186, 187, 188, 189, 190, 191, 192, 193, 194, 195, 196, 197, 198, 199, 200, 201, 202, 203, 204, 205, 206, 207, 208, 209, 210, 211, 212, 213, 214, 215, 216, 217, 218, 219, 220, 221, 222, 223, 224, 225, 226, 227, 228, 229, 230, 231, 232, 233, 234, 235, 236, 237, 238, 239, 240, 241, 242, 243, 244, 245, 246, 247, 248, 249, 250, 251, 252, 253, 254, 255, 256, 257, 258, 259, 260, 261, 262, 263] (by decide +kernel) (by decide +kernel)
set_option maxRecDepth 20000 in
theorem gX5_load_X5_readsText : GoodIn wsX5_load (wsV RX5 232 RX5 yX5_readsText wsX5_readsText) := goodIn_app (goodIn_of _ (by decide +kernel)) ggX5_load_X5_readsText
set_option maxRecDepth 20000 in
theorem ggX5_load_X5_put0 : GoodIn wsX5_load wsX5_put0 := goodIn_r _ [96, 9, 8, 249, 250, 251, 252, 253, 254, 255, 256, 257, 258, 259, 260, 261, 262, 263] (by decide +kernel) (by decide +kernel)
set_option maxRecDepth 20000 in
theorem gX5_load_X5_put0 : GoodIn wsX5_load (wsV RX5 30 RX5 yX5_put0 wsX5_put0) := goodIn_app (goodIn_of _ (by decide +kernel)) ggX5_load_X5_put0
set_option maxRecDepth 20000 in
theorem ggX5_load_X5_size : GoodIn wsX5_load wsX5_size := goodIn_r _ [121, 19, 20, 21, 13, 22, 9, 8, 249, 250, 251, 252, 253, 254, 255, 256, 257, 258, 259, 260, 261, 262, 263] (by decide +kernel) (by decide +kernel)
set_option maxRecDepth 20000 in
theorem gX5_load_X5_size : GoodIn wsX5_load (wsV RX5 50 RX5 yX5_size wsX5_size) := goodIn_app (goodIn_of _ (by decide +kernel)) ggX5_load_X5_size
theorem dX5_load_0 : decode cX5_load 0 = .ok (.aload_n 0, 1) := by decide +kernel
theorem dX5_load_1 : decode cX5_load 1 = .ok (.iconst 0, 1) := by decide +kernel
theorem dX5_load_2 : decode cX5_load 2 = .ok (.putfield 37, 3) := by decide +kernel
theorem dX5_load_5 : decode cX5_load 5 = .ok (.aload_n 0, 1) := by decide +kernel
theorem dX5_load_6 : decode cX5_load 6 = .ok (.iload_n 1, 1) := by decide +kernel
theorem dX5_load_7 : decode cX5_load 7 = .ok (.iconst 0, 1) := by decide +kernel
theorem dX5_load_8 : decode cX5_load 8 = .ok (.aload_n 0, 1) := by decide +kernel
theorem dX5_load_9 : decode cX5_load 9 = .ok (.getfield 113, 3) := by decide +kernel
theorem dX5_load_12 : decode cX5_load 12 = .ok (.invokestatic 157, 3) := by decide +kernel
theorem dX5_load_15 : decode cX5_load 15 = .ok (.iconst 1, 1) := by decide +kernel
theorem dX5_load_16 : decode cX5_load 16 = .ok (.invokevirtual 228, 3) := by decide +kernel
theorem dX5_load_19 : decode cX5_load 19 = .ok (.ifCond .ne 5, 3) := by decide +kernel
theorem dX5_load_22 : decode cX5_load 22 = .ok (.iconst 0, 1) := by decide +kernel
theorem dX5_load_23 : decode cX5_load 23 = .ok (.ireturn, 1) := by decide +kernel
theorem dX5_load_24 : decode cX5_load 24 = .ok (.aload_n 0, 1) := by decide +kernel
theorem dX5_load_25 : decode cX5_load 25 = .ok (.iload_n 1, 1) := by decide +kernel
theorem dX5_load_26 : decode cX5_load 26 = .ok (.putfield 126, 3) := by decide +kernel
theorem dX5_load_29 : decode cX5_load 29 = .ok (.aload_n 0, 1) := by decide +kernel
theorem dX5_load_30 : decode cX5_load 30 = .ok (.iconst 0, 1) := by decide +kernel
theorem dX5_load_31 : decode cX5_load 31 = .ok (.putfield 123, 3) := by decide +kernel
theorem dX5_load_34 : decode cX5_load 34 = .ok (.aload_n 0, 1) := by decide +kernel
theorem dX5_load_35 : decode cX5_load 35 = .ok (.iconst 0, 1) := by decide +kernel
theorem dX5_load_36 : decode cX5_load 36 = .ok (.putfield 113, 3) := by decide +kernel
theorem dX5_load_39 : decode cX5_load 39 = .ok (.aload_n 0, 1) := by decide +kernel
theorem dX5_load_40 : decode cX5_load 40 = .ok (.iconst 0, 1) := by decide +kernel
theorem dX5_load_41 : decode cX5_load 41 = .ok (.putfield 120, 3) := by decide +kernel
theorem dX5_load_44 : decode cX5_load 44 = .ok (.aload_n 0, 1) := by decide +kernel
theorem dX5_load_45 : decode cX5_load 45 = .ok (.iconst (-1), 1) := by decide +kernel
theorem dX5_load_46 : decode cX5_load 46 = .ok (.putfield 22, 3) := by decide +kernel
theorem dX5_load_49 : decode cX5_load 49 = .ok (.iconst 0, 1) := by decide +kernel
theorem dX5_load_50 : decode cX5_load 50 = .ok (.istore_n 2, 1) := by decide +kernel
theorem dX5_load_51 : decode cX5_load 51 = .ok (.iload_n 2, 1) := by decide +kernel
theorem dX5_load_52 : decode cX5_load 52 = .ok (.sipush 310, 3) := by decide +kernel
theorem dX5_load_55 : decode cX5_load 55 = .ok (.if_icmp .ge 20, 3) := by decide +kernel
theorem dX5_load_58 : decode cX5_load 58 = .ok (.aload_n 0, 1) := by decide +kernel
theorem dX5_load_59 : decode cX5_load 59 = .ok (.getfield 13, 3) := by decide +kernel
theorem dX5_load_62 : decode cX5_load 62 = .ok (.iload_n 2, 1) := by decide +kernel
theorem dX5_load_63 : decode cX5_load 63 = .ok (.aload_n 0, 1) := by decide +kernel
theorem dX5_load_64 : decode cX5_load 64 = .ok (.iload_n 2, 1) := by decide +kernel
theorem dX5_load_65 : decode cX5_load 65 = .ok (.invokevirtual 43, 3) := by decide +kernel
theorem dX5_load_68 : decode cX5_load 68 = .ok (.iastore, 1) := by decide +kernel
theorem dX5_load_69 : decode cX5_load 69 = .ok (.iinc 2 1, 3) := by decide +kernel
theorem dX5_load_72 : decode cX5_load 72 = .ok (.goto (-21), 3) := by decide +kernel
theorem dX5_load_75 : decode cX5_load 75 = .ok (.aload_n 0, 1) := by decide +kernel
theorem dX5_load_76 : decode cX5_load 76 = .ok (.invokevirtual 232, 3) := by decide +kernel
theorem dX5_load_79 : decode cX5_load 79 = .ok (.istore_n 2, 1) := by decide +kernel
theorem dX5_load_80 : decode cX5_load 80 = .ok (.aload_n 0, 1) := by decide +kernel
theorem dX5_load_81 : decode cX5_load 81 = .ok (.getfield 40, 3) := by decide +kernel
theorem dX5_load_84 : decode cX5_load 84 = .ok (.iconst 1, 1) := by decide +kernel
theorem dX5_load_85 : decode cX5_load 85 = .ok (.iadd, 1) := by decide +kernel
theorem dX5_load_86 : decode cX5_load 86 = .ok (.bipush 9, 2) := by decide +kernel
theorem dX5_load_88 : decode cX5_load 88 = .ok (.irem, 1) := by decide +kernel
theorem dX5_load_89 : decode cX5_load 89 = .ok (.istore_n 3, 1) := by decide +kernel
theorem dX5_load_90 : decode cX5_load 90 = .ok (.iconst 0, 1) := by decide +kernel
theorem dX5_load_91 : decode cX5_load 91 = .ok (.istore 4, 2) := by decide +kernel
theorem dX5_load_93 : decode cX5_load 93 = .ok (.iload 4, 2) := by decide +kernel
theorem dX5_load_95 : decode cX5_load 95 = .ok (.sipush 310, 3) := by decide +kernel
theorem dX5_load_98 : decode cX5_load 98 = .ok (.if_icmp .ge 45, 3) := by decide +kernel
theorem dX5_load_101 : decode cX5_load 101 = .ok (.iload_n 2, 1) := by decide +kernel
theorem dX5_load_102 : decode cX5_load 102 = .ok (.ifCond .eq 22, 3) := by decide +kernel
theorem dX5_load_105 : decode cX5_load 105 = .ok (.aload_n 0, 1) := by decide +kernel
theorem dX5_load_106 : decode cX5_load 106 = .ok (.getfield 7, 3) := by decide +kernel
theorem dX5_load_109 : decode cX5_load 109 = .ok (.sipush 310, 3) := by decide +kernel
theorem dX5_load_112 : decode cX5_load 112 = .ok (.iload_n 3, 1) := by decide +kernel
theorem dX5_load_113 : decode cX5_load 113 = .ok (.imul, 1) := by decide +kernel
theorem dX5_load_114 : decode cX5_load 114 = .ok (.iload 4, 2) := by decide +kernel
theorem dX5_load_116 : decode cX5_load 116 = .ok (.iadd, 1) := by decide +kernel
theorem dX5_load_117 : decode cX5_load 117 = .ok (.aload_n 0, 1) := by decide +kernel
theorem dX5_load_118 : decode cX5_load 118 = .ok (.iload 4, 2) := by decide +kernel
theorem dX5_load_120 : decode cX5_load 120 = .ok (.invokevirtual 43, 3) := by decide +kernel
theorem dX5_load_123 : decode cX5_load 123 = .ok (.iastore, 1) := by decide +kernel
theorem dX5_load_124 : decode cX5_load 124 = .ok (.aload_n 0, 1) := by decide +kernel
theorem dX5_load_125 : decode cX5_load 125 = .ok (.iload 4, 2) := by decide +kernel
theorem dX5_load_127 : decode cX5_load 127 = .ok (.aload_n 0, 1) := by decide +kernel
theorem dX5_load_128 : decode cX5_load 128 = .ok (.getfield 13, 3) := by decide +kernel
theorem dX5_load_131 : decode cX5_load 131 = .ok (.iload 4, 2) := by decide +kernel
theorem dX5_load_133 : decode cX5_load 133 = .ok (.iaload, 1) := by decide +kernel
theorem dX5_load_134 : decode cX5_load 134 = .ok (.invokevirtual 30, 3) := by decide +kernel
theorem dX5_load_137 : decode cX5_load 137 = .ok (.iinc 4 1, 3) := by decide +kernel
theorem dX5_load_140 : decode cX5_load 140 = .ok (.goto (-47), 3) := by decide +kernel
theorem dX5_load_143 : decode cX5_load 143 = .ok (.iload_n 2, 1) := by decide +kernel
theorem dX5_load_144 : decode cX5_load 144 = .ok (.ifCond .ne 8, 3) := by decide +kernel
theorem dX5_load_147 : decode cX5_load 147 = .ok (.aload_n 0, 1) := by decide +kernel
theorem dX5_load_148 : decode cX5_load 148 = .ok (.getfield 120, 3) := by decide +kernel
theorem dX5_load_151 : decode cX5_load 151 = .ok (.ireturn, 1) := by decide +kernel
theorem dX5_load_152 : decode cX5_load 152 = .ok (.aload_n 0, 1) := by decide +kernel
theorem dX5_load_153 : decode cX5_load 153 = .ok (.iload_n 3, 1) := by decide +kernel
theorem dX5_load_154 : decode cX5_load 154 = .ok (.putfield 40, 3) := by decide +kernel
theorem dX5_load_157 : decode cX5_load 157 = .ok (.aload_n 0, 1) := by decide +kernel
theorem dX5_load_158 : decode cX5_load 158 = .ok (.aload_n 0, 1) := by decide +kernel
theorem dX5_load_159 : decode cX5_load 159 = .ok (.getfield 47, 3) := by decide +kernel
theorem dX5_load_162 : decode cX5_load 162 = .ok (.bipush 8, 2) := by decide +kernel
theorem dX5_load_164 : decode cX5_load 164 = .ok (.if_icmp .ge 12, 3) := by decide +kernel
theorem dX5_load_167 : decode cX5_load 167 = .ok (.aload_n 0, 1) := by decide +kernel
theorem dX5_load_168 : decode cX5_load 168 = .ok (.getfield 47, 3) := by decide +kernel
theorem dX5_load_171 : decode cX5_load 171 = .ok (.iconst 1, 1) := by decide +kernel
theorem dX5_load_172 : decode cX5_load 172 = .ok (.iadd, 1) := by decide +kernel
theorem dX5_load_173 : decode cX5_load 173 = .ok (.goto 7, 3) := by decide +kernel
theorem dX5_load_176 : decode cX5_load 176 = .ok (.aload_n 0, 1) := by decide +kernel
theorem dX5_load_177 : decode cX5_load 177 = .ok (.getfield 47, 3) := by decide +kernel
theorem dX5_load_180 : decode cX5_load 180 = .ok (.putfield 47, 3) := by decide +kernel
theorem dX5_load_183 : decode cX5_load 183 = .ok (.aload_n 0, 1) := by decide +kernel
theorem dX5_load_184 : decode cX5_load 184 = .ok (.invokevirtual 50, 3) := by decide +kernel
theorem dX5_load_187 : decode cX5_load 187 = .ok (.ireturn, 1) := by decide +kernel
set_option maxRecDepth 20000 in
theorem ggX5_levels_X5_cellsOn : GoodIn wsX5_levels wsX5_cellsOn := goodIn_r _ [5, 6, 7, 8, 9, 10, 11, 12, 4, 13, 14, 15, 16, 17, 18, 19, 20, 21, 22, 23, 24, 25, 26, 27, 28, 29, 30, 31, 32, 33, 34] (by decide +kernel) (by decide +kernel)
set_option maxRecDepth 20000 in
theorem gX5_levels_X5_cellsOn : GoodIn wsX5_levels (wsV RX5 63 RX5 yX5_cellsOn wsX5_cellsOn) := goodIn_app (goodIn_of _ (by decide +kernel)) ggX5_levels_X5_cellsOn
theorem dX5_levels_0 : decode cX5_levels 0 = .ok (.iconst 1, 1) := by decide +kernel
theorem dX5_levels_1 : decode cX5_levels 1 = .ok (.istore_n 1, 1) := by decide +kernel
theorem dX5_levels_2 : decode cX5_levels 2 = .ok (.iload_n 1, 1) := by decide +kernel
theorem dX5_levels_3 : decode cX5_levels 3 = .ok (.iconst 5, 1) := by decide +kernel
theorem dX5_levels_4 : decode cX5_levels 4 = .ok (.if_icmp .gt 17, 3) := by decide +kernel
theorem dX5_levels_7 : decode cX5_levels 7 = .ok (.aload_n 0, 1) := by decide +kernel
theorem dX5_levels_8 : decode cX5_levels 8 = .ok (.iload_n 1, 1) := by decide +kernel
theorem dX5_levels_9 : decode cX5_levels 9 = .ok (.invokevirtual 63, 3) := by decide +kernel
theorem dX5_levels_12 : decode cX5_levels 12 = .ok (.ifCond .le 9, 3) := by decide +kernel
theorem dX5_levels_15 : decode cX5_levels 15 = .ok (.iinc 1 1, 3) := by decide +kernel
theorem dX5_levels_18 : decode cX5_levels 18 = .ok (.goto (-16), 3) := by decide +kernel
theorem dX5_levels_21 : decode cX5_levels 21 = .ok (.iload_n 1, 1) := by decide +kernel
theorem dX5_levels_22 : decode cX5_levels 22 = .ok (.ireturn, 1) := by decide +kernel
set_option maxRecDepth 20000 in
theorem ggX5_toldOf_X5_levels : GoodIn wsX5_toldOf wsX5_levels := goodIn_r _ [5, 6, 7, 8, 4, 9, 10, 11, 12, 13, 14, 15, 16, 17, 18, 19, 20, 21, 22, 23, 32, 33, 34, 35, 36, 37, 38, 39, 40, 41, 42, 43, 44, 45, 46] (by decide +kernel) (by decide +kernel)
set_option maxRecDepth 20000 in
theorem gX5_toldOf_X5_levels : GoodIn wsX5_toldOf (wsV RX5 235 RX5 yX5_levels wsX5_levels) := goodIn_app (goodIn_of _ (by decide +kernel)) ggX5_toldOf_X5_levels
set_option maxRecDepth 20000 in
theorem ggX5_toldOf_X5_allCells : GoodIn wsX5_toldOf wsX5_allCells := goodIn_r _ [27, 6, 7, 8, 4, 9, 10, 11, 12, 13, 14, 15, 16, 17, 18, 19, 20, 21, 22, 23, 32, 33, 34, 35, 36, 37, 38, 39, 40, 41, 42, 43, 44, 45, 46] (by decide +kernel) (by decide +kernel)
set_option maxRecDepth 20000 in
theorem gX5_toldOf_X5_allCells : GoodIn wsX5_toldOf (wsV RX5 238 RX5 yX5_allCells wsX5_allCells) := goodIn_app (goodIn_of _ (by decide +kernel)) ggX5_toldOf_X5_allCells
set_option maxRecDepth 20000 in
theorem ggX5_toldOf_X5_waiting : GoodIn wsX5_toldOf wsX5_waiting := goodIn_r _ [31, 14, 15, 16, 4, 17, 18, 19, 20, 21, 22, 23, 32, 33, 34, 35, 36, 37, 38, 39, 40, 41, 42, 43, 44, 45, 46] (by decide +kernel) (by decide +kernel)
set_option maxRecDepth 20000 in
theorem gX5_toldOf_X5_waiting : GoodIn wsX5_toldOf (wsV RX5 82 RX5 yX5_waiting wsX5_waiting) := goodIn_app (goodIn_of _ (by decide +kernel)) ggX5_toldOf_X5_waiting
set_option maxRecDepth 20000 in
theorem ggX5_toldOf_X5_get : GoodIn wsX5_toldOf wsX5_get := goodIn_r _ [21, 22, 23, 32, 33, 34, 35, 36, 37, 38, 39, 40, 41, 42, 43, 44, 45, 46] (by decide +kernel) (by decide +kernel)
set_option maxRecDepth 20000 in
theorem gX5_toldOf_X5_get : GoodIn wsX5_toldOf (wsV RX5 43 RX5 yX5_get wsX5_get) := goodIn_app (goodIn_of _ (by decide +kernel)) ggX5_toldOf_X5_get
theorem dX5_toldOf_0 : decode cX5_toldOf 0 = .ok (.iload_n 1, 1) := by decide +kernel
theorem dX5_toldOf_1 : decode cX5_toldOf 1 = .ok (.tableswitch 42 3 5 #[27, 32, 37], 27) := by decide +kernel
theorem dX5_toldOf_28 : decode cX5_toldOf 28 = .ok (.aload_n 0, 1) := by decide +kernel
theorem dX5_toldOf_29 : decode cX5_toldOf 29 = .ok (.invokevirtual 235, 3) := by decide +kernel
theorem dX5_toldOf_32 : decode cX5_toldOf 32 = .ok (.ireturn, 1) := by decide +kernel
theorem dX5_toldOf_33 : decode cX5_toldOf 33 = .ok (.aload_n 0, 1) := by decide +kernel
theorem dX5_toldOf_34 : decode cX5_toldOf 34 = .ok (.invokevirtual 238, 3) := by decide +kernel
theorem dX5_toldOf_37 : decode cX5_toldOf 37 = .ok (.ireturn, 1) := by decide +kernel
theorem dX5_toldOf_38 : decode cX5_toldOf 38 = .ok (.aload_n 0, 1) := by decide +kernel
theorem dX5_toldOf_39 : decode cX5_toldOf 39 = .ok (.invokevirtual 82, 3) := by decide +kernel
theorem dX5_toldOf_42 : decode cX5_toldOf 42 = .ok (.ireturn, 1) := by decide +kernel
theorem dX5_toldOf_43 : decode cX5_toldOf 43 = .ok (.aload_n 0, 1) := by decide +kernel
theorem dX5_toldOf_44 : decode cX5_toldOf 44 = .ok (.iload_n 1, 1) := by decide +kernel
theorem dX5_toldOf_45 : decode cX5_toldOf 45 = .ok (.invokevirtual 43, 3) := by decide +kernel
theorem dX5_toldOf_48 : decode cX5_toldOf 48 = .ok (.ireturn, 1) := by decide +kernel
set_option maxRecDepth 20000 in
theorem ggX5_isPlace_X5_size : GoodIn wsX5_isPlace wsX5_size := goodIn_r _ [5, 6, 7, 8, 4, 9, 10, 11, 15, 16, 17, 18, 19, 20, 21, 22, 23, 24, 25, 26, 27, 28, 29] (by decide +kernel) (by decide +kernel)
set_option maxRecDepth 20000 in
theorem gX5_isPlace_X5_size : GoodIn wsX5_isPlace (wsV RX5 50 RX5 yX5_size wsX5_size) := goodIn_app (goodIn_of _ (by decide +kernel)) ggX5_isPlace_X5_size
set_option maxRecDepth 20000 in
theorem ggX5_isPlace_X5_isIn : GoodIn wsX5_isPlace wsX5_isIn := goodIn_r _ [14] (by decide +kernel) (by decide +kernel)
set_option maxRecDepth 20000 in
theorem gX5_isPlace_X5_isIn : GoodIn wsX5_isPlace (va_wsS RX5 157 yX5_isIn wsX5_isIn) := goodIn_app (goodIn_of _ (by decide +kernel)) ggX5_isPlace_X5_isIn
theorem dX5_isPlace_0 : decode cX5_isPlace 0 = .ok (.iload_n 1, 1) := by decide +kernel
theorem dX5_isPlace_1 : decode cX5_isPlace 1 = .ok (.iconst 0, 1) := by decide +kernel
theorem dX5_isPlace_2 : decode cX5_isPlace 2 = .ok (.aload_n 0, 1) := by decide +kernel
theorem dX5_isPlace_3 : decode cX5_isPlace 3 = .ok (.invokevirtual 50, 3) := by decide +kernel
theorem dX5_isPlace_6 : decode cX5_isPlace 6 = .ok (.iconst 1, 1) := by decide +kernel
theorem dX5_isPlace_7 : decode cX5_isPlace 7 = .ok (.isub, 1) := by decide +kernel
theorem dX5_isPlace_8 : decode cX5_isPlace 8 = .ok (.invokestatic 157, 3) := by decide +kernel
theorem dX5_isPlace_11 : decode cX5_isPlace 11 = .ok (.ireturn, 1) := by decide +kernel
set_option maxRecDepth 20000 in
theorem ggX5_isStretch_X5_isPlace : GoodIn wsX5_isStretch wsX5_isPlace := goodIn_r _ [5, 6, 7, 8, 4, 9, 10, 11, 12, 13, 14, 15, 16, 17, 18, 24, 25, 26, 27, 28, 29, 30, 31, 32, 33, 34, 35, 36, 37, 38] (by decide +kernel) (by decide +kernel)
set_option maxRecDepth 20000 in
theorem gX5_isStretch_X5_isPlace : GoodIn wsX5_isStretch (wsV RX5 241 RX5 yX5_isPlace wsX5_isPlace) := goodIn_app (goodIn_of _ (by decide +kernel)) ggX5_isStretch_X5_isPlace
set_option maxRecDepth 20000 in
theorem ggX5_isStretch_X5_right : GoodIn wsX5_isStretch wsX5_right := goodIn_r _ [22, 23, 24, 25, 26, 27, 28, 29, 30, 31, 32, 33, 34, 35, 36, 37, 38] (by decide +kernel) (by decide +kernel)
set_option maxRecDepth 20000 in
theorem gX5_isStretch_X5_right : GoodIn wsX5_isStretch (wsV RX5 228 RX5 yX5_right wsX5_right) := goodIn_app (goodIn_of _ (by decide +kernel)) ggX5_isStretch_X5_right
theorem dX5_isStretch_0 : decode cX5_isStretch 0 = .ok (.aload_n 0, 1) := by decide +kernel
theorem dX5_isStretch_1 : decode cX5_isStretch 1 = .ok (.aload_n 0, 1) := by decide +kernel
theorem dX5_isStretch_2 : decode cX5_isStretch 2 = .ok (.iload_n 1, 1) := by decide +kernel
theorem dX5_isStretch_3 : decode cX5_isStretch 3 = .ok (.invokevirtual 241, 3) := by decide +kernel
theorem dX5_isStretch_6 : decode cX5_isStretch 6 = .ok (.ifCond .eq 15, 3) := by decide +kernel
theorem dX5_isStretch_9 : decode cX5_isStretch 9 = .ok (.aload_n 0, 1) := by decide +kernel
theorem dX5_isStretch_10 : decode cX5_isStretch 10 = .ok (.iload_n 2, 1) := by decide +kernel
theorem dX5_isStretch_11 : decode cX5_isStretch 11 = .ok (.invokevirtual 241, 3) := by decide +kernel
theorem dX5_isStretch_14 : decode cX5_isStretch 14 = .ok (.ifCond .eq 7, 3) := by decide +kernel
theorem dX5_isStretch_17 : decode cX5_isStretch 17 = .ok (.iconst 1, 1) := by decide +kernel
theorem dX5_isStretch_18 : decode cX5_isStretch 18 = .ok (.goto 4, 3) := by decide +kernel
theorem dX5_isStretch_21 : decode cX5_isStretch 21 = .ok (.iconst 0, 1) := by decide +kernel
theorem dX5_isStretch_22 : decode cX5_isStretch 22 = .ok (.iconst 1, 1) := by decide +kernel
theorem dX5_isStretch_23 : decode cX5_isStretch 23 = .ok (.invokevirtual 228, 3) := by decide +kernel
theorem dX5_isStretch_26 : decode cX5_isStretch 26 = .ok (.ifCond .eq 25, 3) := by decide +kernel
theorem dX5_isStretch_29 : decode cX5_isStretch 29 = .ok (.aload_n 0, 1) := by decide +kernel
theorem dX5_isStretch_30 : decode cX5_isStretch 30 = .ok (.iload_n 1, 1) := by decide +kernel
theorem dX5_isStretch_31 : decode cX5_isStretch 31 = .ok (.iload_n 2, 1) := by decide +kernel
theorem dX5_isStretch_32 : decode cX5_isStretch 32 = .ok (.if_icmp .gt 7, 3) := by decide +kernel
theorem dX5_isStretch_35 : decode cX5_isStretch 35 = .ok (.iconst 1, 1) := by decide +kernel
theorem dX5_isStretch_36 : decode cX5_isStretch 36 = .ok (.goto 4, 3) := by decide +kernel
theorem dX5_isStretch_39 : decode cX5_isStretch 39 = .ok (.iconst 0, 1) := by decide +kernel
theorem dX5_isStretch_40 : decode cX5_isStretch 40 = .ok (.iconst 2, 1) := by decide +kernel
theorem dX5_isStretch_41 : decode cX5_isStretch 41 = .ok (.invokevirtual 228, 3) := by decide +kernel
theorem dX5_isStretch_44 : decode cX5_isStretch 44 = .ok (.ifCond .eq 7, 3) := by decide +kernel
theorem dX5_isStretch_47 : decode cX5_isStretch 47 = .ok (.iconst 1, 1) := by decide +kernel
theorem dX5_isStretch_48 : decode cX5_isStretch 48 = .ok (.goto 4, 3) := by decide +kernel
theorem dX5_isStretch_51 : decode cX5_isStretch 51 = .ok (.iconst 0, 1) := by decide +kernel
theorem dX5_isStretch_52 : decode cX5_isStretch 52 = .ok (.ireturn, 1) := by decide +kernel
set_option maxRecDepth 20000 in
theorem ggX5_state_X5_isIn : GoodIn wsX5_state wsX5_isIn := goodIn_r _ [5] (by decide +kernel) (by decide +kernel)
set_option maxRecDepth 20000 in
theorem gX5_state_X5_isIn : GoodIn wsX5_state (va_wsS RX5 157 yX5_isIn wsX5_isIn) := goodIn_app (goodIn_of _ (by decide +kernel)) ggX5_state_X5_isIn
set_option maxRecDepth 20000 in
theorem ggX5_state_X5_right : GoodIn wsX5_state wsX5_right := goodIn_r _ [9, 1, 44, 45, 46, 47, 48, 49, 50, 51, 52, 53, 54, 55, 56, 57, 58] (by decide +kernel) (by decide +kernel)
set_option maxRecDepth 20000 in
theorem gX5_state_X5_right : GoodIn wsX5_state (wsV RX5 228 RX5 yX5_right wsX5_right) := goodIn_app (goodIn_of _ (by decide +kernel)) ggX5_state_X5_right
set_option maxRecDepth 20000 in
theorem ggX5_state_X5_toldOf : GoodIn wsX5_state wsX5_toldOf := goodIn_r _ [13, 14, 15, 16, 4, 17, 18, 19, 20, 21, 22, 23, 24, 25, 26, 27, 28, 29, 30, 31, 32, 33, 34, 35, 36, 37, 38, 39, 40, 41, 42, 43, 44, 45, 46, 47, 48, 49, 50, 51, 52, 53, 54, 55, 56, 57, 58] (by decide +kernel) (by decide +kernel)
set_option maxRecDepth 20000 in
theorem gX5_state_X5_toldOf : GoodIn wsX5_state (wsV RX5 244 RX5 yX5_toldOf wsX5_toldOf) := goodIn_app (goodIn_of _ (by decide +kernel)) ggX5_state_X5_toldOf
theorem dX5_state_0 : decode cX5_state 0 = .ok (.aload_n 0, 1) := by decide +kernel
theorem dX5_state_1 : decode cX5_state 1 = .ok (.iconst 0, 1) := by decide +kernel
theorem dX5_state_2 : decode cX5_state 2 = .ok (.putfield 37, 3) := by decide +kernel
theorem dX5_state_5 : decode cX5_state 5 = .ok (.aload_n 0, 1) := by decide +kernel
theorem dX5_state_6 : decode cX5_state 6 = .ok (.iload_n 1, 1) := by decide +kernel
theorem dX5_state_7 : decode cX5_state 7 = .ok (.iconst 0, 1) := by decide +kernel
theorem dX5_state_8 : decode cX5_state 8 = .ok (.bipush 10, 2) := by decide +kernel
theorem dX5_state_10 : decode cX5_state 10 = .ok (.invokestatic 157, 3) := by decide +kernel
theorem dX5_state_13 : decode cX5_state 13 = .ok (.iconst 1, 1) := by decide +kernel
theorem dX5_state_14 : decode cX5_state 14 = .ok (.invokevirtual 228, 3) := by decide +kernel
theorem dX5_state_17 : decode cX5_state 17 = .ok (.ifCond .eq 11, 3) := by decide +kernel
theorem dX5_state_20 : decode cX5_state 20 = .ok (.aload_n 0, 1) := by decide +kernel
theorem dX5_state_21 : decode cX5_state 21 = .ok (.iload_n 1, 1) := by decide +kernel
theorem dX5_state_22 : decode cX5_state 22 = .ok (.invokevirtual 244, 3) := by decide +kernel
theorem dX5_state_25 : decode cX5_state 25 = .ok (.goto 4, 3) := by decide +kernel
theorem dX5_state_28 : decode cX5_state 28 = .ok (.iconst 0, 1) := by decide +kernel
theorem dX5_state_29 : decode cX5_state 29 = .ok (.ireturn, 1) := by decide +kernel
set_option maxRecDepth 20000 in
theorem ggX5_value_X5_isPlace : GoodIn wsX5_value wsX5_isPlace := goodIn_r _ [6, 7, 8, 9, 5, 10, 11, 12, 13, 14, 15, 16, 17, 18, 19, 28, 29, 30, 31, 32, 33, 34, 35, 36, 37, 38, 39, 40, 41, 42] (by decide +kernel) (by decide +kernel)
set_option maxRecDepth 20000 in
theorem gX5_value_X5_isPlace : GoodIn wsX5_value (wsV RX5 241 RX5 yX5_isPlace wsX5_isPlace) := goodIn_app (goodIn_of _ (by decide +kernel)) ggX5_value_X5_isPlace
set_option maxRecDepth 20000 in
theorem ggX5_value_X5_right : GoodIn wsX5_value wsX5_right := goodIn_r _ [23, 1, 28, 29, 30, 31, 32, 33, 34, 35, 36, 37, 38, 39, 40, 41, 42] (by decide +kernel) (by decide +kernel)
set_option maxRecDepth 20000 in
theorem gX5_value_X5_right : GoodIn wsX5_value (wsV RX5 228 RX5 yX5_right wsX5_right) := goodIn_app (goodIn_of _ (by decide +kernel)) ggX5_value_X5_right
set_option maxRecDepth 20000 in
theorem ggX5_value_X5_valueAt : GoodIn wsX5_value wsX5_valueAt := goodIn_r _ [27, 11, 12, 13, 5, 14, 15, 16, 28, 29, 30, 31, 32, 33, 34, 35, 36, 37, 38, 39, 40, 41, 42] (by decide +kernel) (by decide +kernel)
set_option maxRecDepth 20000 in
theorem gX5_value_X5_valueAt : GoodIn wsX5_value (wsV RX5 54 RX5 yX5_valueAt wsX5_valueAt) := goodIn_app (goodIn_of _ (by decide +kernel)) ggX5_value_X5_valueAt
theorem dX5_value_0 : decode cX5_value 0 = .ok (.aload_n 0, 1) := by decide +kernel
theorem dX5_value_1 : decode cX5_value 1 = .ok (.iconst 0, 1) := by decide +kernel
theorem dX5_value_2 : decode cX5_value 2 = .ok (.putfield 37, 3) := by decide +kernel
theorem dX5_value_5 : decode cX5_value 5 = .ok (.aload_n 0, 1) := by decide +kernel
theorem dX5_value_6 : decode cX5_value 6 = .ok (.aload_n 0, 1) := by decide +kernel
theorem dX5_value_7 : decode cX5_value 7 = .ok (.iload_n 1, 1) := by decide +kernel
theorem dX5_value_8 : decode cX5_value 8 = .ok (.invokevirtual 241, 3) := by decide +kernel
theorem dX5_value_11 : decode cX5_value 11 = .ok (.iconst 1, 1) := by decide +kernel
theorem dX5_value_12 : decode cX5_value 12 = .ok (.invokevirtual 228, 3) := by decide +kernel
theorem dX5_value_15 : decode cX5_value 15 = .ok (.ifCond .eq 11, 3) := by decide +kernel
theorem dX5_value_18 : decode cX5_value 18 = .ok (.aload_n 0, 1) := by decide +kernel
theorem dX5_value_19 : decode cX5_value 19 = .ok (.iload_n 1, 1) := by decide +kernel
theorem dX5_value_20 : decode cX5_value 20 = .ok (.invokevirtual 54, 3) := by decide +kernel
theorem dX5_value_23 : decode cX5_value 23 = .ok (.goto 4, 3) := by decide +kernel
theorem dX5_value_26 : decode cX5_value 26 = .ok (.iconst 0, 1) := by decide +kernel
theorem dX5_value_27 : decode cX5_value 27 = .ok (.ireturn, 1) := by decide +kernel
set_option maxRecDepth 20000 in
theorem ggX5_cell_X5_isPlace : GoodIn wsX5_cell wsX5_isPlace := goodIn_r _ [6, 7, 8, 9, 5, 10, 11, 12, 13, 14, 15, 16, 17, 18, 19, 39, 40, 41, 42, 43, 44, 45, 46, 47, 48, 49, 50, 51, 52, 53] (by decide +kernel) (by decide +kernel)
set_option maxRecDepth 20000 in
theorem gX5_cell_X5_isPlace : GoodIn wsX5_cell (wsV RX5 241 RX5 yX5_isPlace wsX5_isPlace) := goodIn_app (goodIn_of _ (by decide +kernel)) ggX5_cell_X5_isPlace
set_option maxRecDepth 20000 in
theorem ggX5_cell_X5_right : GoodIn wsX5_cell wsX5_right := goodIn_r _ [23, 1, 39, 40, 41, 42, 43, 44, 45, 46, 47, 48, 49, 50, 51, 52, 53] (by decide +kernel) (by decide +kernel)
set_option maxRecDepth 20000 in
theorem gX5_cell_X5_right : GoodIn wsX5_cell (wsV RX5 228 RX5 yX5_right wsX5_right) := goodIn_app (goodIn_of _ (by decide +kernel)) ggX5_cell_X5_right
set_option maxRecDepth 20000 in
theorem ggX5_cell_X5_isIn : GoodIn wsX5_cell wsX5_isIn := goodIn_r _ [19] (by decide +kernel) (by decide +kernel)
set_option maxRecDepth 20000 in
theorem gX5_cell_X5_isIn : GoodIn wsX5_cell (va_wsS RX5 157 yX5_isIn wsX5_isIn) := goodIn_app (goodIn_of _ (by decide +kernel)) ggX5_cell_X5_isIn
set_option maxRecDepth 20000 in
theorem ggX5_cell_X5_cellsOn : GoodIn wsX5_cell wsX5_cellsOn := goodIn_r _ [27, 28, 29, 30, 31, 7, 8, 9, 5, 10, 11, 12, 13, 14, 15, 16, 39, 40, 41, 42, 43, 44, 45, 46, 47, 48, 49, 50, 51, 52, 53] (by decide +kernel) (by decide +kernel)
set_option maxRecDepth 20000 in
theorem gX5_cell_X5_cellsOn : GoodIn wsX5_cell (wsV RX5 63 RX5 yX5_cellsOn wsX5_cellsOn) := goodIn_app (goodIn_of _ (by decide +kernel)) ggX5_cell_X5_cellsOn
set_option maxRecDepth 20000 in
theorem ggX5_cell_X5_toldBy : GoodIn wsX5_cell wsX5_toldBy := goodIn_r _ [35, 36, 37, 5, 38, 11, 12, 13, 14, 15, 16, 39, 40, 41, 42, 43, 44, 45, 46, 47, 48, 49, 50, 51, 52, 53] (by decide +kernel) (by decide +kernel)
set_option maxRecDepth 20000 in
theorem gX5_cell_X5_toldBy : GoodIn wsX5_cell (wsV RX5 98 RX5 yX5_toldBy wsX5_toldBy) := goodIn_app (goodIn_of _ (by decide +kernel)) ggX5_cell_X5_toldBy
theorem dX5_cell_0 : decode cX5_cell 0 = .ok (.aload_n 0, 1) := by decide +kernel
theorem dX5_cell_1 : decode cX5_cell 1 = .ok (.iconst 0, 1) := by decide +kernel
theorem dX5_cell_2 : decode cX5_cell 2 = .ok (.putfield 37, 3) := by decide +kernel
theorem dX5_cell_5 : decode cX5_cell 5 = .ok (.aload_n 0, 1) := by decide +kernel
theorem dX5_cell_6 : decode cX5_cell 6 = .ok (.aload_n 0, 1) := by decide +kernel
theorem dX5_cell_7 : decode cX5_cell 7 = .ok (.iload_n 2, 1) := by decide +kernel
theorem dX5_cell_8 : decode cX5_cell 8 = .ok (.invokevirtual 241, 3) := by decide +kernel
theorem dX5_cell_11 : decode cX5_cell 11 = .ok (.iconst 1, 1) := by decide +kernel
theorem dX5_cell_12 : decode cX5_cell 12 = .ok (.invokevirtual 228, 3) := by decide +kernel
theorem dX5_cell_15 : decode cX5_cell 15 = .ok (.ifCond .eq 34, 3) := by decide +kernel
theorem dX5_cell_18 : decode cX5_cell 18 = .ok (.aload_n 0, 1) := by decide +kernel
theorem dX5_cell_19 : decode cX5_cell 19 = .ok (.iload_n 1, 1) := by decide +kernel
theorem dX5_cell_20 : decode cX5_cell 20 = .ok (.iconst 0, 1) := by decide +kernel
theorem dX5_cell_21 : decode cX5_cell 21 = .ok (.iconst 5, 1) := by decide +kernel
theorem dX5_cell_22 : decode cX5_cell 22 = .ok (.invokestatic 157, 3) := by decide +kernel
theorem dX5_cell_25 : decode cX5_cell 25 = .ok (.ifCond .eq 16, 3) := by decide +kernel
theorem dX5_cell_28 : decode cX5_cell 28 = .ok (.iload_n 2, 1) := by decide +kernel
theorem dX5_cell_29 : decode cX5_cell 29 = .ok (.aload_n 0, 1) := by decide +kernel
theorem dX5_cell_30 : decode cX5_cell 30 = .ok (.iload_n 1, 1) := by decide +kernel
theorem dX5_cell_31 : decode cX5_cell 31 = .ok (.invokevirtual 63, 3) := by decide +kernel
theorem dX5_cell_34 : decode cX5_cell 34 = .ok (.if_icmp .ge 7, 3) := by decide +kernel
theorem dX5_cell_37 : decode cX5_cell 37 = .ok (.iconst 1, 1) := by decide +kernel
theorem dX5_cell_38 : decode cX5_cell 38 = .ok (.goto 4, 3) := by decide +kernel
theorem dX5_cell_41 : decode cX5_cell 41 = .ok (.iconst 0, 1) := by decide +kernel
theorem dX5_cell_42 : decode cX5_cell 42 = .ok (.iconst 2, 1) := by decide +kernel
theorem dX5_cell_43 : decode cX5_cell 43 = .ok (.invokevirtual 228, 3) := by decide +kernel
theorem dX5_cell_46 : decode cX5_cell 46 = .ok (.ifCond .ne 5, 3) := by decide +kernel
theorem dX5_cell_49 : decode cX5_cell 49 = .ok (.iconst 0, 1) := by decide +kernel
theorem dX5_cell_50 : decode cX5_cell 50 = .ok (.ireturn, 1) := by decide +kernel
theorem dX5_cell_51 : decode cX5_cell 51 = .ok (.aload_n 0, 1) := by decide +kernel
theorem dX5_cell_52 : decode cX5_cell 52 = .ok (.iload_n 1, 1) := by decide +kernel
theorem dX5_cell_53 : decode cX5_cell 53 = .ok (.iload_n 2, 1) := by decide +kernel
theorem dX5_cell_54 : decode cX5_cell 54 = .ok (.invokevirtual 98, 3) := by decide +kernel
theorem dX5_cell_57 : decode cX5_cell 57 = .ok (.ireturn, 1) := by decide +kernel
set_option maxRecDepth 20000 in
theorem ggX5_waits_X5_isPlace : GoodIn wsX5_waits wsX5_isPlace := goodIn_r _ [6, 7, 8, 9, 5, 10, 11, 12, 13, 14, 15, 16, 17, 18, 19, 28, 29, 30, 31, 32, 33, 34, 35, 36, 37, 38, 39, 40, 41, 42] (by decide +kernel) (by decide +kernel)
set_option maxRecDepth 20000 in
theorem gX5_waits_X5_isPlace : GoodIn wsX5_waits (wsV RX5 241 RX5 yX5_isPlace wsX5_isPlace) := goodIn_app (goodIn_of _ (by decide +kernel)) ggX5_waits_X5_isPlace
set_option maxRecDepth 20000 in
theorem ggX5_waits_X5_right : GoodIn wsX5_waits wsX5_right := goodIn_r _ [23, 1, 28, 29, 30, 31, 32, 33, 34, 35, 36, 37, 38, 39, 40, 41, 42] (by decide +kernel) (by decide +kernel)
set_option maxRecDepth 20000 in
theorem gX5_waits_X5_right : GoodIn wsX5_waits (wsV RX5 228 RX5 yX5_right wsX5_right) := goodIn_app (goodIn_of _ (by decide +kernel)) ggX5_waits_X5_right
set_option maxRecDepth 20000 in
theorem ggX5_waits_X5_isWaiting : GoodIn wsX5_waits wsX5_isWaiting := goodIn_r _ [27, 11, 12, 13, 5, 14, 15, 16, 28, 29, 30, 31, 32, 33, 34, 35, 36, 37, 38, 39, 40, 41, 42] (by decide +kernel) (by decide +kernel)
set_option maxRecDepth 20000 in
theorem gX5_waits_X5_isWaiting : GoodIn wsX5_waits (wsV RX5 85 RX5 yX5_isWaiting wsX5_isWaiting) := goodIn_app (goodIn_of _ (by decide +kernel)) ggX5_waits_X5_isWaiting
theorem dX5_waits_0 : decode cX5_waits 0 = .ok (.aload_n 0, 1) := by decide +kernel
theorem dX5_waits_1 : decode cX5_waits 1 = .ok (.iconst 0, 1) := by decide +kernel
theorem dX5_waits_2 : decode cX5_waits 2 = .ok (.putfield 37, 3) := by decide +kernel
theorem dX5_waits_5 : decode cX5_waits 5 = .ok (.aload_n 0, 1) := by decide +kernel
theorem dX5_waits_6 : decode cX5_waits 6 = .ok (.aload_n 0, 1) := by decide +kernel
theorem dX5_waits_7 : decode cX5_waits 7 = .ok (.iload_n 1, 1) := by decide +kernel
theorem dX5_waits_8 : decode cX5_waits 8 = .ok (.invokevirtual 241, 3) := by decide +kernel
theorem dX5_waits_11 : decode cX5_waits 11 = .ok (.iconst 1, 1) := by decide +kernel
theorem dX5_waits_12 : decode cX5_waits 12 = .ok (.invokevirtual 228, 3) := by decide +kernel
theorem dX5_waits_15 : decode cX5_waits 15 = .ok (.ifCond .eq 15, 3) := by decide +kernel
theorem dX5_waits_18 : decode cX5_waits 18 = .ok (.aload_n 0, 1) := by decide +kernel
theorem dX5_waits_19 : decode cX5_waits 19 = .ok (.iload_n 1, 1) := by decide +kernel
theorem dX5_waits_20 : decode cX5_waits 20 = .ok (.invokevirtual 85, 3) := by decide +kernel
theorem dX5_waits_23 : decode cX5_waits 23 = .ok (.ifCond .eq 7, 3) := by decide +kernel
theorem dX5_waits_26 : decode cX5_waits 26 = .ok (.iconst 1, 1) := by decide +kernel
theorem dX5_waits_27 : decode cX5_waits 27 = .ok (.goto 4, 3) := by decide +kernel
theorem dX5_waits_30 : decode cX5_waits 30 = .ok (.iconst 0, 1) := by decide +kernel
theorem dX5_waits_31 : decode cX5_waits 31 = .ok (.ireturn, 1) := by decide +kernel
set_option maxRecDepth 20000 in
theorem ggX5_least_X5_isStretch : GoodIn wsX5_least wsX5_isStretch := goodIn_r _ [6, 7, 8, 9, 5, 10, 11, 12, 13, 14, 15, 16, 17, 18, 19, 20, 21, 22, 23, 24, 25, 26, 27, 1, 36, 37, 38, 39, 40, 41, 42, 43, 44, 45, 46, 47, 48, 49, 50] (by decide +kernel) (by decide +kernel)
set_option maxRecDepth 20000 in
theorem gX5_least_X5_isStretch : GoodIn wsX5_least (wsV RX5 247 RX5 yX5_isStretch wsX5_isStretch) := goodIn_app (goodIn_of _ (by decide +kernel)) ggX5_least_X5_isStretch
set_option maxRecDepth 20000 in
theorem ggX5_least_X5_leastIn : GoodIn wsX5_least wsX5_leastIn := goodIn_r _ [31, 32, 33, 34, 5, 35, 15, 16, 17, 18, 19, 20, 36, 37, 38, 39, 40, 41, 42, 43, 44, 45, 46, 47, 48, 49, 50] (by decide +kernel) (by decide +kernel)
set_option maxRecDepth 20000 in
theorem gX5_least_X5_leastIn : GoodIn wsX5_least (wsV RX5 69 RX5 yX5_leastIn wsX5_leastIn) := goodIn_app (goodIn_of _ (by decide +kernel)) ggX5_least_X5_leastIn
theorem dX5_least_0 : decode cX5_least 0 = .ok (.aload_n 0, 1) := by decide +kernel
theorem dX5_least_1 : decode cX5_least 1 = .ok (.iconst 0, 1) := by decide +kernel
theorem dX5_least_2 : decode cX5_least 2 = .ok (.putfield 37, 3) := by decide +kernel
theorem dX5_least_5 : decode cX5_least 5 = .ok (.aload_n 0, 1) := by decide +kernel
theorem dX5_least_6 : decode cX5_least 6 = .ok (.iload_n 1, 1) := by decide +kernel
theorem dX5_least_7 : decode cX5_least 7 = .ok (.iload_n 2, 1) := by decide +kernel
theorem dX5_least_8 : decode cX5_least 8 = .ok (.invokevirtual 247, 3) := by decide +kernel
theorem dX5_least_11 : decode cX5_least 11 = .ok (.ifCond .eq 12, 3) := by decide +kernel
theorem dX5_least_14 : decode cX5_least 14 = .ok (.aload_n 0, 1) := by decide +kernel
theorem dX5_least_15 : decode cX5_least 15 = .ok (.iload_n 1, 1) := by decide +kernel
theorem dX5_least_16 : decode cX5_least 16 = .ok (.iload_n 2, 1) := by decide +kernel
theorem dX5_least_17 : decode cX5_least 17 = .ok (.invokevirtual 69, 3) := by decide +kernel
theorem dX5_least_20 : decode cX5_least 20 = .ok (.goto 4, 3) := by decide +kernel
theorem dX5_least_23 : decode cX5_least 23 = .ok (.iconst 0, 1) := by decide +kernel
theorem dX5_least_24 : decode cX5_least 24 = .ok (.ireturn, 1) := by decide +kernel
set_option maxRecDepth 20000 in
theorem ggX5_looksOfRun_X5_levelOf : GoodIn wsX5_looksOfRun wsX5_levelOf := goodIn_r _ [5] (by decide +kernel) (by decide +kernel)
set_option maxRecDepth 20000 in
theorem gX5_looksOfRun_X5_levelOf : GoodIn wsX5_looksOfRun (wsV RX5 92 RX5 yX5_levelOf wsX5_levelOf) := goodIn_app (goodIn_of _ (by decide +kernel)) ggX5_looksOfRun_X5_levelOf
theorem dX5_looksOfRun_0 : decode cX5_looksOfRun 0 = .ok (.iconst 1, 1) := by decide +kernel
theorem dX5_looksOfRun_1 : decode cX5_looksOfRun 1 = .ok (.aload_n 0, 1) := by decide +kernel
theorem dX5_looksOfRun_2 : decode cX5_looksOfRun 2 = .ok (.iload_n 1, 1) := by decide +kernel
theorem dX5_looksOfRun_3 : decode cX5_looksOfRun 3 = .ok (.invokevirtual 92, 3) := by decide +kernel
theorem dX5_looksOfRun_6 : decode cX5_looksOfRun 6 = .ok (.ishl, 1) := by decide +kernel
theorem dX5_looksOfRun_7 : decode cX5_looksOfRun 7 = .ok (.iload_n 1, 1) := by decide +kernel
theorem dX5_looksOfRun_8 : decode cX5_looksOfRun 8 = .ok (.if_icmp .ne 7, 3) := by decide +kernel
theorem dX5_looksOfRun_11 : decode cX5_looksOfRun 11 = .ok (.iconst 1, 1) := by decide +kernel
theorem dX5_looksOfRun_12 : decode cX5_looksOfRun 12 = .ok (.goto 4, 3) := by decide +kernel
theorem dX5_looksOfRun_15 : decode cX5_looksOfRun 15 = .ok (.iconst 2, 1) := by decide +kernel
theorem dX5_looksOfRun_16 : decode cX5_looksOfRun 16 = .ok (.ireturn, 1) := by decide +kernel
set_option maxRecDepth 20000 in
theorem ggX5_looksNow_X5_get : GoodIn wsX5_looksNow wsX5_get := goodIn_r _ [5, 6, 7, 28, 29, 30, 31, 32, 33, 34, 35, 36, 37, 38, 39, 40, 41, 42] (by decide +kernel) (by decide +kernel)
set_option maxRecDepth 20000 in
theorem gX5_looksNow_X5_get : GoodIn wsX5_looksNow (wsV RX5 43 RX5 yX5_get wsX5_get) := goodIn_app (goodIn_of _ (by decide +kernel)) ggX5_looksNow_X5_get
set_option maxRecDepth 20000 in
theorem ggX5_looksNow_X5_looksOfRun : GoodIn wsX5_looksNow wsX5_looksOfRun := goodIn_r _ [11, 12, 13, 14, 4, 15] (by decide +kernel) (by decide +kernel)
set_option maxRecDepth 20000 in
theorem gX5_looksNow_X5_looksOfRun : GoodIn wsX5_looksNow (wsV RX5 250 RX5 yX5_looksOfRun wsX5_looksOfRun) := goodIn_app (goodIn_of _ (by decide +kernel)) ggX5_looksNow_X5_looksOfRun
set_option maxRecDepth 20000 in
theorem ggX5_looksNow_X5_looksIn : GoodIn wsX5_looksNow wsX5_looksIn := goodIn_r _ [19, 20, 21, 22, 4, 23, 1, 2, 3, 5, 6, 7, 24, 25, 26, 27, 12, 13, 14, 15, 28, 29, 30, 31, 32, 33, 34, 35, 36, 37, 38, 39, 40, 41, 42] (by decide +kernel) (by decide +kernel)
set_option maxRecDepth 20000 in
theorem gX5_looksNow_X5_looksIn : GoodIn wsX5_looksNow (wsV RX5 95 RX5 yX5_looksIn wsX5_looksIn) := goodIn_app (goodIn_of _ (by decide +kernel)) ggX5_looksNow_X5_looksIn
theorem dX5_looksNow_0 : decode cX5_looksNow 0 = .ok (.aload_n 0, 1) := by decide +kernel
theorem dX5_looksNow_1 : decode cX5_looksNow 1 = .ok (.iconst 1, 1) := by decide +kernel
theorem dX5_looksNow_2 : decode cX5_looksNow 2 = .ok (.invokevirtual 43, 3) := by decide +kernel
theorem dX5_looksNow_5 : decode cX5_looksNow 5 = .ok (.ifCond .ne 15, 3) := by decide +kernel
theorem dX5_looksNow_8 : decode cX5_looksNow 8 = .ok (.aload_n 0, 1) := by decide +kernel
theorem dX5_looksNow_9 : decode cX5_looksNow 9 = .ok (.iload_n 2, 1) := by decide +kernel
theorem dX5_looksNow_10 : decode cX5_looksNow 10 = .ok (.iload_n 1, 1) := by decide +kernel
theorem dX5_looksNow_11 : decode cX5_looksNow 11 = .ok (.isub, 1) := by decide +kernel
theorem dX5_looksNow_12 : decode cX5_looksNow 12 = .ok (.iconst 1, 1) := by decide +kernel
theorem dX5_looksNow_13 : decode cX5_looksNow 13 = .ok (.iadd, 1) := by decide +kernel
theorem dX5_looksNow_14 : decode cX5_looksNow 14 = .ok (.invokevirtual 250, 3) := by decide +kernel
theorem dX5_looksNow_17 : decode cX5_looksNow 17 = .ok (.goto 9, 3) := by decide +kernel
theorem dX5_looksNow_20 : decode cX5_looksNow 20 = .ok (.aload_n 0, 1) := by decide +kernel
theorem dX5_looksNow_21 : decode cX5_looksNow 21 = .ok (.iload_n 1, 1) := by decide +kernel
theorem dX5_looksNow_22 : decode cX5_looksNow 22 = .ok (.iload_n 2, 1) := by decide +kernel
theorem dX5_looksNow_23 : decode cX5_looksNow 23 = .ok (.invokevirtual 95, 3) := by decide +kernel
theorem dX5_looksNow_26 : decode cX5_looksNow 26 = .ok (.ireturn, 1) := by decide +kernel
set_option maxRecDepth 20000 in
theorem ggX5_looks_X5_isStretch : GoodIn wsX5_looks wsX5_isStretch := goodIn_r _ [6, 7, 8, 9, 5, 10, 11, 12, 13, 14, 15, 16, 17, 18, 19, 20, 21, 22, 23, 24, 25, 26, 27, 1, 52, 53, 54, 55, 56, 57, 58, 59, 60, 61, 62, 63, 64, 65, 66] (by decide +kernel) (by decide +kernel)
set_option maxRecDepth 20000 in
theorem gX5_looks_X5_isStretch : GoodIn wsX5_looks (wsV RX5 247 RX5 yX5_isStretch wsX5_isStretch) := goodIn_app (goodIn_of _ (by decide +kernel)) ggX5_looks_X5_isStretch
set_option maxRecDepth 20000 in
theorem ggX5_looks_X5_looksNow : GoodIn wsX5_looks wsX5_looksNow := goodIn_r _ [31, 15, 16, 17, 5, 18, 19, 20, 32, 33, 34, 35, 36, 37, 38, 39, 40, 41, 42, 43, 44, 45, 46, 47, 48, 49, 50, 51, 52, 53, 54, 55, 56, 57, 58, 59, 60, 61, 62, 63, 64, 65, 66] (by decide +kernel) (by decide +kernel)
set_option maxRecDepth 20000 in
theorem gX5_looks_X5_looksNow : GoodIn wsX5_looks (wsV RX5 253 RX5 yX5_looksNow wsX5_looksNow) := goodIn_app (goodIn_of _ (by decide +kernel)) ggX5_looks_X5_looksNow
theorem dX5_looks_0 : decode cX5_looks 0 = .ok (.aload_n 0, 1) := by decide +kernel
theorem dX5_looks_1 : decode cX5_looks 1 = .ok (.iconst 0, 1) := by decide +kernel
theorem dX5_looks_2 : decode cX5_looks 2 = .ok (.putfield 37, 3) := by decide +kernel
theorem dX5_looks_5 : decode cX5_looks 5 = .ok (.aload_n 0, 1) := by decide +kernel
theorem dX5_looks_6 : decode cX5_looks 6 = .ok (.iload_n 1, 1) := by decide +kernel
theorem dX5_looks_7 : decode cX5_looks 7 = .ok (.iload_n 2, 1) := by decide +kernel
theorem dX5_looks_8 : decode cX5_looks 8 = .ok (.invokevirtual 247, 3) := by decide +kernel
theorem dX5_looks_11 : decode cX5_looks 11 = .ok (.ifCond .eq 12, 3) := by decide +kernel
theorem dX5_looks_14 : decode cX5_looks 14 = .ok (.aload_n 0, 1) := by decide +kernel
theorem dX5_looks_15 : decode cX5_looks 15 = .ok (.iload_n 1, 1) := by decide +kernel
theorem dX5_looks_16 : decode cX5_looks 16 = .ok (.iload_n 2, 1) := by decide +kernel
theorem dX5_looks_17 : decode cX5_looks 17 = .ok (.invokevirtual 253, 3) := by decide +kernel
theorem dX5_looks_20 : decode cX5_looks 20 = .ok (.goto 4, 3) := by decide +kernel
theorem dX5_looks_23 : decode cX5_looks 23 = .ok (.iconst 0, 1) := by decide +kernel
theorem dX5_looks_24 : decode cX5_looks 24 = .ok (.ireturn, 1) := by decide +kernel
set_option maxRecDepth 20000 in
theorem ggX5_writes_X5_get : GoodIn wsX5_writes wsX5_get := goodIn_r _ [6, 7, 8, 29, 30, 31, 32, 33, 34, 35, 36, 37, 38, 39, 40, 41, 42, 43] (by decide +kernel) (by decide +kernel)
set_option maxRecDepth 20000 in
theorem gX5_writes_X5_get : GoodIn wsX5_writes (wsV RX5 43 RX5 yX5_get wsX5_get) := goodIn_app (goodIn_of _ (by decide +kernel)) ggX5_writes_X5_get
set_option maxRecDepth 20000 in
theorem ggX5_writes_X5_waiting : GoodIn wsX5_writes wsX5_waiting := goodIn_r _ [12, 13, 14, 15, 5, 16, 2, 3, 4, 6, 7, 8, 29, 30, 31, 32, 33, 34, 35, 36, 37, 38, 39, 40, 41, 42, 43] (by decide +kernel) (by decide +kernel)
set_option maxRecDepth 20000 in
theorem gX5_writes_X5_waiting : GoodIn wsX5_writes (wsV RX5 82 RX5 yX5_waiting wsX5_waiting) := goodIn_app (goodIn_of _ (by decide +kernel)) ggX5_writes_X5_waiting
set_option maxRecDepth 20000 in
theorem ggX5_writes_X5_allCells : GoodIn wsX5_writes wsX5_allCells := goodIn_r _ [20, 21, 22, 23, 5, 24, 25, 26, 27, 28, 13, 14, 15, 16, 2, 3, 4, 6, 7, 8, 29, 30, 31, 32, 33, 34, 35, 36, 37, 38, 39, 40, 41, 42, 43] (by decide +kernel) (by decide +kernel)
set_option maxRecDepth 20000 in
theorem gX5_writes_X5_allCells : GoodIn wsX5_writes (wsV RX5 238 RX5 yX5_allCells wsX5_allCells) := goodIn_app (goodIn_of _ (by decide +kernel)) ggX5_writes_X5_allCells
theorem dX5_writes_0 : decode cX5_writes 0 = .ok (.aload_n 0, 1) := by decide +kernel
theorem dX5_writes_1 : decode cX5_writes 1 = .ok (.iconst 0, 1) := by decide +kernel
theorem dX5_writes_2 : decode cX5_writes 2 = .ok (.putfield 37, 3) := by decide +kernel
theorem dX5_writes_5 : decode cX5_writes 5 = .ok (.aload_n 0, 1) := by decide +kernel
theorem dX5_writes_6 : decode cX5_writes 6 = .ok (.iconst 1, 1) := by decide +kernel
theorem dX5_writes_7 : decode cX5_writes 7 = .ok (.invokevirtual 43, 3) := by decide +kernel
theorem dX5_writes_10 : decode cX5_writes 10 = .ok (.ifCond .ne 17, 3) := by decide +kernel
theorem dX5_writes_13 : decode cX5_writes 13 = .ok (.aload_n 0, 1) := by decide +kernel
theorem dX5_writes_14 : decode cX5_writes 14 = .ok (.invokevirtual 82, 3) := by decide +kernel
theorem dX5_writes_17 : decode cX5_writes 17 = .ok (.ifCond .le 10, 3) := by decide +kernel
theorem dX5_writes_20 : decode cX5_writes 20 = .ok (.aload_n 0, 1) := by decide +kernel
theorem dX5_writes_21 : decode cX5_writes 21 = .ok (.invokevirtual 238, 3) := by decide +kernel
theorem dX5_writes_24 : decode cX5_writes 24 = .ok (.goto 4, 3) := by decide +kernel
theorem dX5_writes_27 : decode cX5_writes 27 = .ok (.iconst 0, 1) := by decide +kernel
theorem dX5_writes_28 : decode cX5_writes 28 = .ok (.ireturn, 1) := by decide +kernel
set_option maxRecDepth 20000 in
theorem ggX5_above_X5_isPlace : GoodIn wsX5_above wsX5_isPlace := goodIn_r _ [6, 7, 8, 9, 5, 10, 11, 12, 13, 14, 15, 16, 17, 18, 19, 40, 41, 42, 43, 44, 45, 46, 47, 48, 49, 50, 51, 52, 53, 54] (by decide +kernel) (by decide +kernel)
set_option maxRecDepth 20000 in
theorem gX5_above_X5_isPlace : GoodIn wsX5_above (wsV RX5 241 RX5 yX5_isPlace wsX5_isPlace) := goodIn_app (goodIn_of _ (by decide +kernel)) ggX5_above_X5_isPlace
set_option maxRecDepth 20000 in
theorem ggX5_above_X5_right : GoodIn wsX5_above wsX5_right := goodIn_r _ [23, 1, 40, 41, 42, 43, 44, 45, 46, 47, 48, 49, 50, 51, 52, 53, 54] (by decide +kernel) (by decide +kernel)
set_option maxRecDepth 20000 in
theorem gX5_above_X5_right : GoodIn wsX5_above (wsV RX5 228 RX5 yX5_right wsX5_right) := goodIn_app (goodIn_of _ (by decide +kernel)) ggX5_above_X5_right
set_option maxRecDepth 20000 in
theorem ggX5_above_X5_cellsOf : GoodIn wsX5_above wsX5_cellsOf := goodIn_r _ [27, 28, 29, 30, 5, 31, 32, 33, 34, 35, 7, 8, 9, 10, 11, 12, 13, 14, 15, 16, 36, 37, 38, 39, 40, 41, 42, 43, 44, 45, 46, 47, 48, 49, 50, 51, 52, 53, 54] (by decide +kernel) (by decide +kernel)
set_option maxRecDepth 20000 in
theorem gX5_above_X5_cellsOf : GoodIn wsX5_above (wsV RX5 256 RX5 yX5_cellsOf wsX5_cellsOf) := goodIn_app (goodIn_of _ (by decide +kernel)) ggX5_above_X5_cellsOf
theorem dX5_above_0 : decode cX5_above 0 = .ok (.aload_n 0, 1) := by decide +kernel
theorem dX5_above_1 : decode cX5_above 1 = .ok (.iconst 0, 1) := by decide +kernel
theorem dX5_above_2 : decode cX5_above 2 = .ok (.putfield 37, 3) := by decide +kernel
theorem dX5_above_5 : decode cX5_above 5 = .ok (.aload_n 0, 1) := by decide +kernel
theorem dX5_above_6 : decode cX5_above 6 = .ok (.aload_n 0, 1) := by decide +kernel
theorem dX5_above_7 : decode cX5_above 7 = .ok (.iload_n 1, 1) := by decide +kernel
theorem dX5_above_8 : decode cX5_above 8 = .ok (.invokevirtual 241, 3) := by decide +kernel
theorem dX5_above_11 : decode cX5_above 11 = .ok (.iconst 1, 1) := by decide +kernel
theorem dX5_above_12 : decode cX5_above 12 = .ok (.invokevirtual 228, 3) := by decide +kernel
theorem dX5_above_15 : decode cX5_above 15 = .ok (.ifCond .eq 11, 3) := by decide +kernel
theorem dX5_above_18 : decode cX5_above 18 = .ok (.aload_n 0, 1) := by decide +kernel
theorem dX5_above_19 : decode cX5_above 19 = .ok (.iload_n 1, 1) := by decide +kernel
theorem dX5_above_20 : decode cX5_above 20 = .ok (.invokevirtual 256, 3) := by decide +kernel
theorem dX5_above_23 : decode cX5_above 23 = .ok (.goto 4, 3) := by decide +kernel
theorem dX5_above_26 : decode cX5_above 26 = .ok (.iconst 0, 1) := by decide +kernel
theorem dX5_above_27 : decode cX5_above 27 = .ok (.ireturn, 1) := by decide +kernel
set_option maxRecDepth 20000 in
theorem ggX5_lessBehind_X5_isPlace : GoodIn wsX5_lessBehind wsX5_isPlace := goodIn_r _ [6, 7, 8, 9, 5, 10, 11, 12, 13, 14, 15, 16, 17, 18, 19, 28, 29, 30, 31, 32, 33, 34, 35, 36, 37, 38, 39, 40, 41, 42] (by decide +kernel) (by decide +kernel)
set_option maxRecDepth 20000 in
theorem gX5_lessBehind_X5_isPlace : GoodIn wsX5_lessBehind (wsV RX5 241 RX5 yX5_isPlace wsX5_isPlace) := goodIn_app (goodIn_of _ (by decide +kernel)) ggX5_lessBehind_X5_isPlace
set_option maxRecDepth 20000 in
theorem ggX5_lessBehind_X5_right : GoodIn wsX5_lessBehind wsX5_right := goodIn_r _ [23, 1, 28, 29, 30, 31, 32, 33, 34, 35, 36, 37, 38, 39, 40, 41, 42] (by decide +kernel) (by decide +kernel)
set_option maxRecDepth 20000 in
theorem gX5_lessBehind_X5_right : GoodIn wsX5_lessBehind (wsV RX5 228 RX5 yX5_right wsX5_right) := goodIn_app (goodIn_of _ (by decide +kernel)) ggX5_lessBehind_X5_right
set_option maxRecDepth 20000 in
theorem ggX5_lessBehind_X5_size : GoodIn wsX5_lessBehind wsX5_size := goodIn_r _ [10, 11, 12, 13, 5, 14, 15, 16, 28, 29, 30, 31, 32, 33, 34, 35, 36, 37, 38, 39, 40, 41, 42] (by decide +kernel) (by decide +kernel)
set_option maxRecDepth 20000 in
theorem gX5_lessBehind_X5_size : GoodIn wsX5_lessBehind (wsV RX5 50 RX5 yX5_size wsX5_size) := goodIn_app (goodIn_of _ (by decide +kernel)) ggX5_lessBehind_X5_size
set_option maxRecDepth 20000 in
theorem ggX5_lessBehind_X5_valueAt : GoodIn wsX5_lessBehind wsX5_valueAt := goodIn_r _ [27, 11, 12, 13, 5, 14, 15, 16, 28, 29, 30, 31, 32, 33, 34, 35, 36, 37, 38, 39, 40, 41, 42] (by decide +kernel) (by decide +kernel)
set_option maxRecDepth 20000 in
theorem gX5_lessBehind_X5_valueAt : GoodIn wsX5_lessBehind (wsV RX5 54 RX5 yX5_valueAt wsX5_valueAt) := goodIn_app (goodIn_of _ (by decide +kernel)) ggX5_lessBehind_X5_valueAt
theorem dX5_lessBehind_0 : decode cX5_lessBehind 0 = .ok (.aload_n 0, 1) := by decide +kernel
theorem dX5_lessBehind_1 : decode cX5_lessBehind 1 = .ok (.iconst 0, 1) := by decide +kernel
theorem dX5_lessBehind_2 : decode cX5_lessBehind 2 = .ok (.putfield 37, 3) := by decide +kernel
theorem dX5_lessBehind_5 : decode cX5_lessBehind 5 = .ok (.aload_n 0, 1) := by decide +kernel
theorem dX5_lessBehind_6 : decode cX5_lessBehind 6 = .ok (.aload_n 0, 1) := by decide +kernel
theorem dX5_lessBehind_7 : decode cX5_lessBehind 7 = .ok (.iload_n 1, 1) := by decide +kernel
theorem dX5_lessBehind_8 : decode cX5_lessBehind 8 = .ok (.invokevirtual 241, 3) := by decide +kernel
theorem dX5_lessBehind_11 : decode cX5_lessBehind 11 = .ok (.iconst 1, 1) := by decide +kernel
theorem dX5_lessBehind_12 : decode cX5_lessBehind 12 = .ok (.invokevirtual 228, 3) := by decide +kernel
theorem dX5_lessBehind_15 : decode cX5_lessBehind 15 = .ok (.ifCond .ne 5, 3) := by decide +kernel
theorem dX5_lessBehind_18 : decode cX5_lessBehind 18 = .ok (.iconst 0, 1) := by decide +kernel
theorem dX5_lessBehind_19 : decode cX5_lessBehind 19 = .ok (.ireturn, 1) := by decide +kernel
theorem dX5_lessBehind_20 : decode cX5_lessBehind 20 = .ok (.iload_n 1, 1) := by decide +kernel
theorem dX5_lessBehind_21 : decode cX5_lessBehind 21 = .ok (.iconst 1, 1) := by decide +kernel
theorem dX5_lessBehind_22 : decode cX5_lessBehind 22 = .ok (.iadd, 1) := by decide +kernel
theorem dX5_lessBehind_23 : decode cX5_lessBehind 23 = .ok (.istore_n 2, 1) := by decide +kernel
theorem dX5_lessBehind_24 : decode cX5_lessBehind 24 = .ok (.iload_n 2, 1) := by decide +kernel
theorem dX5_lessBehind_25 : decode cX5_lessBehind 25 = .ok (.aload_n 0, 1) := by decide +kernel
theorem dX5_lessBehind_26 : decode cX5_lessBehind 26 = .ok (.invokevirtual 50, 3) := by decide +kernel
theorem dX5_lessBehind_29 : decode cX5_lessBehind 29 = .ok (.if_icmp .ge 24, 3) := by decide +kernel
theorem dX5_lessBehind_32 : decode cX5_lessBehind 32 = .ok (.aload_n 0, 1) := by decide +kernel
theorem dX5_lessBehind_33 : decode cX5_lessBehind 33 = .ok (.iload_n 2, 1) := by decide +kernel
theorem dX5_lessBehind_34 : decode cX5_lessBehind 34 = .ok (.invokevirtual 54, 3) := by decide +kernel
theorem dX5_lessBehind_37 : decode cX5_lessBehind 37 = .ok (.aload_n 0, 1) := by decide +kernel
theorem dX5_lessBehind_38 : decode cX5_lessBehind 38 = .ok (.iload_n 1, 1) := by decide +kernel
theorem dX5_lessBehind_39 : decode cX5_lessBehind 39 = .ok (.invokevirtual 54, 3) := by decide +kernel
theorem dX5_lessBehind_42 : decode cX5_lessBehind 42 = .ok (.if_icmp .ge 5, 3) := by decide +kernel
theorem dX5_lessBehind_45 : decode cX5_lessBehind 45 = .ok (.iload_n 2, 1) := by decide +kernel
theorem dX5_lessBehind_46 : decode cX5_lessBehind 46 = .ok (.ireturn, 1) := by decide +kernel
theorem dX5_lessBehind_47 : decode cX5_lessBehind 47 = .ok (.iinc 2 1, 3) := by decide +kernel
theorem dX5_lessBehind_50 : decode cX5_lessBehind 50 = .ok (.goto (-26), 3) := by decide +kernel
theorem dX5_lessBehind_53 : decode cX5_lessBehind 53 = .ok (.iconst (-1), 1) := by decide +kernel
theorem dX5_lessBehind_54 : decode cX5_lessBehind 54 = .ok (.ireturn, 1) := by decide +kernel
set_option maxRecDepth 20000 in
theorem ggX5_rules_X5_isPlace : GoodIn wsX5_rules wsX5_isPlace := goodIn_r _ [6, 7, 8, 9, 5, 10, 11, 12, 13, 14, 15, 16, 17, 18, 19, 28, 29, 30, 31, 32, 33, 34, 35, 36, 37, 38, 39, 40, 41, 42] (by decide +kernel) (by decide +kernel)
set_option maxRecDepth 20000 in
theorem gX5_rules_X5_isPlace : GoodIn wsX5_rules (wsV RX5 241 RX5 yX5_isPlace wsX5_isPlace) := goodIn_app (goodIn_of _ (by decide +kernel)) ggX5_rules_X5_isPlace
set_option maxRecDepth 20000 in
theorem ggX5_rules_X5_right : GoodIn wsX5_rules wsX5_right := goodIn_r _ [23, 1, 28, 29, 30, 31, 32, 33, 34, 35, 36, 37, 38, 39, 40, 41, 42] (by decide +kernel) (by decide +kernel)
set_option maxRecDepth 20000 in
theorem gX5_rules_X5_right : GoodIn wsX5_rules (wsV RX5 228 RX5 yX5_right wsX5_right) := goodIn_app (goodIn_of _ (by decide +kernel)) ggX5_rules_X5_right
set_option maxRecDepth 20000 in
theorem ggX5_rules_X5_valueAt : GoodIn wsX5_rules wsX5_valueAt := goodIn_r _ [27, 11, 12, 13, 5, 14, 15, 16, 28, 29, 30, 31, 32, 33, 34, 35, 36, 37, 38, 39, 40, 41, 42] (by decide +kernel) (by decide +kernel)
set_option maxRecDepth 20000 in
theorem gX5_rules_X5_valueAt : GoodIn wsX5_rules (wsV RX5 54 RX5 yX5_valueAt wsX5_valueAt) := goodIn_app (goodIn_of _ (by decide +kernel)) ggX5_rules_X5_valueAt
set_option maxRecDepth 20000 in
theorem ggX5_rules_X5_size : GoodIn wsX5_rules wsX5_size := goodIn_r _ [10, 11, 12, 13, 5, 14, 15, 16, 28, 29, 30, 31, 32, 33, 34, 35, 36, 37, 38, 39, 40, 41, 42] (by decide +kernel) (by decide +kernel)
set_option maxRecDepth 20000 in
theorem gX5_rules_X5_size : GoodIn wsX5_rules (wsV RX5 50 RX5 yX5_size wsX5_size) := goodIn_app (goodIn_of _ (by decide +kernel)) ggX5_rules_X5_size
theorem dX5_rules_0 : decode cX5_rules 0 = .ok (.aload_n 0, 1) := by decide +kernel
theorem dX5_rules_1 : decode cX5_rules 1 = .ok (.iconst 0, 1) := by decide +kernel
theorem dX5_rules_2 : decode cX5_rules 2 = .ok (.putfield 37, 3) := by decide +kernel
theorem dX5_rules_5 : decode cX5_rules 5 = .ok (.aload_n 0, 1) := by decide +kernel
theorem dX5_rules_6 : decode cX5_rules 6 = .ok (.aload_n 0, 1) := by decide +kernel
theorem dX5_rules_7 : decode cX5_rules 7 = .ok (.iload_n 1, 1) := by decide +kernel
theorem dX5_rules_8 : decode cX5_rules 8 = .ok (.invokevirtual 241, 3) := by decide +kernel
theorem dX5_rules_11 : decode cX5_rules 11 = .ok (.iconst 1, 1) := by decide +kernel
theorem dX5_rules_12 : decode cX5_rules 12 = .ok (.invokevirtual 228, 3) := by decide +kernel
theorem dX5_rules_15 : decode cX5_rules 15 = .ok (.ifCond .ne 5, 3) := by decide +kernel
theorem dX5_rules_18 : decode cX5_rules 18 = .ok (.iconst 0, 1) := by decide +kernel
theorem dX5_rules_19 : decode cX5_rules 19 = .ok (.ireturn, 1) := by decide +kernel
theorem dX5_rules_20 : decode cX5_rules 20 = .ok (.iconst 1, 1) := by decide +kernel
theorem dX5_rules_21 : decode cX5_rules 21 = .ok (.istore_n 2, 1) := by decide +kernel
theorem dX5_rules_22 : decode cX5_rules 22 = .ok (.iconst 1, 1) := by decide +kernel
theorem dX5_rules_23 : decode cX5_rules 23 = .ok (.istore_n 3, 1) := by decide +kernel
theorem dX5_rules_24 : decode cX5_rules 24 = .ok (.iload_n 1, 1) := by decide +kernel
theorem dX5_rules_25 : decode cX5_rules 25 = .ok (.iload_n 2, 1) := by decide +kernel
theorem dX5_rules_26 : decode cX5_rules 26 = .ok (.isub, 1) := by decide +kernel
theorem dX5_rules_27 : decode cX5_rules 27 = .ok (.ifCond .lt 24, 3) := by decide +kernel
theorem dX5_rules_30 : decode cX5_rules 30 = .ok (.aload_n 0, 1) := by decide +kernel
theorem dX5_rules_31 : decode cX5_rules 31 = .ok (.iload_n 1, 1) := by decide +kernel
theorem dX5_rules_32 : decode cX5_rules 32 = .ok (.iload_n 2, 1) := by decide +kernel
theorem dX5_rules_33 : decode cX5_rules 33 = .ok (.isub, 1) := by decide +kernel
theorem dX5_rules_34 : decode cX5_rules 34 = .ok (.invokevirtual 54, 3) := by decide +kernel
theorem dX5_rules_37 : decode cX5_rules 37 = .ok (.aload_n 0, 1) := by decide +kernel
theorem dX5_rules_38 : decode cX5_rules 38 = .ok (.iload_n 1, 1) := by decide +kernel
theorem dX5_rules_39 : decode cX5_rules 39 = .ok (.invokevirtual 54, 3) := by decide +kernel
theorem dX5_rules_42 : decode cX5_rules 42 = .ok (.if_icmp .le 9, 3) := by decide +kernel
theorem dX5_rules_45 : decode cX5_rules 45 = .ok (.iinc 2 1, 3) := by decide +kernel
theorem dX5_rules_48 : decode cX5_rules 48 = .ok (.goto (-24), 3) := by decide +kernel
theorem dX5_rules_51 : decode cX5_rules 51 = .ok (.iload_n 1, 1) := by decide +kernel
theorem dX5_rules_52 : decode cX5_rules 52 = .ok (.iload_n 3, 1) := by decide +kernel
theorem dX5_rules_53 : decode cX5_rules 53 = .ok (.iadd, 1) := by decide +kernel
theorem dX5_rules_54 : decode cX5_rules 54 = .ok (.aload_n 0, 1) := by decide +kernel
theorem dX5_rules_55 : decode cX5_rules 55 = .ok (.invokevirtual 50, 3) := by decide +kernel
theorem dX5_rules_58 : decode cX5_rules 58 = .ok (.if_icmp .ge 24, 3) := by decide +kernel
theorem dX5_rules_61 : decode cX5_rules 61 = .ok (.aload_n 0, 1) := by decide +kernel
theorem dX5_rules_62 : decode cX5_rules 62 = .ok (.iload_n 1, 1) := by decide +kernel
theorem dX5_rules_63 : decode cX5_rules 63 = .ok (.iload_n 3, 1) := by decide +kernel
theorem dX5_rules_64 : decode cX5_rules 64 = .ok (.iadd, 1) := by decide +kernel
theorem dX5_rules_65 : decode cX5_rules 65 = .ok (.invokevirtual 54, 3) := by decide +kernel
theorem dX5_rules_68 : decode cX5_rules 68 = .ok (.aload_n 0, 1) := by decide +kernel
theorem dX5_rules_69 : decode cX5_rules 69 = .ok (.iload_n 1, 1) := by decide +kernel
theorem dX5_rules_70 : decode cX5_rules 70 = .ok (.invokevirtual 54, 3) := by decide +kernel
theorem dX5_rules_73 : decode cX5_rules 73 = .ok (.if_icmp .lt 9, 3) := by decide +kernel
theorem dX5_rules_76 : decode cX5_rules 76 = .ok (.iinc 3 1, 3) := by decide +kernel
theorem dX5_rules_79 : decode cX5_rules 79 = .ok (.goto (-28), 3) := by decide +kernel
theorem dX5_rules_82 : decode cX5_rules 82 = .ok (.iload_n 2, 1) := by decide +kernel
theorem dX5_rules_83 : decode cX5_rules 83 = .ok (.iload_n 3, 1) := by decide +kernel
theorem dX5_rules_84 : decode cX5_rules 84 = .ok (.imul, 1) := by decide +kernel
theorem dX5_rules_85 : decode cX5_rules 85 = .ok (.ireturn, 1) := by decide +kernel
set_option maxRecDepth 20000 in
theorem ggX5_sum_X5_isStretch : GoodIn wsX5_sum wsX5_isStretch := goodIn_r _ [6, 7, 8, 9, 5, 10, 11, 12, 13, 14, 15, 16, 17, 18, 19, 20, 21, 22, 23, 24, 25, 26, 27, 1, 32, 33, 34, 35, 36, 37, 38, 39, 40, 41, 42, 43, 44, 45, 46] (by decide +kernel) (by decide +kernel)
set_option maxRecDepth 20000 in
theorem gX5_sum_X5_isStretch : GoodIn wsX5_sum (wsV RX5 247 RX5 yX5_isStretch wsX5_isStretch) := goodIn_app (goodIn_of _ (by decide +kernel)) ggX5_sum_X5_isStretch
set_option maxRecDepth 20000 in
theorem ggX5_sum_X5_valueAt : GoodIn wsX5_sum wsX5_valueAt := goodIn_r _ [31, 15, 16, 17, 5, 18, 19, 20, 32, 33, 34, 35, 36, 37, 38, 39, 40, 41, 42, 43, 44, 45, 46] (by decide +kernel) (by decide +kernel)
set_option maxRecDepth 20000 in
theorem gX5_sum_X5_valueAt : GoodIn wsX5_sum (wsV RX5 54 RX5 yX5_valueAt wsX5_valueAt) := goodIn_app (goodIn_of _ (by decide +kernel)) ggX5_sum_X5_valueAt
theorem dX5_sum_0 : decode cX5_sum 0 = .ok (.aload_n 0, 1) := by decide +kernel
theorem dX5_sum_1 : decode cX5_sum 1 = .ok (.iconst 0, 1) := by decide +kernel
theorem dX5_sum_2 : decode cX5_sum 2 = .ok (.putfield 37, 3) := by decide +kernel
theorem dX5_sum_5 : decode cX5_sum 5 = .ok (.aload_n 0, 1) := by decide +kernel
theorem dX5_sum_6 : decode cX5_sum 6 = .ok (.iload_n 1, 1) := by decide +kernel
theorem dX5_sum_7 : decode cX5_sum 7 = .ok (.iload_n 2, 1) := by decide +kernel
theorem dX5_sum_8 : decode cX5_sum 8 = .ok (.invokevirtual 247, 3) := by decide +kernel
theorem dX5_sum_11 : decode cX5_sum 11 = .ok (.ifCond .ne 5, 3) := by decide +kernel
theorem dX5_sum_14 : decode cX5_sum 14 = .ok (.iconst 0, 1) := by decide +kernel
theorem dX5_sum_15 : decode cX5_sum 15 = .ok (.ireturn, 1) := by decide +kernel
theorem dX5_sum_16 : decode cX5_sum 16 = .ok (.iconst 0, 1) := by decide +kernel
theorem dX5_sum_17 : decode cX5_sum 17 = .ok (.istore_n 3, 1) := by decide +kernel
theorem dX5_sum_18 : decode cX5_sum 18 = .ok (.iload_n 1, 1) := by decide +kernel
theorem dX5_sum_19 : decode cX5_sum 19 = .ok (.istore 4, 2) := by decide +kernel
theorem dX5_sum_21 : decode cX5_sum 21 = .ok (.iload 4, 2) := by decide +kernel
theorem dX5_sum_23 : decode cX5_sum 23 = .ok (.iload_n 2, 1) := by decide +kernel
theorem dX5_sum_24 : decode cX5_sum 24 = .ok (.if_icmp .gt 18, 3) := by decide +kernel
theorem dX5_sum_27 : decode cX5_sum 27 = .ok (.iload_n 3, 1) := by decide +kernel
theorem dX5_sum_28 : decode cX5_sum 28 = .ok (.aload_n 0, 1) := by decide +kernel
theorem dX5_sum_29 : decode cX5_sum 29 = .ok (.iload 4, 2) := by decide +kernel
theorem dX5_sum_31 : decode cX5_sum 31 = .ok (.invokevirtual 54, 3) := by decide +kernel
theorem dX5_sum_34 : decode cX5_sum 34 = .ok (.iadd, 1) := by decide +kernel
theorem dX5_sum_35 : decode cX5_sum 35 = .ok (.istore_n 3, 1) := by decide +kernel
theorem dX5_sum_36 : decode cX5_sum 36 = .ok (.iinc 4 1, 3) := by decide +kernel
theorem dX5_sum_39 : decode cX5_sum 39 = .ok (.goto (-18), 3) := by decide +kernel
theorem dX5_sum_42 : decode cX5_sum 42 = .ok (.iload_n 3, 1) := by decide +kernel
theorem dX5_sum_43 : decode cX5_sum 43 = .ok (.ireturn, 1) := by decide +kernel
set_option maxRecDepth 20000 in
theorem ggX5_isKept_X5_get : GoodIn wsX5_isKept wsX5_get := goodIn_r _ [5, 6, 7, 11, 12, 13, 14, 15, 16, 17, 18, 19, 20, 21, 22, 23, 24, 25] (by decide +kernel) (by decide +kernel)
set_option maxRecDepth 20000 in
theorem gX5_isKept_X5_get : GoodIn wsX5_isKept (wsV RX5 43 RX5 yX5_get wsX5_get) := goodIn_app (goodIn_of _ (by decide +kernel)) ggX5_isKept_X5_get
set_option maxRecDepth 20000 in
theorem ggX5_isKept_X5_isIn : GoodIn wsX5_isKept wsX5_isIn := goodIn_r _ [10] (by decide +kernel) (by decide +kernel)
set_option maxRecDepth 20000 in
theorem gX5_isKept_X5_isIn : GoodIn wsX5_isKept (va_wsS RX5 157 yX5_isIn wsX5_isIn) := goodIn_app (goodIn_of _ (by decide +kernel)) ggX5_isKept_X5_isIn
theorem dX5_isKept_0 : decode cX5_isKept 0 = .ok (.iload_n 1, 1) := by decide +kernel
theorem dX5_isKept_1 : decode cX5_isKept 1 = .ok (.iconst 0, 1) := by decide +kernel
theorem dX5_isKept_2 : decode cX5_isKept 2 = .ok (.aload_n 0, 1) := by decide +kernel
theorem dX5_isKept_3 : decode cX5_isKept 3 = .ok (.bipush 6, 2) := by decide +kernel
theorem dX5_isKept_5 : decode cX5_isKept 5 = .ok (.invokevirtual 43, 3) := by decide +kernel
theorem dX5_isKept_8 : decode cX5_isKept 8 = .ok (.iconst 1, 1) := by decide +kernel
theorem dX5_isKept_9 : decode cX5_isKept 9 = .ok (.isub, 1) := by decide +kernel
theorem dX5_isKept_10 : decode cX5_isKept 10 = .ok (.invokestatic 157, 3) := by decide +kernel
theorem dX5_isKept_13 : decode cX5_isKept 13 = .ok (.ireturn, 1) := by decide +kernel
set_option maxRecDepth 20000 in
theorem ggX5_kept_X5_isKept : GoodIn wsX5_kept wsX5_isKept := goodIn_r _ [6, 7, 8, 9, 5, 10, 11, 12, 13, 14, 15, 28, 29, 30, 31, 32, 33, 34, 35, 36, 37, 38, 39, 40, 41, 42] (by decide +kernel) (by decide +kernel)
set_option maxRecDepth 20000 in
theorem gX5_kept_X5_isKept : GoodIn wsX5_kept (wsV RX5 259 RX5 yX5_isKept wsX5_isKept) := goodIn_app (goodIn_of _ (by decide +kernel)) ggX5_kept_X5_isKept
set_option maxRecDepth 20000 in
theorem ggX5_kept_X5_right : GoodIn wsX5_kept wsX5_right := goodIn_r _ [19, 1, 28, 29, 30, 31, 32, 33, 34, 35, 36, 37, 38, 39, 40, 41, 42] (by decide +kernel) (by decide +kernel)
set_option maxRecDepth 20000 in
theorem gX5_kept_X5_right : GoodIn wsX5_kept (wsV RX5 228 RX5 yX5_right wsX5_right) := goodIn_app (goodIn_of _ (by decide +kernel)) ggX5_kept_X5_right
set_option maxRecDepth 20000 in
theorem ggX5_kept_X5_keptFrom : GoodIn wsX5_kept wsX5_keptFrom := goodIn_r _ [23, 7, 8, 9, 5, 10, 11, 12, 28, 29, 30, 31, 32, 33, 34, 35, 36, 37, 38, 39, 40, 41, 42] (by decide +kernel) (by decide +kernel)
set_option maxRecDepth 20000 in
theorem gX5_kept_X5_keptFrom : GoodIn wsX5_kept (wsV RX5 107 RX5 yX5_keptFrom wsX5_keptFrom) := goodIn_app (goodIn_of _ (by decide +kernel)) ggX5_kept_X5_keptFrom
set_option maxRecDepth 20000 in
theorem ggX5_kept_X5_keptTo : GoodIn wsX5_kept wsX5_keptTo := goodIn_r _ [27, 7, 8, 9, 5, 10, 11, 12, 28, 29, 30, 31, 32, 33, 34, 35, 36, 37, 38, 39, 40, 41, 42] (by decide +kernel) (by decide +kernel)
set_option maxRecDepth 20000 in
theorem gX5_kept_X5_keptTo : GoodIn wsX5_kept (wsV RX5 104 RX5 yX5_keptTo wsX5_keptTo) := goodIn_app (goodIn_of _ (by decide +kernel)) ggX5_kept_X5_keptTo
theorem dX5_kept_0 : decode cX5_kept 0 = .ok (.aload_n 0, 1) := by decide +kernel
theorem dX5_kept_1 : decode cX5_kept 1 = .ok (.iconst 0, 1) := by decide +kernel
theorem dX5_kept_2 : decode cX5_kept 2 = .ok (.putfield 37, 3) := by decide +kernel
theorem dX5_kept_5 : decode cX5_kept 5 = .ok (.aload_n 0, 1) := by decide +kernel
theorem dX5_kept_6 : decode cX5_kept 6 = .ok (.aload_n 0, 1) := by decide +kernel
theorem dX5_kept_7 : decode cX5_kept 7 = .ok (.iload_n 1, 1) := by decide +kernel
theorem dX5_kept_8 : decode cX5_kept 8 = .ok (.invokevirtual 259, 3) := by decide +kernel
theorem dX5_kept_11 : decode cX5_kept 11 = .ok (.iconst 1, 1) := by decide +kernel
theorem dX5_kept_12 : decode cX5_kept 12 = .ok (.invokevirtual 228, 3) := by decide +kernel
theorem dX5_kept_15 : decode cX5_kept 15 = .ok (.ifCond .eq 20, 3) := by decide +kernel
theorem dX5_kept_18 : decode cX5_kept 18 = .ok (.bipush 100, 2) := by decide +kernel
theorem dX5_kept_20 : decode cX5_kept 20 = .ok (.aload_n 0, 1) := by decide +kernel
theorem dX5_kept_21 : decode cX5_kept 21 = .ok (.iload_n 1, 1) := by decide +kernel
theorem dX5_kept_22 : decode cX5_kept 22 = .ok (.invokevirtual 107, 3) := by decide +kernel
theorem dX5_kept_25 : decode cX5_kept 25 = .ok (.imul, 1) := by decide +kernel
theorem dX5_kept_26 : decode cX5_kept 26 = .ok (.aload_n 0, 1) := by decide +kernel
theorem dX5_kept_27 : decode cX5_kept 27 = .ok (.iload_n 1, 1) := by decide +kernel
theorem dX5_kept_28 : decode cX5_kept 28 = .ok (.invokevirtual 104, 3) := by decide +kernel
theorem dX5_kept_31 : decode cX5_kept 31 = .ok (.iadd, 1) := by decide +kernel
theorem dX5_kept_32 : decode cX5_kept 32 = .ok (.goto 4, 3) := by decide +kernel
theorem dX5_kept_35 : decode cX5_kept 35 = .ok (.iconst 0, 1) := by decide +kernel
theorem dX5_kept_36 : decode cX5_kept 36 = .ok (.ireturn, 1) := by decide +kernel
set_option maxRecDepth 20000 in
theorem ggX5_keptLooks_X5_get : GoodIn wsX5_keptLooks wsX5_get := goodIn_r _ [5, 6, 7, 40, 41, 42, 43, 44, 45, 46, 47, 48, 49, 50, 51, 52, 53, 54] (by decide +kernel) (by decide +kernel)
set_option maxRecDepth 20000 in
theorem gX5_keptLooks_X5_get : GoodIn wsX5_keptLooks (wsV RX5 43 RX5 yX5_get wsX5_get) := goodIn_app (goodIn_of _ (by decide +kernel)) ggX5_keptLooks_X5_get
set_option maxRecDepth 20000 in
theorem ggX5_keptLooks_X5_keptFrom : GoodIn wsX5_keptLooks wsX5_keptFrom := goodIn_r _ [11, 1, 2, 3, 4, 5, 6, 7, 40, 41, 42, 43, 44, 45, 46, 47, 48, 49, 50, 51, 52, 53, 54] (by decide +kernel) (by decide +kernel)
set_option maxRecDepth 20000 in
theorem gX5_keptLooks_X5_keptFrom : GoodIn wsX5_keptLooks (wsV RX5 107 RX5 yX5_keptFrom wsX5_keptFrom) := goodIn_app (goodIn_of _ (by decide +kernel)) ggX5_keptLooks_X5_keptFrom
set_option maxRecDepth 20000 in
theorem ggX5_keptLooks_X5_keptTo : GoodIn wsX5_keptLooks wsX5_keptTo := goodIn_r _ [15, 1, 2, 3, 4, 5, 6, 7, 40, 41, 42, 43, 44, 45, 46, 47, 48, 49, 50, 51, 52, 53, 54] (by decide +kernel) (by decide +kernel)
set_option maxRecDepth 20000 in
theorem gX5_keptLooks_X5_keptTo : GoodIn wsX5_keptLooks (wsV RX5 104 RX5 yX5_keptTo wsX5_keptTo) := goodIn_app (goodIn_of _ (by decide +kernel)) ggX5_keptLooks_X5_keptTo
set_option maxRecDepth 20000 in
theorem ggX5_keptLooks_X5_looksNow : GoodIn wsX5_keptLooks wsX5_looksNow := goodIn_r _ [19, 1, 2, 3, 4, 5, 6, 7, 20, 21, 22, 23, 24, 25, 26, 27, 28, 29, 30, 31, 32, 33, 34, 35, 36, 37, 38, 39, 40, 41, 42, 43, 44, 45, 46, 47, 48, 49, 50, 51, 52, 53, 54] (by decide +kernel) (by decide +kernel)
set_option maxRecDepth 20000 in
theorem gX5_keptLooks_X5_looksNow : GoodIn wsX5_keptLooks (wsV RX5 253 RX5 yX5_looksNow wsX5_looksNow) := goodIn_app (goodIn_of _ (by decide +kernel)) ggX5_keptLooks_X5_looksNow
theorem dX5_keptLooks_0 : decode cX5_keptLooks 0 = .ok (.iconst 0, 1) := by decide +kernel
theorem dX5_keptLooks_1 : decode cX5_keptLooks 1 = .ok (.istore_n 1, 1) := by decide +kernel
theorem dX5_keptLooks_2 : decode cX5_keptLooks 2 = .ok (.iconst 0, 1) := by decide +kernel
theorem dX5_keptLooks_3 : decode cX5_keptLooks 3 = .ok (.istore_n 2, 1) := by decide +kernel
theorem dX5_keptLooks_4 : decode cX5_keptLooks 4 = .ok (.iload_n 2, 1) := by decide +kernel
theorem dX5_keptLooks_5 : decode cX5_keptLooks 5 = .ok (.aload_n 0, 1) := by decide +kernel
theorem dX5_keptLooks_6 : decode cX5_keptLooks 6 = .ok (.bipush 6, 2) := by decide +kernel
theorem dX5_keptLooks_8 : decode cX5_keptLooks 8 = .ok (.invokevirtual 43, 3) := by decide +kernel
theorem dX5_keptLooks_11 : decode cX5_keptLooks 11 = .ok (.if_icmp .ge 26, 3) := by decide +kernel
theorem dX5_keptLooks_14 : decode cX5_keptLooks 14 = .ok (.iload_n 1, 1) := by decide +kernel
theorem dX5_keptLooks_15 : decode cX5_keptLooks 15 = .ok (.aload_n 0, 1) := by decide +kernel
theorem dX5_keptLooks_16 : decode cX5_keptLooks 16 = .ok (.aload_n 0, 1) := by decide +kernel
theorem dX5_keptLooks_17 : decode cX5_keptLooks 17 = .ok (.iload_n 2, 1) := by decide +kernel
theorem dX5_keptLooks_18 : decode cX5_keptLooks 18 = .ok (.invokevirtual 107, 3) := by decide +kernel
theorem dX5_keptLooks_21 : decode cX5_keptLooks 21 = .ok (.aload_n 0, 1) := by decide +kernel
theorem dX5_keptLooks_22 : decode cX5_keptLooks 22 = .ok (.iload_n 2, 1) := by decide +kernel
theorem dX5_keptLooks_23 : decode cX5_keptLooks 23 = .ok (.invokevirtual 104, 3) := by decide +kernel
theorem dX5_keptLooks_26 : decode cX5_keptLooks 26 = .ok (.invokevirtual 253, 3) := by decide +kernel
theorem dX5_keptLooks_29 : decode cX5_keptLooks 29 = .ok (.iadd, 1) := by decide +kernel
theorem dX5_keptLooks_30 : decode cX5_keptLooks 30 = .ok (.istore_n 1, 1) := by decide +kernel
theorem dX5_keptLooks_31 : decode cX5_keptLooks 31 = .ok (.iinc 2 1, 3) := by decide +kernel
theorem dX5_keptLooks_34 : decode cX5_keptLooks 34 = .ok (.goto (-30), 3) := by decide +kernel
theorem dX5_keptLooks_37 : decode cX5_keptLooks 37 = .ok (.iload_n 1, 1) := by decide +kernel
theorem dX5_keptLooks_38 : decode cX5_keptLooks 38 = .ok (.ireturn, 1) := by decide +kernel
set_option maxRecDepth 20000 in
theorem ggX5_looksOfKept_X5_keptLooks : GoodIn wsX5_looksOfKept wsX5_keptLooks := goodIn_r _ [6, 7, 8, 9, 5, 10, 11, 12, 13, 14, 15, 16, 17, 18, 19, 20, 21, 22, 23, 24, 25, 26, 27, 28, 29, 30, 31, 32, 33, 34, 35, 36, 37, 38, 39, 40, 41, 42, 43, 44, 45, 46, 47, 48, 49, 50, 51, 52, 53, 54, 55, 56, 57, 58, 59] (by decide +kernel) (by decide +kernel)
set_option maxRecDepth 20000 in
theorem gX5_looksOfKept_X5_keptLooks : GoodIn wsX5_looksOfKept (wsV RX5 262 RX5 yX5_keptLooks wsX5_keptLooks) := goodIn_app (goodIn_of _ (by decide +kernel)) ggX5_looksOfKept_X5_keptLooks
theorem dX5_looksOfKept_0 : decode cX5_looksOfKept 0 = .ok (.aload_n 0, 1) := by decide +kernel
theorem dX5_looksOfKept_1 : decode cX5_looksOfKept 1 = .ok (.iconst 0, 1) := by decide +kernel
theorem dX5_looksOfKept_2 : decode cX5_looksOfKept 2 = .ok (.putfield 37, 3) := by decide +kernel
theorem dX5_looksOfKept_5 : decode cX5_looksOfKept 5 = .ok (.aload_n 0, 1) := by decide +kernel
theorem dX5_looksOfKept_6 : decode cX5_looksOfKept 6 = .ok (.invokevirtual 262, 3) := by decide +kernel
theorem dX5_looksOfKept_9 : decode cX5_looksOfKept 9 = .ok (.ireturn, 1) := by decide +kernel
set_option maxRecDepth 20000 in
theorem ggX5_costBy_X5_get : GoodIn wsX5_costBy wsX5_get := goodIn_r _ [10, 11, 12, 99, 100, 101, 102, 103, 104, 105, 106, 107, 108, 109, 110, 111, 112, 113] (by decide +kernel) (by decide +kernel)
set_option maxRecDepth 20000 in
theorem gX5_costBy_X5_get : GoodIn wsX5_costBy (wsV RX5 43 RX5 yX5_get wsX5_get) := goodIn_app (goodIn_of _ (by decide +kernel)) ggX5_costBy_X5_get
set_option maxRecDepth 20000 in
theorem ggX5_costBy_X5_put0 : GoodIn wsX5_costBy wsX5_put0 := goodIn_r _ [16, 11, 12, 99, 100, 101, 102, 103, 104, 105, 106, 107, 108, 109, 110, 111, 112, 113] (by decide +kernel) (by decide +kernel)
set_option maxRecDepth 20000 in
theorem gX5_costBy_X5_put0 : GoodIn wsX5_costBy (wsV RX5 30 RX5 yX5_put0 wsX5_put0) := goodIn_app (goodIn_of _ (by decide +kernel)) ggX5_costBy_X5_put0
set_option maxRecDepth 20000 in
theorem ggX5_costBy_X5_valueAt : GoodIn wsX5_costBy wsX5_valueAt := goodIn_r _ [20, 6, 7, 8, 9, 10, 11, 12, 99, 100, 101, 102, 103, 104, 105, 106, 107, 108, 109, 110, 111, 112, 113] (by decide +kernel) (by decide +kernel)
set_option maxRecDepth 20000 in
theorem gX5_costBy_X5_valueAt : GoodIn wsX5_costBy (wsV RX5 54 RX5 yX5_valueAt wsX5_valueAt) := goodIn_app (goodIn_of _ (by decide +kernel)) ggX5_costBy_X5_valueAt
set_option maxRecDepth 20000 in
theorem ggX5_costBy_X5_sets : GoodIn wsX5_costBy wsX5_sets := goodIn_r _ [24, 17, 18, 19, 9, 20, 6, 7, 8, 10, 11, 12, 13, 14, 15, 16, 25, 26, 27, 28, 29, 30, 4, 31, 32, 33, 34, 35, 36, 37, 38, 39, 40, 41, 42, 43, 44, 45, 46, 47, 48, 49, 50, 51, 52, 53, 54, 55, 56, 57, 58, 59, 60, 61, 62, 99, 100, 101, 102, 103, 104, 105, 106, 107, 108, 109, 110, 111, 112, 113] (by decide +kernel) (by decide +kernel)
set_option maxRecDepth 20000 in
theorem gX5_costBy_X5_sets : GoodIn wsX5_costBy (wsV RX5 173 RX5 yX5_sets wsX5_sets) := goodIn_app (goodIn_of _ (by decide +kernel)) ggX5_costBy_X5_sets
set_option maxRecDepth 20000 in
theorem ggX5_costBy_X5_keptFrom : GoodIn wsX5_costBy wsX5_keptFrom := goodIn_r _ [66, 6, 7, 8, 9, 10, 11, 12, 99, 100, 101, 102, 103, 104, 105, 106, 107, 108, 109, 110, 111, 112, 113] (by decide +kernel) (by decide +kernel)
set_option maxRecDepth 20000 in
theorem gX5_costBy_X5_keptFrom : GoodIn wsX5_costBy (wsV RX5 107 RX5 yX5_keptFrom wsX5_keptFrom) := goodIn_app (goodIn_of _ (by decide +kernel)) ggX5_costBy_X5_keptFrom
set_option maxRecDepth 20000 in
theorem ggX5_costBy_X5_keptTo : GoodIn wsX5_costBy wsX5_keptTo := goodIn_r _ [70, 6, 7, 8, 9, 10, 11, 12, 99, 100, 101, 102, 103, 104, 105, 106, 107, 108, 109, 110, 111, 112, 113] (by decide +kernel) (by decide +kernel)
set_option maxRecDepth 20000 in
theorem gX5_costBy_X5_keptTo : GoodIn wsX5_costBy (wsV RX5 104 RX5 yX5_keptTo wsX5_keptTo) := goodIn_app (goodIn_of _ (by decide +kernel)) ggX5_costBy_X5_keptTo
set_option maxRecDepth 20000 in
theorem ggX5_costBy_X5_asks : GoodIn wsX5_costBy wsX5_asks := goodIn_r _ [74, 6, 7, 8, 9, 10, 11, 12, 55, 56, 57, 58, 32, 33, 34, 35, 59, 60, 61, 62, 25, 26, 27, 28, 29, 30, 4, 31, 40, 41, 42, 43, 44, 45, 46, 47, 48, 49, 50, 17, 18, 19, 20, 13, 14, 15, 16, 51, 52, 53, 54, 75, 76, 77, 78, 79, 80, 81, 82, 83, 84, 85, 86, 87, 88, 89, 90, 91, 92, 93, 94, 95, 96, 97, 98, 99, 100, 101, 102, 103, 104, 105, 106, 107, 108, 109, 110, 111, 112, 113] (by decide +kernel) (by decide +kernel)
set_option maxRecDepth 20000 in
theorem gX5_costBy_X5_asks : GoodIn wsX5_costBy (wsV RX5 176 RX5 yX5_asks wsX5_asks) := goodIn_app (goodIn_of _ (by decide +kernel)) ggX5_costBy_X5_asks
theorem dX5_costBy_0 : decode cX5_costBy 0 = .ok (.iconst 0, 1) := by decide +kernel
theorem dX5_costBy_1 : decode cX5_costBy 1 = .ok (.istore_n 3, 1) := by decide +kernel
theorem dX5_costBy_2 : decode cX5_costBy 2 = .ok (.iload_n 3, 1) := by decide +kernel
theorem dX5_costBy_3 : decode cX5_costBy 3 = .ok (.sipush 310, 3) := by decide +kernel
theorem dX5_costBy_6 : decode cX5_costBy 6 = .ok (.if_icmp .ge 20, 3) := by decide +kernel
theorem dX5_costBy_9 : decode cX5_costBy 9 = .ok (.aload_n 0, 1) := by decide +kernel
theorem dX5_costBy_10 : decode cX5_costBy 10 = .ok (.getfield 16, 3) := by decide +kernel
theorem dX5_costBy_13 : decode cX5_costBy 13 = .ok (.iload_n 3, 1) := by decide +kernel
theorem dX5_costBy_14 : decode cX5_costBy 14 = .ok (.aload_n 0, 1) := by decide +kernel
theorem dX5_costBy_15 : decode cX5_costBy 15 = .ok (.iload_n 3, 1) := by decide +kernel
theorem dX5_costBy_16 : decode cX5_costBy 16 = .ok (.invokevirtual 43, 3) := by decide +kernel
theorem dX5_costBy_19 : decode cX5_costBy 19 = .ok (.iastore, 1) := by decide +kernel
theorem dX5_costBy_20 : decode cX5_costBy 20 = .ok (.iinc 3 1, 3) := by decide +kernel
theorem dX5_costBy_23 : decode cX5_costBy 23 = .ok (.goto (-21), 3) := by decide +kernel
theorem dX5_costBy_26 : decode cX5_costBy 26 = .ok (.aload_n 0, 1) := by decide +kernel
theorem dX5_costBy_27 : decode cX5_costBy 27 = .ok (.iconst 1, 1) := by decide +kernel
theorem dX5_costBy_28 : decode cX5_costBy 28 = .ok (.iload_n 1, 1) := by decide +kernel
theorem dX5_costBy_29 : decode cX5_costBy 29 = .ok (.invokevirtual 30, 3) := by decide +kernel
theorem dX5_costBy_32 : decode cX5_costBy 32 = .ok (.iconst 0, 1) := by decide +kernel
theorem dX5_costBy_33 : decode cX5_costBy 33 = .ok (.istore_n 3, 1) := by decide +kernel
theorem dX5_costBy_34 : decode cX5_costBy 34 = .ok (.iload_n 3, 1) := by decide +kernel
theorem dX5_costBy_35 : decode cX5_costBy 35 = .ok (.bipush 40, 2) := by decide +kernel
theorem dX5_costBy_37 : decode cX5_costBy 37 = .ok (.if_icmp .ge 18, 3) := by decide +kernel
theorem dX5_costBy_40 : decode cX5_costBy 40 = .ok (.aload_n 0, 1) := by decide +kernel
theorem dX5_costBy_41 : decode cX5_costBy 41 = .ok (.bipush 52, 2) := by decide +kernel
theorem dX5_costBy_43 : decode cX5_costBy 43 = .ok (.iload_n 3, 1) := by decide +kernel
theorem dX5_costBy_44 : decode cX5_costBy 44 = .ok (.iadd, 1) := by decide +kernel
theorem dX5_costBy_45 : decode cX5_costBy 45 = .ok (.iconst 0, 1) := by decide +kernel
theorem dX5_costBy_46 : decode cX5_costBy 46 = .ok (.invokevirtual 30, 3) := by decide +kernel
theorem dX5_costBy_49 : decode cX5_costBy 49 = .ok (.iinc 3 1, 3) := by decide +kernel
theorem dX5_costBy_52 : decode cX5_costBy 52 = .ok (.goto (-18), 3) := by decide +kernel
theorem dX5_costBy_55 : decode cX5_costBy 55 = .ok (.aload_n 0, 1) := by decide +kernel
theorem dX5_costBy_56 : decode cX5_costBy 56 = .ok (.bipush 7, 2) := by decide +kernel
theorem dX5_costBy_58 : decode cX5_costBy 58 = .ok (.invokevirtual 43, 3) := by decide +kernel
theorem dX5_costBy_61 : decode cX5_costBy 61 = .ok (.aload_n 0, 1) := by decide +kernel
theorem dX5_costBy_62 : decode cX5_costBy 62 = .ok (.bipush 8, 2) := by decide +kernel
theorem dX5_costBy_64 : decode cX5_costBy 64 = .ok (.invokevirtual 43, 3) := by decide +kernel
theorem dX5_costBy_67 : decode cX5_costBy 67 = .ok (.iadd, 1) := by decide +kernel
theorem dX5_costBy_68 : decode cX5_costBy 68 = .ok (.istore_n 3, 1) := by decide +kernel
theorem dX5_costBy_69 : decode cX5_costBy 69 = .ok (.aload_n 0, 1) := by decide +kernel
theorem dX5_costBy_70 : decode cX5_costBy 70 = .ok (.iload_n 2, 1) := by decide +kernel
theorem dX5_costBy_71 : decode cX5_costBy 71 = .ok (.aload_n 0, 1) := by decide +kernel
theorem dX5_costBy_72 : decode cX5_costBy 72 = .ok (.iload_n 2, 1) := by decide +kernel
theorem dX5_costBy_73 : decode cX5_costBy 73 = .ok (.invokevirtual 54, 3) := by decide +kernel
theorem dX5_costBy_76 : decode cX5_costBy 76 = .ok (.invokevirtual 173, 3) := by decide +kernel
theorem dX5_costBy_79 : decode cX5_costBy 79 = .ok (.istore 4, 2) := by decide +kernel
theorem dX5_costBy_81 : decode cX5_costBy 81 = .ok (.iconst 0, 1) := by decide +kernel
theorem dX5_costBy_82 : decode cX5_costBy 82 = .ok (.istore 5, 2) := by decide +kernel
theorem dX5_costBy_84 : decode cX5_costBy 84 = .ok (.iload 5, 2) := by decide +kernel
theorem dX5_costBy_86 : decode cX5_costBy 86 = .ok (.aload_n 0, 1) := by decide +kernel
theorem dX5_costBy_87 : decode cX5_costBy 87 = .ok (.bipush 6, 2) := by decide +kernel
theorem dX5_costBy_89 : decode cX5_costBy 89 = .ok (.invokevirtual 43, 3) := by decide +kernel
theorem dX5_costBy_92 : decode cX5_costBy 92 = .ok (.if_icmp .ge 40, 3) := by decide +kernel
theorem dX5_costBy_95 : decode cX5_costBy 95 = .ok (.iload 4, 2) := by decide +kernel
theorem dX5_costBy_97 : decode cX5_costBy 97 = .ok (.sipush 999, 3) := by decide +kernel
theorem dX5_costBy_100 : decode cX5_costBy 100 = .ok (.if_icmp .gt 32, 3) := by decide +kernel
theorem dX5_costBy_103 : decode cX5_costBy 103 = .ok (.iload 4, 2) := by decide +kernel
theorem dX5_costBy_105 : decode cX5_costBy 105 = .ok (.aload_n 0, 1) := by decide +kernel
theorem dX5_costBy_106 : decode cX5_costBy 106 = .ok (.aload_n 0, 1) := by decide +kernel
theorem dX5_costBy_107 : decode cX5_costBy 107 = .ok (.iload 5, 2) := by decide +kernel
theorem dX5_costBy_109 : decode cX5_costBy 109 = .ok (.invokevirtual 107, 3) := by decide +kernel
theorem dX5_costBy_112 : decode cX5_costBy 112 = .ok (.aload_n 0, 1) := by decide +kernel
theorem dX5_costBy_113 : decode cX5_costBy 113 = .ok (.iload 5, 2) := by decide +kernel
theorem dX5_costBy_115 : decode cX5_costBy 115 = .ok (.invokevirtual 104, 3) := by decide +kernel
theorem dX5_costBy_118 : decode cX5_costBy 118 = .ok (.invokevirtual 176, 3) := by decide +kernel
theorem dX5_costBy_121 : decode cX5_costBy 121 = .ok (.invokestatic 265, 3) := by decide +kernel
theorem dX5_costBy_124 : decode cX5_costBy 124 = .ok (.istore 4, 2) := by decide +kernel
theorem dX5_costBy_126 : decode cX5_costBy 126 = .ok (.iinc 5 1, 3) := by decide +kernel
theorem dX5_costBy_129 : decode cX5_costBy 129 = .ok (.goto (-45), 3) := by decide +kernel
theorem dX5_costBy_132 : decode cX5_costBy 132 = .ok (.aload_n 0, 1) := by decide +kernel
theorem dX5_costBy_133 : decode cX5_costBy 133 = .ok (.bipush 7, 2) := by decide +kernel
theorem dX5_costBy_135 : decode cX5_costBy 135 = .ok (.invokevirtual 43, 3) := by decide +kernel
theorem dX5_costBy_138 : decode cX5_costBy 138 = .ok (.aload_n 0, 1) := by decide +kernel
theorem dX5_costBy_139 : decode cX5_costBy 139 = .ok (.bipush 8, 2) := by decide +kernel
theorem dX5_costBy_141 : decode cX5_costBy 141 = .ok (.invokevirtual 43, 3) := by decide +kernel
theorem dX5_costBy_144 : decode cX5_costBy 144 = .ok (.iadd, 1) := by decide +kernel
theorem dX5_costBy_145 : decode cX5_costBy 145 = .ok (.iload_n 3, 1) := by decide +kernel
theorem dX5_costBy_146 : decode cX5_costBy 146 = .ok (.isub, 1) := by decide +kernel
theorem dX5_costBy_147 : decode cX5_costBy 147 = .ok (.istore 5, 2) := by decide +kernel
theorem dX5_costBy_149 : decode cX5_costBy 149 = .ok (.iconst 0, 1) := by decide +kernel
theorem dX5_costBy_150 : decode cX5_costBy 150 = .ok (.istore 6, 2) := by decide +kernel
theorem dX5_costBy_152 : decode cX5_costBy 152 = .ok (.iload 6, 2) := by decide +kernel
theorem dX5_costBy_154 : decode cX5_costBy 154 = .ok (.sipush 310, 3) := by decide +kernel
theorem dX5_costBy_157 : decode cX5_costBy 157 = .ok (.if_icmp .ge 22, 3) := by decide +kernel
theorem dX5_costBy_160 : decode cX5_costBy 160 = .ok (.aload_n 0, 1) := by decide +kernel
theorem dX5_costBy_161 : decode cX5_costBy 161 = .ok (.iload 6, 2) := by decide +kernel
theorem dX5_costBy_163 : decode cX5_costBy 163 = .ok (.aload_n 0, 1) := by decide +kernel
theorem dX5_costBy_164 : decode cX5_costBy 164 = .ok (.getfield 16, 3) := by decide +kernel
theorem dX5_costBy_167 : decode cX5_costBy 167 = .ok (.iload 6, 2) := by decide +kernel
theorem dX5_costBy_169 : decode cX5_costBy 169 = .ok (.iaload, 1) := by decide +kernel
theorem dX5_costBy_170 : decode cX5_costBy 170 = .ok (.invokevirtual 30, 3) := by decide +kernel
theorem dX5_costBy_173 : decode cX5_costBy 173 = .ok (.iinc 6 1, 3) := by decide +kernel
theorem dX5_costBy_176 : decode cX5_costBy 176 = .ok (.goto (-24), 3) := by decide +kernel
theorem dX5_costBy_179 : decode cX5_costBy 179 = .ok (.iload 5, 2) := by decide +kernel
theorem dX5_costBy_181 : decode cX5_costBy 181 = .ok (.ireturn, 1) := by decide +kernel
set_option maxRecDepth 20000 in
theorem ggX5_bestRule_X5_isPlace : GoodIn wsX5_bestRule wsX5_isPlace := goodIn_r _ [6, 7, 8, 9, 5, 10, 11, 12, 13, 14, 15, 16, 17, 18, 19, 115, 116, 117, 118, 119, 120, 121, 122, 123, 124, 125, 126, 127, 128, 129] (by decide +kernel) (by decide +kernel)
set_option maxRecDepth 20000 in
theorem gX5_bestRule_X5_isPlace : GoodIn wsX5_bestRule (wsV RX5 241 RX5 yX5_isPlace wsX5_isPlace) := goodIn_app (goodIn_of _ (by decide +kernel)) ggX5_bestRule_X5_isPlace
set_option maxRecDepth 20000 in
theorem ggX5_bestRule_X5_right : GoodIn wsX5_bestRule wsX5_right := goodIn_r _ [23, 1, 115, 116, 117, 118, 119, 120, 121, 122, 123, 124, 125, 126, 127, 128, 129] (by decide +kernel) (by decide +kernel)
set_option maxRecDepth 20000 in
theorem gX5_bestRule_X5_right : GoodIn wsX5_bestRule (wsV RX5 228 RX5 yX5_right wsX5_right) := goodIn_app (goodIn_of _ (by decide +kernel)) ggX5_bestRule_X5_right
set_option maxRecDepth 20000 in
theorem ggX5_bestRule_X5_costBy : GoodIn wsX5_bestRule wsX5_costBy := goodIn_r _ [27, 28, 29, 30, 31, 32, 11, 12, 13, 5, 14, 15, 16, 33, 34, 35, 36, 37, 38, 39, 40, 41, 42, 43, 44, 45, 46, 47, 48, 49, 50, 51, 7, 8, 9, 10, 52, 53, 54, 55, 56, 57, 58, 59, 60, 61, 62, 63, 64, 65, 66, 67, 68, 69, 70, 71, 72, 73, 74, 75, 76, 77, 78, 79, 80, 81, 82, 83, 84, 85, 86, 87, 88, 89, 90, 91, 92, 93, 94, 95, 96, 97, 98, 99, 100, 101, 102, 103, 104, 105, 106, 107, 108, 109, 110, 111, 112, 113, 114, 115, 116, 117, 118, 119, 120, 121, 122, 123, 124, 125, 126, 127, 128, 129] (by decide +kernel) (by decide +kernel)
set_option maxRecDepth 20000 in
theorem gX5_bestRule_X5_costBy : GoodIn wsX5_bestRule (wsV RX5 268 RX5 yX5_costBy wsX5_costBy) := goodIn_app (goodIn_of _ (by decide +kernel)) ggX5_bestRule_X5_costBy
theorem dX5_bestRule_0 : decode cX5_bestRule 0 = .ok (.aload_n 0, 1) := by decide +kernel
theorem dX5_bestRule_1 : decode cX5_bestRule 1 = .ok (.iconst 0, 1) := by decide +kernel
theorem dX5_bestRule_2 : decode cX5_bestRule 2 = .ok (.putfield 37, 3) := by decide +kernel
theorem dX5_bestRule_5 : decode cX5_bestRule 5 = .ok (.aload_n 0, 1) := by decide +kernel
theorem dX5_bestRule_6 : decode cX5_bestRule 6 = .ok (.aload_n 0, 1) := by decide +kernel
theorem dX5_bestRule_7 : decode cX5_bestRule 7 = .ok (.iload_n 1, 1) := by decide +kernel
theorem dX5_bestRule_8 : decode cX5_bestRule 8 = .ok (.invokevirtual 241, 3) := by decide +kernel
theorem dX5_bestRule_11 : decode cX5_bestRule 11 = .ok (.iconst 1, 1) := by decide +kernel
theorem dX5_bestRule_12 : decode cX5_bestRule 12 = .ok (.invokevirtual 228, 3) := by decide +kernel
theorem dX5_bestRule_15 : decode cX5_bestRule 15 = .ok (.ifCond .ne 5, 3) := by decide +kernel
theorem dX5_bestRule_18 : decode cX5_bestRule 18 = .ok (.iconst 0, 1) := by decide +kernel
theorem dX5_bestRule_19 : decode cX5_bestRule 19 = .ok (.ireturn, 1) := by decide +kernel
theorem dX5_bestRule_20 : decode cX5_bestRule 20 = .ok (.iconst 0, 1) := by decide +kernel
theorem dX5_bestRule_21 : decode cX5_bestRule 21 = .ok (.istore_n 2, 1) := by decide +kernel
theorem dX5_bestRule_22 : decode cX5_bestRule 22 = .ok (.aload_n 0, 1) := by decide +kernel
theorem dX5_bestRule_23 : decode cX5_bestRule 23 = .ok (.iconst 0, 1) := by decide +kernel
theorem dX5_bestRule_24 : decode cX5_bestRule 24 = .ok (.iload_n 1, 1) := by decide +kernel
theorem dX5_bestRule_25 : decode cX5_bestRule 25 = .ok (.invokevirtual 268, 3) := by decide +kernel
theorem dX5_bestRule_28 : decode cX5_bestRule 28 = .ok (.istore_n 3, 1) := by decide +kernel
theorem dX5_bestRule_29 : decode cX5_bestRule 29 = .ok (.iconst 1, 1) := by decide +kernel
theorem dX5_bestRule_30 : decode cX5_bestRule 30 = .ok (.istore 4, 2) := by decide +kernel
theorem dX5_bestRule_32 : decode cX5_bestRule 32 = .ok (.iload 4, 2) := by decide +kernel
theorem dX5_bestRule_34 : decode cX5_bestRule 34 = .ok (.iconst 3, 1) := by decide +kernel
theorem dX5_bestRule_35 : decode cX5_bestRule 35 = .ok (.if_icmp .ge 33, 3) := by decide +kernel
theorem dX5_bestRule_38 : decode cX5_bestRule 38 = .ok (.aload_n 0, 1) := by decide +kernel
theorem dX5_bestRule_39 : decode cX5_bestRule 39 = .ok (.iload 4, 2) := by decide +kernel
theorem dX5_bestRule_41 : decode cX5_bestRule 41 = .ok (.iload_n 1, 1) := by decide +kernel
theorem dX5_bestRule_42 : decode cX5_bestRule 42 = .ok (.invokevirtual 268, 3) := by decide +kernel
theorem dX5_bestRule_45 : decode cX5_bestRule 45 = .ok (.istore 5, 2) := by decide +kernel
theorem dX5_bestRule_47 : decode cX5_bestRule 47 = .ok (.iload 5, 2) := by decide +kernel
theorem dX5_bestRule_49 : decode cX5_bestRule 49 = .ok (.iload_n 3, 1) := by decide +kernel
theorem dX5_bestRule_50 : decode cX5_bestRule 50 = .ok (.if_icmp .lt 6, 3) := by decide +kernel
theorem dX5_bestRule_53 : decode cX5_bestRule 53 = .ok (.goto 9, 3) := by decide +kernel
theorem dX5_bestRule_56 : decode cX5_bestRule 56 = .ok (.iload 5, 2) := by decide +kernel
theorem dX5_bestRule_58 : decode cX5_bestRule 58 = .ok (.istore_n 3, 1) := by decide +kernel
theorem dX5_bestRule_59 : decode cX5_bestRule 59 = .ok (.iload 4, 2) := by decide +kernel
theorem dX5_bestRule_61 : decode cX5_bestRule 61 = .ok (.istore_n 2, 1) := by decide +kernel
theorem dX5_bestRule_62 : decode cX5_bestRule 62 = .ok (.iinc 4 1, 3) := by decide +kernel
theorem dX5_bestRule_65 : decode cX5_bestRule 65 = .ok (.goto (-33), 3) := by decide +kernel
theorem dX5_bestRule_68 : decode cX5_bestRule 68 = .ok (.iload_n 2, 1) := by decide +kernel
theorem dX5_bestRule_69 : decode cX5_bestRule 69 = .ok (.ireturn, 1) := by decide +kernel
set_option maxRecDepth 20000 in
theorem ggX5_ranked_X5_size : GoodIn wsX5_ranked wsX5_size := goodIn_r _ [6, 7, 8, 9, 5, 10, 11, 12, 24, 25, 26, 27, 28, 29, 30, 31, 32, 33, 34, 35, 36, 37, 38] (by decide +kernel) (by decide +kernel)
set_option maxRecDepth 20000 in
theorem gX5_ranked_X5_size : GoodIn wsX5_ranked (wsV RX5 50 RX5 yX5_size wsX5_size) := goodIn_app (goodIn_of _ (by decide +kernel)) ggX5_ranked_X5_size
set_option maxRecDepth 20000 in
theorem ggX5_ranked_X5_isIn : GoodIn wsX5_ranked wsX5_isIn := goodIn_r _ [15] (by decide +kernel) (by decide +kernel)
set_option maxRecDepth 20000 in
theorem gX5_ranked_X5_isIn : GoodIn wsX5_ranked (va_wsS RX5 157 yX5_isIn wsX5_isIn) := goodIn_app (goodIn_of _ (by decide +kernel)) ggX5_ranked_X5_isIn
set_option maxRecDepth 20000 in
theorem ggX5_ranked_X5_right : GoodIn wsX5_ranked wsX5_right := goodIn_r _ [19, 1, 24, 25, 26, 27, 28, 29, 30, 31, 32, 33, 34, 35, 36, 37, 38] (by decide +kernel) (by decide +kernel)
set_option maxRecDepth 20000 in
theorem gX5_ranked_X5_right : GoodIn wsX5_ranked (wsV RX5 228 RX5 yX5_right wsX5_right) := goodIn_app (goodIn_of _ (by decide +kernel)) ggX5_ranked_X5_right
set_option maxRecDepth 20000 in
theorem ggX5_ranked_X5_valueAt : GoodIn wsX5_ranked wsX5_valueAt := goodIn_r _ [23, 7, 8, 9, 5, 10, 11, 12, 24, 25, 26, 27, 28, 29, 30, 31, 32, 33, 34, 35, 36, 37, 38] (by decide +kernel) (by decide +kernel)
set_option maxRecDepth 20000 in
theorem gX5_ranked_X5_valueAt : GoodIn wsX5_ranked (wsV RX5 54 RX5 yX5_valueAt wsX5_valueAt) := goodIn_app (goodIn_of _ (by decide +kernel)) ggX5_ranked_X5_valueAt
theorem dX5_ranked_0 : decode cX5_ranked 0 = .ok (.aload_n 0, 1) := by decide +kernel
theorem dX5_ranked_1 : decode cX5_ranked 1 = .ok (.iconst 0, 1) := by decide +kernel
theorem dX5_ranked_2 : decode cX5_ranked 2 = .ok (.putfield 37, 3) := by decide +kernel
theorem dX5_ranked_5 : decode cX5_ranked 5 = .ok (.aload_n 0, 1) := by decide +kernel
theorem dX5_ranked_6 : decode cX5_ranked 6 = .ok (.iload_n 1, 1) := by decide +kernel
theorem dX5_ranked_7 : decode cX5_ranked 7 = .ok (.iconst 0, 1) := by decide +kernel
theorem dX5_ranked_8 : decode cX5_ranked 8 = .ok (.aload_n 0, 1) := by decide +kernel
theorem dX5_ranked_9 : decode cX5_ranked 9 = .ok (.invokevirtual 50, 3) := by decide +kernel
theorem dX5_ranked_12 : decode cX5_ranked 12 = .ok (.iconst 1, 1) := by decide +kernel
theorem dX5_ranked_13 : decode cX5_ranked 13 = .ok (.isub, 1) := by decide +kernel
theorem dX5_ranked_14 : decode cX5_ranked 14 = .ok (.invokestatic 157, 3) := by decide +kernel
theorem dX5_ranked_17 : decode cX5_ranked 17 = .ok (.iconst 1, 1) := by decide +kernel
theorem dX5_ranked_18 : decode cX5_ranked 18 = .ok (.invokevirtual 228, 3) := by decide +kernel
theorem dX5_ranked_21 : decode cX5_ranked 21 = .ok (.ifCond .ne 5, 3) := by decide +kernel
theorem dX5_ranked_24 : decode cX5_ranked 24 = .ok (.iconst 0, 1) := by decide +kernel
theorem dX5_ranked_25 : decode cX5_ranked 25 = .ok (.ireturn, 1) := by decide +kernel
theorem dX5_ranked_26 : decode cX5_ranked 26 = .ok (.iconst 0, 1) := by decide +kernel
theorem dX5_ranked_27 : decode cX5_ranked 27 = .ok (.istore_n 2, 1) := by decide +kernel
theorem dX5_ranked_28 : decode cX5_ranked 28 = .ok (.iload_n 2, 1) := by decide +kernel
theorem dX5_ranked_29 : decode cX5_ranked 29 = .ok (.aload_n 0, 1) := by decide +kernel
theorem dX5_ranked_30 : decode cX5_ranked 30 = .ok (.invokevirtual 50, 3) := by decide +kernel
theorem dX5_ranked_33 : decode cX5_ranked 33 = .ok (.if_icmp .ge 78, 3) := by decide +kernel
theorem dX5_ranked_36 : decode cX5_ranked 36 = .ok (.iconst 0, 1) := by decide +kernel
theorem dX5_ranked_37 : decode cX5_ranked 37 = .ok (.istore_n 3, 1) := by decide +kernel
theorem dX5_ranked_38 : decode cX5_ranked 38 = .ok (.iconst 0, 1) := by decide +kernel
theorem dX5_ranked_39 : decode cX5_ranked 39 = .ok (.istore 4, 2) := by decide +kernel
theorem dX5_ranked_41 : decode cX5_ranked 41 = .ok (.iload 4, 2) := by decide +kernel
theorem dX5_ranked_43 : decode cX5_ranked 43 = .ok (.aload_n 0, 1) := by decide +kernel
theorem dX5_ranked_44 : decode cX5_ranked 44 = .ok (.invokevirtual 50, 3) := by decide +kernel
theorem dX5_ranked_47 : decode cX5_ranked 47 = .ok (.if_icmp .ge 51, 3) := by decide +kernel
theorem dX5_ranked_50 : decode cX5_ranked 50 = .ok (.iload_n 3, 1) := by decide +kernel
theorem dX5_ranked_51 : decode cX5_ranked 51 = .ok (.aload_n 0, 1) := by decide +kernel
theorem dX5_ranked_52 : decode cX5_ranked 52 = .ok (.iload 4, 2) := by decide +kernel
theorem dX5_ranked_54 : decode cX5_ranked 54 = .ok (.invokevirtual 54, 3) := by decide +kernel
theorem dX5_ranked_57 : decode cX5_ranked 57 = .ok (.aload_n 0, 1) := by decide +kernel
theorem dX5_ranked_58 : decode cX5_ranked 58 = .ok (.iload_n 2, 1) := by decide +kernel
theorem dX5_ranked_59 : decode cX5_ranked 59 = .ok (.invokevirtual 54, 3) := by decide +kernel
theorem dX5_ranked_62 : decode cX5_ranked 62 = .ok (.if_icmp .lt 23, 3) := by decide +kernel
theorem dX5_ranked_65 : decode cX5_ranked 65 = .ok (.aload_n 0, 1) := by decide +kernel
theorem dX5_ranked_66 : decode cX5_ranked 66 = .ok (.iload 4, 2) := by decide +kernel
theorem dX5_ranked_68 : decode cX5_ranked 68 = .ok (.invokevirtual 54, 3) := by decide +kernel
theorem dX5_ranked_71 : decode cX5_ranked 71 = .ok (.aload_n 0, 1) := by decide +kernel
theorem dX5_ranked_72 : decode cX5_ranked 72 = .ok (.iload_n 2, 1) := by decide +kernel
theorem dX5_ranked_73 : decode cX5_ranked 73 = .ok (.invokevirtual 54, 3) := by decide +kernel
theorem dX5_ranked_76 : decode cX5_ranked 76 = .ok (.if_icmp .ne 13, 3) := by decide +kernel
theorem dX5_ranked_79 : decode cX5_ranked 79 = .ok (.iload 4, 2) := by decide +kernel
theorem dX5_ranked_81 : decode cX5_ranked 81 = .ok (.iload_n 2, 1) := by decide +kernel
theorem dX5_ranked_82 : decode cX5_ranked 82 = .ok (.if_icmp .ge 7, 3) := by decide +kernel
theorem dX5_ranked_85 : decode cX5_ranked 85 = .ok (.iconst 1, 1) := by decide +kernel
theorem dX5_ranked_86 : decode cX5_ranked 86 = .ok (.goto 4, 3) := by decide +kernel
theorem dX5_ranked_89 : decode cX5_ranked 89 = .ok (.iconst 0, 1) := by decide +kernel
theorem dX5_ranked_90 : decode cX5_ranked 90 = .ok (.iadd, 1) := by decide +kernel
theorem dX5_ranked_91 : decode cX5_ranked 91 = .ok (.istore_n 3, 1) := by decide +kernel
theorem dX5_ranked_92 : decode cX5_ranked 92 = .ok (.iinc 4 1, 3) := by decide +kernel
theorem dX5_ranked_95 : decode cX5_ranked 95 = .ok (.goto (-54), 3) := by decide +kernel
theorem dX5_ranked_98 : decode cX5_ranked 98 = .ok (.iload_n 3, 1) := by decide +kernel
theorem dX5_ranked_99 : decode cX5_ranked 99 = .ok (.iload_n 1, 1) := by decide +kernel
theorem dX5_ranked_100 : decode cX5_ranked 100 = .ok (.if_icmp .ne 5, 3) := by decide +kernel
theorem dX5_ranked_103 : decode cX5_ranked 103 = .ok (.iload_n 2, 1) := by decide +kernel
theorem dX5_ranked_104 : decode cX5_ranked 104 = .ok (.ireturn, 1) := by decide +kernel
theorem dX5_ranked_105 : decode cX5_ranked 105 = .ok (.iinc 2 1, 3) := by decide +kernel
theorem dX5_ranked_108 : decode cX5_ranked 108 = .ok (.goto (-80), 3) := by decide +kernel
theorem dX5_ranked_111 : decode cX5_ranked 111 = .ok (.iconst (-1), 1) := by decide +kernel
theorem dX5_ranked_112 : decode cX5_ranked 112 = .ok (.ireturn, 1) := by decide +kernel
set_option maxRecDepth 20000 in
theorem ggX5_hasWaiting_X5_isWaiting : GoodIn wsX5_hasWaiting wsX5_isWaiting := goodIn_r _ [5, 6, 7, 8, 4, 9, 10, 11, 12, 13, 14, 15, 16, 17, 18, 19, 20, 21, 22, 23, 24, 25, 26] (by decide +kernel) (by decide +kernel)
set_option maxRecDepth 20000 in
theorem gX5_hasWaiting_X5_isWaiting : GoodIn wsX5_hasWaiting (wsV RX5 85 RX5 yX5_isWaiting wsX5_isWaiting) := goodIn_app (goodIn_of _ (by decide +kernel)) ggX5_hasWaiting_X5_isWaiting
theorem dX5_hasWaiting_0 : decode cX5_hasWaiting 0 = .ok (.iload_n 2, 1) := by decide +kernel
theorem dX5_hasWaiting_1 : decode cX5_hasWaiting 1 = .ok (.istore_n 3, 1) := by decide +kernel
theorem dX5_hasWaiting_2 : decode cX5_hasWaiting 2 = .ok (.iload_n 3, 1) := by decide +kernel
theorem dX5_hasWaiting_3 : decode cX5_hasWaiting 3 = .ok (.iload_n 2, 1) := by decide +kernel
theorem dX5_hasWaiting_4 : decode cX5_hasWaiting 4 = .ok (.iconst 1, 1) := by decide +kernel
theorem dX5_hasWaiting_5 : decode cX5_hasWaiting 5 = .ok (.iload_n 1, 1) := by decide +kernel
theorem dX5_hasWaiting_6 : decode cX5_hasWaiting 6 = .ok (.ishl, 1) := by decide +kernel
theorem dX5_hasWaiting_7 : decode cX5_hasWaiting 7 = .ok (.iadd, 1) := by decide +kernel
theorem dX5_hasWaiting_8 : decode cX5_hasWaiting 8 = .ok (.if_icmp .ge 19, 3) := by decide +kernel
theorem dX5_hasWaiting_11 : decode cX5_hasWaiting 11 = .ok (.aload_n 0, 1) := by decide +kernel
theorem dX5_hasWaiting_12 : decode cX5_hasWaiting 12 = .ok (.iload_n 3, 1) := by decide +kernel
theorem dX5_hasWaiting_13 : decode cX5_hasWaiting 13 = .ok (.invokevirtual 85, 3) := by decide +kernel
theorem dX5_hasWaiting_16 : decode cX5_hasWaiting 16 = .ok (.ifCond .eq 5, 3) := by decide +kernel
theorem dX5_hasWaiting_19 : decode cX5_hasWaiting 19 = .ok (.iconst 1, 1) := by decide +kernel
theorem dX5_hasWaiting_20 : decode cX5_hasWaiting 20 = .ok (.ireturn, 1) := by decide +kernel
theorem dX5_hasWaiting_21 : decode cX5_hasWaiting 21 = .ok (.iinc 3 1, 3) := by decide +kernel
theorem dX5_hasWaiting_24 : decode cX5_hasWaiting 24 = .ok (.goto (-22), 3) := by decide +kernel
theorem dX5_hasWaiting_27 : decode cX5_hasWaiting 27 = .ok (.iconst 0, 1) := by decide +kernel
theorem dX5_hasWaiting_28 : decode cX5_hasWaiting 28 = .ok (.ireturn, 1) := by decide +kernel
set_option maxRecDepth 20000 in
theorem ggX5_gap_X5_cellsOn : GoodIn wsX5_gap wsX5_cellsOn := goodIn_r _ [6, 7, 8, 9, 10, 11, 12, 13, 5, 14, 15, 16, 17, 18, 19, 20, 48, 49, 50, 51, 52, 53, 54, 55, 56, 57, 58, 59, 60, 61, 62] (by decide +kernel) (by decide +kernel)
set_option maxRecDepth 20000 in
theorem gX5_gap_X5_cellsOn : GoodIn wsX5_gap (wsV RX5 63 RX5 yX5_cellsOn wsX5_cellsOn) := goodIn_app (goodIn_of _ (by decide +kernel)) ggX5_gap_X5_cellsOn
set_option maxRecDepth 20000 in
theorem ggX5_gap_X5_hasWaiting : GoodIn wsX5_gap wsX5_hasWaiting := goodIn_r _ [24, 25, 26, 27, 5, 28, 15, 16, 17, 18, 19, 20, 48, 49, 50, 51, 52, 53, 54, 55, 56, 57, 58, 59, 60, 61, 62] (by decide +kernel) (by decide +kernel)
set_option maxRecDepth 20000 in
theorem gX5_gap_X5_hasWaiting : GoodIn wsX5_gap (wsV RX5 271 RX5 yX5_hasWaiting wsX5_hasWaiting) := goodIn_app (goodIn_of _ (by decide +kernel)) ggX5_gap_X5_hasWaiting
set_option maxRecDepth 20000 in
theorem ggX5_gap_X5_cellAt : GoodIn wsX5_gap wsX5_cellAt := goodIn_r _ [31] (by decide +kernel) (by decide +kernel)
set_option maxRecDepth 20000 in
theorem gX5_gap_X5_cellAt : GoodIn wsX5_gap (va_wsS RX5 66 yX5_cellAt wsX5_cellAt) := goodIn_app (goodIn_of _ (by decide +kernel)) ggX5_gap_X5_cellAt
set_option maxRecDepth 20000 in
theorem ggX5_gap_X5_get : GoodIn wsX5_gap wsX5_get := goodIn_r _ [18, 19, 20, 48, 49, 50, 51, 52, 53, 54, 55, 56, 57, 58, 59, 60, 61, 62] (by decide +kernel) (by decide +kernel)
set_option maxRecDepth 20000 in
theorem gX5_gap_X5_get : GoodIn wsX5_gap (wsV RX5 43 RX5 yX5_get wsX5_get) := goodIn_app (goodIn_of _ (by decide +kernel)) ggX5_gap_X5_get
set_option maxRecDepth 20000 in
theorem ggX5_gap_X5_leastIn : GoodIn wsX5_gap wsX5_leastIn := goodIn_r _ [35, 36, 37, 38, 5, 39, 15, 16, 17, 18, 19, 20, 48, 49, 50, 51, 52, 53, 54, 55, 56, 57, 58, 59, 60, 61, 62] (by decide +kernel) (by decide +kernel)
set_option maxRecDepth 20000 in
theorem gX5_gap_X5_leastIn : GoodIn wsX5_gap (wsV RX5 69 RX5 yX5_leastIn wsX5_leastIn) := goodIn_app (goodIn_of _ (by decide +kernel)) ggX5_gap_X5_leastIn
set_option maxRecDepth 20000 in
theorem ggX5_gap_X5_keptFrom : GoodIn wsX5_gap wsX5_keptFrom := goodIn_r _ [43, 15, 16, 17, 5, 18, 19, 20, 48, 49, 50, 51, 52, 53, 54, 55, 56, 57, 58, 59, 60, 61, 62] (by decide +kernel) (by decide +kernel)
set_option maxRecDepth 20000 in
theorem gX5_gap_X5_keptFrom : GoodIn wsX5_gap (wsV RX5 107 RX5 yX5_keptFrom wsX5_keptFrom) := goodIn_app (goodIn_of _ (by decide +kernel)) ggX5_gap_X5_keptFrom
set_option maxRecDepth 20000 in
theorem ggX5_gap_X5_keptTo : GoodIn wsX5_gap wsX5_keptTo := goodIn_r _ [47, 15, 16, 17, 5, 18, 19, 20, 48, 49, 50, 51, 52, 53, 54, 55, 56, 57, 58, 59, 60, 61, 62] (by decide +kernel) (by decide +kernel)
set_option maxRecDepth 20000 in
theorem gX5_gap_X5_keptTo : GoodIn wsX5_gap (wsV RX5 104 RX5 yX5_keptTo wsX5_keptTo) := goodIn_app (goodIn_of _ (by decide +kernel)) ggX5_gap_X5_keptTo
set_option maxRecDepth 20000 in
theorem ggX5_gap_X5_size : GoodIn wsX5_gap wsX5_size := goodIn_r _ [14, 15, 16, 17, 5, 18, 19, 20, 48, 49, 50, 51, 52, 53, 54, 55, 56, 57, 58, 59, 60, 61, 62] (by decide +kernel) (by decide +kernel)
set_option maxRecDepth 20000 in
theorem gX5_gap_X5_size : GoodIn wsX5_gap (wsV RX5 50 RX5 yX5_size wsX5_size) := goodIn_app (goodIn_of _ (by decide +kernel)) ggX5_gap_X5_size
theorem dX5_gap_0 : decode cX5_gap 0 = .ok (.aload_n 0, 1) := by decide +kernel
theorem dX5_gap_1 : decode cX5_gap 1 = .ok (.iconst 0, 1) := by decide +kernel
theorem dX5_gap_2 : decode cX5_gap 2 = .ok (.putfield 37, 3) := by decide +kernel
theorem dX5_gap_5 : decode cX5_gap 5 = .ok (.iconst 0, 1) := by decide +kernel
theorem dX5_gap_6 : decode cX5_gap 6 = .ok (.istore_n 1, 1) := by decide +kernel
theorem dX5_gap_7 : decode cX5_gap 7 = .ok (.iconst 1, 1) := by decide +kernel
theorem dX5_gap_8 : decode cX5_gap 8 = .ok (.istore_n 2, 1) := by decide +kernel
theorem dX5_gap_9 : decode cX5_gap 9 = .ok (.iload_n 2, 1) := by decide +kernel
theorem dX5_gap_10 : decode cX5_gap 10 = .ok (.iconst 5, 1) := by decide +kernel
theorem dX5_gap_11 : decode cX5_gap 11 = .ok (.if_icmp .gt 67, 3) := by decide +kernel
theorem dX5_gap_14 : decode cX5_gap 14 = .ok (.iconst 0, 1) := by decide +kernel
theorem dX5_gap_15 : decode cX5_gap 15 = .ok (.istore_n 3, 1) := by decide +kernel
theorem dX5_gap_16 : decode cX5_gap 16 = .ok (.iload_n 3, 1) := by decide +kernel
theorem dX5_gap_17 : decode cX5_gap 17 = .ok (.aload_n 0, 1) := by decide +kernel
theorem dX5_gap_18 : decode cX5_gap 18 = .ok (.iload_n 2, 1) := by decide +kernel
theorem dX5_gap_19 : decode cX5_gap 19 = .ok (.invokevirtual 63, 3) := by decide +kernel
theorem dX5_gap_22 : decode cX5_gap 22 = .ok (.if_icmp .ge 50, 3) := by decide +kernel
theorem dX5_gap_25 : decode cX5_gap 25 = .ok (.iload_n 1, 1) := by decide +kernel
theorem dX5_gap_26 : decode cX5_gap 26 = .ok (.aload_n 0, 1) := by decide +kernel
theorem dX5_gap_27 : decode cX5_gap 27 = .ok (.iload_n 2, 1) := by decide +kernel
theorem dX5_gap_28 : decode cX5_gap 28 = .ok (.iload_n 3, 1) := by decide +kernel
theorem dX5_gap_29 : decode cX5_gap 29 = .ok (.invokevirtual 271, 3) := by decide +kernel
theorem dX5_gap_32 : decode cX5_gap 32 = .ok (.ifCond .ne 31, 3) := by decide +kernel
theorem dX5_gap_35 : decode cX5_gap 35 = .ok (.aload_n 0, 1) := by decide +kernel
theorem dX5_gap_36 : decode cX5_gap 36 = .ok (.iload_n 2, 1) := by decide +kernel
theorem dX5_gap_37 : decode cX5_gap 37 = .ok (.iload_n 3, 1) := by decide +kernel
theorem dX5_gap_38 : decode cX5_gap 38 = .ok (.invokestatic 66, 3) := by decide +kernel
theorem dX5_gap_41 : decode cX5_gap 41 = .ok (.invokevirtual 43, 3) := by decide +kernel
theorem dX5_gap_44 : decode cX5_gap 44 = .ok (.aload_n 0, 1) := by decide +kernel
theorem dX5_gap_45 : decode cX5_gap 45 = .ok (.iload_n 3, 1) := by decide +kernel
theorem dX5_gap_46 : decode cX5_gap 46 = .ok (.iload_n 3, 1) := by decide +kernel
theorem dX5_gap_47 : decode cX5_gap 47 = .ok (.iconst 1, 1) := by decide +kernel
theorem dX5_gap_48 : decode cX5_gap 48 = .ok (.iload_n 2, 1) := by decide +kernel
theorem dX5_gap_49 : decode cX5_gap 49 = .ok (.ishl, 1) := by decide +kernel
theorem dX5_gap_50 : decode cX5_gap 50 = .ok (.iadd, 1) := by decide +kernel
theorem dX5_gap_51 : decode cX5_gap 51 = .ok (.iconst 1, 1) := by decide +kernel
theorem dX5_gap_52 : decode cX5_gap 52 = .ok (.isub, 1) := by decide +kernel
theorem dX5_gap_53 : decode cX5_gap 53 = .ok (.invokevirtual 69, 3) := by decide +kernel
theorem dX5_gap_56 : decode cX5_gap 56 = .ok (.if_icmp .eq 7, 3) := by decide +kernel
theorem dX5_gap_59 : decode cX5_gap 59 = .ok (.iconst 1, 1) := by decide +kernel
theorem dX5_gap_60 : decode cX5_gap 60 = .ok (.goto 4, 3) := by decide +kernel
theorem dX5_gap_63 : decode cX5_gap 63 = .ok (.iconst 0, 1) := by decide +kernel
theorem dX5_gap_64 : decode cX5_gap 64 = .ok (.iadd, 1) := by decide +kernel
theorem dX5_gap_65 : decode cX5_gap 65 = .ok (.istore_n 1, 1) := by decide +kernel
theorem dX5_gap_66 : decode cX5_gap 66 = .ok (.iinc 3 1, 3) := by decide +kernel
theorem dX5_gap_69 : decode cX5_gap 69 = .ok (.goto (-53), 3) := by decide +kernel
theorem dX5_gap_72 : decode cX5_gap 72 = .ok (.iinc 2 1, 3) := by decide +kernel
theorem dX5_gap_75 : decode cX5_gap 75 = .ok (.goto (-66), 3) := by decide +kernel
theorem dX5_gap_78 : decode cX5_gap 78 = .ok (.iconst 0, 1) := by decide +kernel
theorem dX5_gap_79 : decode cX5_gap 79 = .ok (.istore_n 2, 1) := by decide +kernel
theorem dX5_gap_80 : decode cX5_gap 80 = .ok (.iload_n 2, 1) := by decide +kernel
theorem dX5_gap_81 : decode cX5_gap 81 = .ok (.aload_n 0, 1) := by decide +kernel
theorem dX5_gap_82 : decode cX5_gap 82 = .ok (.bipush 6, 2) := by decide +kernel
theorem dX5_gap_84 : decode cX5_gap 84 = .ok (.invokevirtual 43, 3) := by decide +kernel
theorem dX5_gap_87 : decode cX5_gap 87 = .ok (.if_icmp .ge 50, 3) := by decide +kernel
theorem dX5_gap_90 : decode cX5_gap 90 = .ok (.iload_n 1, 1) := by decide +kernel
theorem dX5_gap_91 : decode cX5_gap 91 = .ok (.aload_n 0, 1) := by decide +kernel
theorem dX5_gap_92 : decode cX5_gap 92 = .ok (.iload_n 2, 1) := by decide +kernel
theorem dX5_gap_93 : decode cX5_gap 93 = .ok (.invokevirtual 107, 3) := by decide +kernel
theorem dX5_gap_96 : decode cX5_gap 96 = .ok (.ifCond .lt 28, 3) := by decide +kernel
theorem dX5_gap_99 : decode cX5_gap 99 = .ok (.aload_n 0, 1) := by decide +kernel
theorem dX5_gap_100 : decode cX5_gap 100 = .ok (.iload_n 2, 1) := by decide +kernel
theorem dX5_gap_101 : decode cX5_gap 101 = .ok (.invokevirtual 104, 3) := by decide +kernel
theorem dX5_gap_104 : decode cX5_gap 104 = .ok (.aload_n 0, 1) := by decide +kernel
theorem dX5_gap_105 : decode cX5_gap 105 = .ok (.invokevirtual 50, 3) := by decide +kernel
theorem dX5_gap_108 : decode cX5_gap 108 = .ok (.if_icmp .ge 16, 3) := by decide +kernel
theorem dX5_gap_111 : decode cX5_gap 111 = .ok (.aload_n 0, 1) := by decide +kernel
theorem dX5_gap_112 : decode cX5_gap 112 = .ok (.iload_n 2, 1) := by decide +kernel
theorem dX5_gap_113 : decode cX5_gap 113 = .ok (.invokevirtual 107, 3) := by decide +kernel
theorem dX5_gap_116 : decode cX5_gap 116 = .ok (.aload_n 0, 1) := by decide +kernel
theorem dX5_gap_117 : decode cX5_gap 117 = .ok (.iload_n 2, 1) := by decide +kernel
theorem dX5_gap_118 : decode cX5_gap 118 = .ok (.invokevirtual 104, 3) := by decide +kernel
theorem dX5_gap_121 : decode cX5_gap 121 = .ok (.if_icmp .le 7, 3) := by decide +kernel
theorem dX5_gap_124 : decode cX5_gap 124 = .ok (.iconst 1, 1) := by decide +kernel
theorem dX5_gap_125 : decode cX5_gap 125 = .ok (.goto 4, 3) := by decide +kernel
theorem dX5_gap_128 : decode cX5_gap 128 = .ok (.iconst 0, 1) := by decide +kernel
theorem dX5_gap_129 : decode cX5_gap 129 = .ok (.iadd, 1) := by decide +kernel
theorem dX5_gap_130 : decode cX5_gap 130 = .ok (.istore_n 1, 1) := by decide +kernel
theorem dX5_gap_131 : decode cX5_gap 131 = .ok (.iinc 2 1, 3) := by decide +kernel
theorem dX5_gap_134 : decode cX5_gap 134 = .ok (.goto (-54), 3) := by decide +kernel
theorem dX5_gap_137 : decode cX5_gap 137 = .ok (.iload_n 1, 1) := by decide +kernel
theorem dX5_gap_138 : decode cX5_gap 138 = .ok (.ireturn, 1) := by decide +kernel
set_option maxRecDepth 20000 in
theorem ggX5_costOfOne_X5_get : GoodIn wsX5_costOfOne wsX5_get := goodIn_r _ [6, 7, 8, 9, 10, 11, 12, 13, 14, 15, 16, 17, 18, 19, 20, 21, 22, 23] (by decide +kernel) (by decide +kernel)
set_option maxRecDepth 20000 in
theorem gX5_costOfOne_X5_get : GoodIn wsX5_costOfOne (wsV RX5 43 RX5 yX5_get wsX5_get) := goodIn_app (goodIn_of _ (by decide +kernel)) ggX5_costOfOne_X5_get
theorem dX5_costOfOne_0 : decode cX5_costOfOne 0 = .ok (.aload_n 0, 1) := by decide +kernel
theorem dX5_costOfOne_1 : decode cX5_costOfOne 1 = .ok (.iconst 0, 1) := by decide +kernel
theorem dX5_costOfOne_2 : decode cX5_costOfOne 2 = .ok (.putfield 37, 3) := by decide +kernel
theorem dX5_costOfOne_5 : decode cX5_costOfOne 5 = .ok (.aload_n 0, 1) := by decide +kernel
theorem dX5_costOfOne_6 : decode cX5_costOfOne 6 = .ok (.bipush 9, 2) := by decide +kernel
theorem dX5_costOfOne_8 : decode cX5_costOfOne 8 = .ok (.invokevirtual 43, 3) := by decide +kernel
theorem dX5_costOfOne_11 : decode cX5_costOfOne 11 = .ok (.ifCond .ne 7, 3) := by decide +kernel
theorem dX5_costOfOne_14 : decode cX5_costOfOne 14 = .ok (.fconst 0, 1) := by decide +kernel
theorem dX5_costOfOne_15 : decode cX5_costOfOne 15 = .ok (.goto 25, 3) := by decide +kernel
theorem dX5_costOfOne_18 : decode cX5_costOfOne 18 = .ok (.aload_n 0, 1) := by decide +kernel
theorem dX5_costOfOne_19 : decode cX5_costOfOne 19 = .ok (.bipush 7, 2) := by decide +kernel
theorem dX5_costOfOne_21 : decode cX5_costOfOne 21 = .ok (.invokevirtual 43, 3) := by decide +kernel
theorem dX5_costOfOne_24 : decode cX5_costOfOne 24 = .ok (.aload_n 0, 1) := by decide +kernel
theorem dX5_costOfOne_25 : decode cX5_costOfOne 25 = .ok (.bipush 8, 2) := by decide +kernel
theorem dX5_costOfOne_27 : decode cX5_costOfOne 27 = .ok (.invokevirtual 43, 3) := by decide +kernel
theorem dX5_costOfOne_30 : decode cX5_costOfOne 30 = .ok (.iadd, 1) := by decide +kernel
theorem dX5_costOfOne_31 : decode cX5_costOfOne 31 = .ok (.i2f, 1) := by decide +kernel
theorem dX5_costOfOne_32 : decode cX5_costOfOne 32 = .ok (.aload_n 0, 1) := by decide +kernel
theorem dX5_costOfOne_33 : decode cX5_costOfOne 33 = .ok (.bipush 9, 2) := by decide +kernel
theorem dX5_costOfOne_35 : decode cX5_costOfOne 35 = .ok (.invokevirtual 43, 3) := by decide +kernel
theorem dX5_costOfOne_38 : decode cX5_costOfOne 38 = .ok (.i2f, 1) := by decide +kernel
theorem dX5_costOfOne_39 : decode cX5_costOfOne 39 = .ok (.fdiv, 1) := by decide +kernel
theorem dX5_costOfOne_40 : decode cX5_costOfOne 40 = .ok (.freturn, 1) := by decide +kernel
set_option maxRecDepth 20000 in
theorem ggX5_isValue_X5_isIn : GoodIn wsX5_isValue wsX5_isIn := goodIn_r _ [4] (by decide +kernel) (by decide +kernel)
set_option maxRecDepth 20000 in
theorem gX5_isValue_X5_isIn : GoodIn wsX5_isValue (va_wsS RX5 157 yX5_isIn wsX5_isIn) := goodIn_app (goodIn_of _ (by decide +kernel)) ggX5_isValue_X5_isIn
theorem dX5_isValue_0 : decode cX5_isValue 0 = .ok (.iload_n 0, 1) := by decide +kernel
theorem dX5_isValue_1 : decode cX5_isValue 1 = .ok (.sipush (-999), 3) := by decide +kernel
theorem dX5_isValue_4 : decode cX5_isValue 4 = .ok (.sipush 999, 3) := by decide +kernel
theorem dX5_isValue_7 : decode cX5_isValue 7 = .ok (.invokestatic 157, 3) := by decide +kernel
theorem dX5_isValue_10 : decode cX5_isValue 10 = .ok (.ireturn, 1) := by decide +kernel
set_option maxRecDepth 20000 in
theorem ggX5_set_X5_isPlace : GoodIn wsX5_set wsX5_isPlace := goodIn_r _ [6, 7, 8, 9, 5, 10, 11, 12, 13, 14, 15, 16, 17, 18, 19, 79, 80, 81, 82, 83, 84, 85, 86, 87, 88, 89, 90, 91, 92, 93] (by decide +kernel) (by decide +kernel)
set_option maxRecDepth 20000 in
theorem gX5_set_X5_isPlace : GoodIn wsX5_set (wsV RX5 241 RX5 yX5_isPlace wsX5_isPlace) := goodIn_app (goodIn_of _ (by decide +kernel)) ggX5_set_X5_isPlace
set_option maxRecDepth 20000 in
theorem ggX5_set_X5_right : GoodIn wsX5_set wsX5_right := goodIn_r _ [23, 1, 79, 80, 81, 82, 83, 84, 85, 86, 87, 88, 89, 90, 91, 92, 93] (by decide +kernel) (by decide +kernel)
set_option maxRecDepth 20000 in
theorem gX5_set_X5_right : GoodIn wsX5_set (wsV RX5 228 RX5 yX5_right wsX5_right) := goodIn_app (goodIn_of _ (by decide +kernel)) ggX5_set_X5_right
set_option maxRecDepth 20000 in
theorem ggX5_set_X5_isValue : GoodIn wsX5_set wsX5_isValue := goodIn_r _ [26, 17, 18, 5, 19] (by decide +kernel) (by decide +kernel)
set_option maxRecDepth 20000 in
theorem gX5_set_X5_isValue : GoodIn wsX5_set (va_wsS RX5 274 yX5_isValue wsX5_isValue) := goodIn_app (goodIn_of _ (by decide +kernel)) ggX5_set_X5_isValue
set_option maxRecDepth 20000 in
theorem ggX5_set_X5_change : GoodIn wsX5_set wsX5_change := goodIn_r _ [30, 16, 15, 31, 11, 12, 13, 5, 14, 79, 80, 81, 82, 83, 84, 85, 86, 87, 88, 89, 90, 91, 92, 93] (by decide +kernel) (by decide +kernel)
set_option maxRecDepth 20000 in
theorem gX5_set_X5_change : GoodIn wsX5_set (wsV RX5 277 RX5 yX5_change wsX5_change) := goodIn_app (goodIn_of _ (by decide +kernel)) ggX5_set_X5_change
set_option maxRecDepth 20000 in
theorem ggX5_set_X5_sets : GoodIn wsX5_set wsX5_sets := goodIn_r _ [35, 36, 37, 38, 5, 39, 11, 12, 13, 14, 15, 16, 40, 41, 42, 43, 44, 45, 46, 47, 48, 49, 50, 51, 7, 8, 9, 10, 52, 53, 54, 55, 56, 57, 58, 59, 60, 61, 62, 63, 64, 65, 66, 67, 68, 69, 70, 71, 72, 73, 74, 75, 76, 77, 78, 79, 80, 81, 82, 83, 84, 85, 86, 87, 88, 89, 90, 91, 92, 93] (by decide +kernel) (by decide +kernel)
set_option maxRecDepth 20000 in
theorem gX5_set_X5_sets : GoodIn wsX5_set (wsV RX5 173 RX5 yX5_sets wsX5_sets) := goodIn_app (goodIn_of _ (by decide +kernel)) ggX5_set_X5_sets
theorem dX5_set_0 : decode cX5_set 0 = .ok (.aload_n 0, 1) := by decide +kernel
theorem dX5_set_1 : decode cX5_set 1 = .ok (.iconst 0, 1) := by decide +kernel
theorem dX5_set_2 : decode cX5_set 2 = .ok (.putfield 37, 3) := by decide +kernel
theorem dX5_set_5 : decode cX5_set 5 = .ok (.aload_n 0, 1) := by decide +kernel
theorem dX5_set_6 : decode cX5_set 6 = .ok (.aload_n 0, 1) := by decide +kernel
theorem dX5_set_7 : decode cX5_set 7 = .ok (.iload_n 1, 1) := by decide +kernel
theorem dX5_set_8 : decode cX5_set 8 = .ok (.invokevirtual 241, 3) := by decide +kernel
theorem dX5_set_11 : decode cX5_set 11 = .ok (.iconst 1, 1) := by decide +kernel
theorem dX5_set_12 : decode cX5_set 12 = .ok (.invokevirtual 228, 3) := by decide +kernel
theorem dX5_set_15 : decode cX5_set 15 = .ok (.ifCond .eq 15, 3) := by decide +kernel
theorem dX5_set_18 : decode cX5_set 18 = .ok (.aload_n 0, 1) := by decide +kernel
theorem dX5_set_19 : decode cX5_set 19 = .ok (.iload_n 2, 1) := by decide +kernel
theorem dX5_set_20 : decode cX5_set 20 = .ok (.invokestatic 274, 3) := by decide +kernel
theorem dX5_set_23 : decode cX5_set 23 = .ok (.iconst 2, 1) := by decide +kernel
theorem dX5_set_24 : decode cX5_set 24 = .ok (.invokevirtual 228, 3) := by decide +kernel
theorem dX5_set_27 : decode cX5_set 27 = .ok (.ifCond .ne 5, 3) := by decide +kernel
theorem dX5_set_30 : decode cX5_set 30 = .ok (.iconst 0, 1) := by decide +kernel
theorem dX5_set_31 : decode cX5_set 31 = .ok (.ireturn, 1) := by decide +kernel
theorem dX5_set_32 : decode cX5_set 32 = .ok (.aload_n 0, 1) := by decide +kernel
theorem dX5_set_33 : decode cX5_set 33 = .ok (.invokevirtual 277, 3) := by decide +kernel
theorem dX5_set_36 : decode cX5_set 36 = .ok (.aload_n 0, 1) := by decide +kernel
theorem dX5_set_37 : decode cX5_set 37 = .ok (.iload_n 1, 1) := by decide +kernel
theorem dX5_set_38 : decode cX5_set 38 = .ok (.iload_n 2, 1) := by decide +kernel
theorem dX5_set_39 : decode cX5_set 39 = .ok (.invokevirtual 173, 3) := by decide +kernel
theorem dX5_set_42 : decode cX5_set 42 = .ok (.ireturn, 1) := by decide +kernel
set_option maxRecDepth 20000 in
theorem ggX5_ask_X5_isStretch : GoodIn wsX5_ask wsX5_isStretch := goodIn_r _ [6, 7, 8, 9, 5, 10, 11, 12, 13, 14, 15, 16, 17, 18, 19, 20, 21, 22, 23, 24, 25, 26, 27, 1, 100, 101, 102, 103, 104, 105, 106, 107, 108, 109, 110, 111, 112, 113, 114] (by decide +kernel) (by decide +kernel)
set_option maxRecDepth 20000 in
theorem gX5_ask_X5_isStretch : GoodIn wsX5_ask (wsV RX5 247 RX5 yX5_isStretch wsX5_isStretch) := goodIn_app (goodIn_of _ (by decide +kernel)) ggX5_ask_X5_isStretch
set_option maxRecDepth 20000 in
theorem ggX5_ask_X5_change : GoodIn wsX5_ask wsX5_change := goodIn_r _ [31, 20, 19, 32, 15, 16, 17, 5, 18, 100, 101, 102, 103, 104, 105, 106, 107, 108, 109, 110, 111, 112, 113, 114] (by decide +kernel) (by decide +kernel)
set_option maxRecDepth 20000 in
theorem gX5_ask_X5_change : GoodIn wsX5_ask (wsV RX5 277 RX5 yX5_change wsX5_change) := goodIn_app (goodIn_of _ (by decide +kernel)) ggX5_ask_X5_change
set_option maxRecDepth 20000 in
theorem ggX5_ask_X5_asks : GoodIn wsX5_ask wsX5_asks := goodIn_r _ [36, 15, 16, 17, 5, 18, 19, 20, 37, 38, 39, 40, 11, 12, 13, 14, 41, 42, 43, 44, 45, 46, 47, 48, 49, 50, 51, 52, 53, 54, 55, 56, 57, 58, 59, 60, 61, 62, 63, 64, 65, 66, 67, 68, 69, 70, 71, 72, 73, 74, 75, 76, 77, 78, 79, 80, 81, 82, 83, 84, 85, 86, 87, 88, 89, 90, 91, 92, 93, 94, 95, 96, 97, 98, 99, 100, 101, 102, 103, 104, 105, 106, 107, 108, 109, 110, 111, 112, 113, 114] (by decide +kernel) (by decide +kernel)
set_option maxRecDepth 20000 in
theorem gX5_ask_X5_asks : GoodIn wsX5_ask (wsV RX5 176 RX5 yX5_asks wsX5_asks) := goodIn_app (goodIn_of _ (by decide +kernel)) ggX5_ask_X5_asks
theorem dX5_ask_0 : decode cX5_ask 0 = .ok (.aload_n 0, 1) := by decide +kernel
theorem dX5_ask_1 : decode cX5_ask 1 = .ok (.iconst 0, 1) := by decide +kernel
theorem dX5_ask_2 : decode cX5_ask 2 = .ok (.putfield 37, 3) := by decide +kernel
theorem dX5_ask_5 : decode cX5_ask 5 = .ok (.aload_n 0, 1) := by decide +kernel
theorem dX5_ask_6 : decode cX5_ask 6 = .ok (.iload_n 1, 1) := by decide +kernel
theorem dX5_ask_7 : decode cX5_ask 7 = .ok (.iload_n 2, 1) := by decide +kernel
theorem dX5_ask_8 : decode cX5_ask 8 = .ok (.invokevirtual 247, 3) := by decide +kernel
theorem dX5_ask_11 : decode cX5_ask 11 = .ok (.ifCond .ne 5, 3) := by decide +kernel
theorem dX5_ask_14 : decode cX5_ask 14 = .ok (.iconst 0, 1) := by decide +kernel
theorem dX5_ask_15 : decode cX5_ask 15 = .ok (.ireturn, 1) := by decide +kernel
theorem dX5_ask_16 : decode cX5_ask 16 = .ok (.aload_n 0, 1) := by decide +kernel
theorem dX5_ask_17 : decode cX5_ask 17 = .ok (.invokevirtual 277, 3) := by decide +kernel
theorem dX5_ask_20 : decode cX5_ask 20 = .ok (.aload_n 0, 1) := by decide +kernel
theorem dX5_ask_21 : decode cX5_ask 21 = .ok (.iload_n 1, 1) := by decide +kernel
theorem dX5_ask_22 : decode cX5_ask 22 = .ok (.iload_n 2, 1) := by decide +kernel
theorem dX5_ask_23 : decode cX5_ask 23 = .ok (.invokevirtual 176, 3) := by decide +kernel
theorem dX5_ask_26 : decode cX5_ask 26 = .ok (.ireturn, 1) := by decide +kernel
set_option maxRecDepth 20000 in
theorem ggX5_keep_X5_isStretch : GoodIn wsX5_keep wsX5_isStretch := goodIn_r _ [6, 7, 8, 9, 5, 10, 11, 12, 13, 14, 15, 16, 17, 18, 19, 20, 21, 22, 23, 24, 25, 26, 27, 1, 45, 46, 47, 48, 49, 50, 51, 52, 53, 54, 55, 56, 57, 58, 59] (by decide +kernel) (by decide +kernel)
set_option maxRecDepth 20000 in
theorem gX5_keep_X5_isStretch : GoodIn wsX5_keep (wsV RX5 247 RX5 yX5_isStretch wsX5_isStretch) := goodIn_app (goodIn_of _ (by decide +kernel)) ggX5_keep_X5_isStretch
set_option maxRecDepth 20000 in
theorem ggX5_keep_X5_get : GoodIn wsX5_keep wsX5_get := goodIn_r _ [18, 19, 20, 45, 46, 47, 48, 49, 50, 51, 52, 53, 54, 55, 56, 57, 58, 59] (by decide +kernel) (by decide +kernel)
set_option maxRecDepth 20000 in
theorem gX5_keep_X5_get : GoodIn wsX5_keep (wsV RX5 43 RX5 yX5_get wsX5_get) := goodIn_app (goodIn_of _ (by decide +kernel)) ggX5_keep_X5_get
set_option maxRecDepth 20000 in
theorem ggX5_keep_X5_right : GoodIn wsX5_keep wsX5_right := goodIn_r _ [27, 1, 45, 46, 47, 48, 49, 50, 51, 52, 53, 54, 55, 56, 57, 58, 59] (by decide +kernel) (by decide +kernel)
set_option maxRecDepth 20000 in
theorem gX5_keep_X5_right : GoodIn wsX5_keep (wsV RX5 228 RX5 yX5_right wsX5_right) := goodIn_app (goodIn_of _ (by decide +kernel)) ggX5_keep_X5_right
set_option maxRecDepth 20000 in
theorem ggX5_keep_X5_change : GoodIn wsX5_keep wsX5_change := goodIn_r _ [31, 20, 19, 32, 15, 16, 17, 5, 18, 45, 46, 47, 48, 49, 50, 51, 52, 53, 54, 55, 56, 57, 58, 59] (by decide +kernel) (by decide +kernel)
set_option maxRecDepth 20000 in
theorem gX5_keep_X5_change : GoodIn wsX5_keep (wsV RX5 277 RX5 yX5_change wsX5_change) := goodIn_app (goodIn_of _ (by decide +kernel)) ggX5_keep_X5_change
set_option maxRecDepth 20000 in
theorem ggX5_keep_X5_keeps : GoodIn wsX5_keep wsX5_keeps := goodIn_r _ [36, 15, 16, 17, 5, 18, 19, 20, 37, 38, 39, 40, 41, 42, 43, 44, 45, 46, 47, 48, 49, 50, 51, 52, 53, 54, 55, 56, 57, 58, 59] (by decide +kernel) (by decide +kernel)
set_option maxRecDepth 20000 in
theorem gX5_keep_X5_keeps : GoodIn wsX5_keep (wsV RX5 179 RX5 yX5_keeps wsX5_keeps) := goodIn_app (goodIn_of _ (by decide +kernel)) ggX5_keep_X5_keeps
theorem dX5_keep_0 : decode cX5_keep 0 = .ok (.aload_n 0, 1) := by decide +kernel
theorem dX5_keep_1 : decode cX5_keep 1 = .ok (.iconst 0, 1) := by decide +kernel
theorem dX5_keep_2 : decode cX5_keep 2 = .ok (.putfield 37, 3) := by decide +kernel
theorem dX5_keep_5 : decode cX5_keep 5 = .ok (.aload_n 0, 1) := by decide +kernel
theorem dX5_keep_6 : decode cX5_keep 6 = .ok (.iload_n 1, 1) := by decide +kernel
theorem dX5_keep_7 : decode cX5_keep 7 = .ok (.iload_n 2, 1) := by decide +kernel
theorem dX5_keep_8 : decode cX5_keep 8 = .ok (.invokevirtual 247, 3) := by decide +kernel
theorem dX5_keep_11 : decode cX5_keep 11 = .ok (.ifCond .eq 27, 3) := by decide +kernel
theorem dX5_keep_14 : decode cX5_keep 14 = .ok (.aload_n 0, 1) := by decide +kernel
theorem dX5_keep_15 : decode cX5_keep 15 = .ok (.aload_n 0, 1) := by decide +kernel
theorem dX5_keep_16 : decode cX5_keep 16 = .ok (.bipush 6, 2) := by decide +kernel
theorem dX5_keep_18 : decode cX5_keep 18 = .ok (.invokevirtual 43, 3) := by decide +kernel
theorem dX5_keep_21 : decode cX5_keep 21 = .ok (.bipush 8, 2) := by decide +kernel
theorem dX5_keep_23 : decode cX5_keep 23 = .ok (.if_icmp .ge 7, 3) := by decide +kernel
theorem dX5_keep_26 : decode cX5_keep 26 = .ok (.iconst 1, 1) := by decide +kernel
theorem dX5_keep_27 : decode cX5_keep 27 = .ok (.goto 4, 3) := by decide +kernel
theorem dX5_keep_30 : decode cX5_keep 30 = .ok (.iconst 0, 1) := by decide +kernel
theorem dX5_keep_31 : decode cX5_keep 31 = .ok (.iconst 3, 1) := by decide +kernel
theorem dX5_keep_32 : decode cX5_keep 32 = .ok (.invokevirtual 228, 3) := by decide +kernel
theorem dX5_keep_35 : decode cX5_keep 35 = .ok (.ifCond .ne 5, 3) := by decide +kernel
theorem dX5_keep_38 : decode cX5_keep 38 = .ok (.iconst 0, 1) := by decide +kernel
theorem dX5_keep_39 : decode cX5_keep 39 = .ok (.ireturn, 1) := by decide +kernel
theorem dX5_keep_40 : decode cX5_keep 40 = .ok (.aload_n 0, 1) := by decide +kernel
theorem dX5_keep_41 : decode cX5_keep 41 = .ok (.invokevirtual 277, 3) := by decide +kernel
theorem dX5_keep_44 : decode cX5_keep 44 = .ok (.aload_n 0, 1) := by decide +kernel
theorem dX5_keep_45 : decode cX5_keep 45 = .ok (.iload_n 1, 1) := by decide +kernel
theorem dX5_keep_46 : decode cX5_keep 46 = .ok (.iload_n 2, 1) := by decide +kernel
theorem dX5_keep_47 : decode cX5_keep 47 = .ok (.invokevirtual 179, 3) := by decide +kernel
theorem dX5_keep_50 : decode cX5_keep 50 = .ok (.ireturn, 1) := by decide +kernel
set_option maxRecDepth 20000 in
theorem ggX5_forget_X5_isKept : GoodIn wsX5_forget wsX5_isKept := goodIn_r _ [6, 7, 8, 9, 5, 10, 11, 12, 13, 14, 15, 37, 38, 39, 40, 41, 42, 43, 44, 45, 46, 47, 48, 49, 50, 51] (by decide +kernel) (by decide +kernel)
set_option maxRecDepth 20000 in
theorem gX5_forget_X5_isKept : GoodIn wsX5_forget (wsV RX5 259 RX5 yX5_isKept wsX5_isKept) := goodIn_app (goodIn_of _ (by decide +kernel)) ggX5_forget_X5_isKept
set_option maxRecDepth 20000 in
theorem ggX5_forget_X5_right : GoodIn wsX5_forget wsX5_right := goodIn_r _ [19, 1, 37, 38, 39, 40, 41, 42, 43, 44, 45, 46, 47, 48, 49, 50, 51] (by decide +kernel) (by decide +kernel)
set_option maxRecDepth 20000 in
theorem gX5_forget_X5_right : GoodIn wsX5_forget (wsV RX5 228 RX5 yX5_right wsX5_right) := goodIn_app (goodIn_of _ (by decide +kernel)) ggX5_forget_X5_right
set_option maxRecDepth 20000 in
theorem ggX5_forget_X5_change : GoodIn wsX5_forget wsX5_change := goodIn_r _ [23, 12, 11, 24, 7, 8, 9, 5, 10, 37, 38, 39, 40, 41, 42, 43, 44, 45, 46, 47, 48, 49, 50, 51] (by decide +kernel) (by decide +kernel)
set_option maxRecDepth 20000 in
theorem gX5_forget_X5_change : GoodIn wsX5_forget (wsV RX5 277 RX5 yX5_change wsX5_change) := goodIn_app (goodIn_of _ (by decide +kernel)) ggX5_forget_X5_change
set_option maxRecDepth 20000 in
theorem ggX5_forget_X5_forgets : GoodIn wsX5_forget wsX5_forgets := goodIn_r _ [28, 7, 8, 9, 5, 10, 11, 12, 29, 30, 31, 32, 33, 34, 35, 36, 37, 38, 39, 40, 41, 42, 43, 44, 45, 46, 47, 48, 49, 50, 51] (by decide +kernel) (by decide +kernel)
set_option maxRecDepth 20000 in
theorem gX5_forget_X5_forgets : GoodIn wsX5_forget (wsV RX5 110 RX5 yX5_forgets wsX5_forgets) := goodIn_app (goodIn_of _ (by decide +kernel)) ggX5_forget_X5_forgets
theorem dX5_forget_0 : decode cX5_forget 0 = .ok (.aload_n 0, 1) := by decide +kernel
theorem dX5_forget_1 : decode cX5_forget 1 = .ok (.iconst 0, 1) := by decide +kernel
theorem dX5_forget_2 : decode cX5_forget 2 = .ok (.putfield 37, 3) := by decide +kernel
theorem dX5_forget_5 : decode cX5_forget 5 = .ok (.aload_n 0, 1) := by decide +kernel
theorem dX5_forget_6 : decode cX5_forget 6 = .ok (.aload_n 0, 1) := by decide +kernel
theorem dX5_forget_7 : decode cX5_forget 7 = .ok (.iload_n 1, 1) := by decide +kernel
theorem dX5_forget_8 : decode cX5_forget 8 = .ok (.invokevirtual 259, 3) := by decide +kernel
theorem dX5_forget_11 : decode cX5_forget 11 = .ok (.iconst 1, 1) := by decide +kernel
theorem dX5_forget_12 : decode cX5_forget 12 = .ok (.invokevirtual 228, 3) := by decide +kernel
theorem dX5_forget_15 : decode cX5_forget 15 = .ok (.ifCond .ne 5, 3) := by decide +kernel
theorem dX5_forget_18 : decode cX5_forget 18 = .ok (.iconst 0, 1) := by decide +kernel
theorem dX5_forget_19 : decode cX5_forget 19 = .ok (.ireturn, 1) := by decide +kernel
theorem dX5_forget_20 : decode cX5_forget 20 = .ok (.aload_n 0, 1) := by decide +kernel
theorem dX5_forget_21 : decode cX5_forget 21 = .ok (.invokevirtual 277, 3) := by decide +kernel
theorem dX5_forget_24 : decode cX5_forget 24 = .ok (.aload_n 0, 1) := by decide +kernel
theorem dX5_forget_25 : decode cX5_forget 25 = .ok (.iload_n 1, 1) := by decide +kernel
theorem dX5_forget_26 : decode cX5_forget 26 = .ok (.invokevirtual 110, 3) := by decide +kernel
theorem dX5_forget_29 : decode cX5_forget 29 = .ok (.ireturn, 1) := by decide +kernel
set_option maxRecDepth 20000 in
theorem ggX5_sweep_X5_isIn : GoodIn wsX5_sweep wsX5_isIn := goodIn_r _ [6] (by decide +kernel) (by decide +kernel)
set_option maxRecDepth 20000 in
theorem gX5_sweep_X5_isIn : GoodIn wsX5_sweep (va_wsS RX5 157 yX5_isIn wsX5_isIn) := goodIn_app (goodIn_of _ (by decide +kernel)) ggX5_sweep_X5_isIn
set_option maxRecDepth 20000 in
theorem ggX5_sweep_X5_right : GoodIn wsX5_sweep wsX5_right := goodIn_r _ [10, 1, 105, 106, 107, 108, 109, 110, 111, 112, 113, 114, 115, 116, 117, 118, 119] (by decide +kernel) (by decide +kernel)
set_option maxRecDepth 20000 in
theorem gX5_sweep_X5_right : GoodIn wsX5_sweep (wsV RX5 228 RX5 yX5_right wsX5_right) := goodIn_app (goodIn_of _ (by decide +kernel)) ggX5_sweep_X5_right
set_option maxRecDepth 20000 in
theorem ggX5_sweep_X5_change : GoodIn wsX5_sweep wsX5_change := goodIn_r _ [14, 15, 16, 17, 18, 19, 20, 5, 21, 105, 106, 107, 108, 109, 110, 111, 112, 113, 114, 115, 116, 117, 118, 119] (by decide +kernel) (by decide +kernel)
set_option maxRecDepth 20000 in
theorem gX5_sweep_X5_change : GoodIn wsX5_sweep (wsV RX5 277 RX5 yX5_change wsX5_change) := goodIn_app (goodIn_of _ (by decide +kernel)) ggX5_sweep_X5_change
set_option maxRecDepth 20000 in
theorem ggX5_sweep_X5_get : GoodIn wsX5_sweep wsX5_get := goodIn_r _ [21, 16, 15, 105, 106, 107, 108, 109, 110, 111, 112, 113, 114, 115, 116, 117, 118, 119] (by decide +kernel) (by decide +kernel)
set_option maxRecDepth 20000 in
theorem gX5_sweep_X5_get : GoodIn wsX5_sweep (wsV RX5 43 RX5 yX5_get wsX5_get) := goodIn_app (goodIn_of _ (by decide +kernel)) ggX5_sweep_X5_get
set_option maxRecDepth 20000 in
theorem ggX5_sweep_X5_keptFrom : GoodIn wsX5_sweep wsX5_keptFrom := goodIn_r _ [25, 18, 19, 20, 5, 21, 16, 15, 105, 106, 107, 108, 109, 110, 111, 112, 113, 114, 115, 116, 117, 118, 119] (by decide +kernel) (by decide +kernel)
set_option maxRecDepth 20000 in
theorem gX5_sweep_X5_keptFrom : GoodIn wsX5_sweep (wsV RX5 107 RX5 yX5_keptFrom wsX5_keptFrom) := goodIn_app (goodIn_of _ (by decide +kernel)) ggX5_sweep_X5_keptFrom
set_option maxRecDepth 20000 in
theorem ggX5_sweep_X5_keptTo : GoodIn wsX5_sweep wsX5_keptTo := goodIn_r _ [29, 18, 19, 20, 5, 21, 16, 15, 105, 106, 107, 108, 109, 110, 111, 112, 113, 114, 115, 116, 117, 118, 119] (by decide +kernel) (by decide +kernel)
set_option maxRecDepth 20000 in
theorem gX5_sweep_X5_keptTo : GoodIn wsX5_sweep (wsV RX5 104 RX5 yX5_keptTo wsX5_keptTo) := goodIn_app (goodIn_of _ (by decide +kernel)) ggX5_sweep_X5_keptTo
set_option maxRecDepth 20000 in
theorem ggX5_sweep_X5_asks : GoodIn wsX5_sweep wsX5_asks := goodIn_r _ [33, 18, 19, 20, 5, 21, 16, 15, 34, 35, 36, 37, 38, 39, 40, 41, 42, 43, 44, 45, 46, 47, 48, 49, 50, 51, 52, 53, 54, 55, 56, 57, 58, 59, 60, 61, 62, 63, 64, 65, 66, 67, 68, 69, 70, 71, 72, 73, 74, 75, 76, 77, 78, 79, 80, 81, 82, 83, 84, 85, 86, 87, 88, 89, 90, 91, 92, 93, 94, 95, 96, 97, 98, 99, 100, 105, 106, 107, 108, 109, 110, 111, 112, 113, 114, 115, 116, 117, 118, 119] (by decide +kernel) (by decide +kernel)
set_option maxRecDepth 20000 in
theorem gX5_sweep_X5_asks : GoodIn wsX5_sweep (wsV RX5 176 RX5 yX5_asks wsX5_asks) := goodIn_app (goodIn_of _ (by decide +kernel)) ggX5_sweep_X5_asks
set_option maxRecDepth 20000 in
theorem ggX5_sweep_X5_valueAt : GoodIn wsX5_sweep wsX5_valueAt := goodIn_r _ [68, 18, 19, 20, 5, 21, 16, 15, 105, 106, 107, 108, 109, 110, 111, 112, 113, 114, 115, 116, 117, 118, 119] (by decide +kernel) (by decide +kernel)
set_option maxRecDepth 20000 in
theorem gX5_sweep_X5_valueAt : GoodIn wsX5_sweep (wsV RX5 54 RX5 yX5_valueAt wsX5_valueAt) := goodIn_app (goodIn_of _ (by decide +kernel)) ggX5_sweep_X5_valueAt
set_option maxRecDepth 20000 in
theorem ggX5_sweep_X5_forgets : GoodIn wsX5_sweep wsX5_forgets := goodIn_r _ [104, 18, 19, 20, 5, 21, 16, 15, 69, 70, 71, 72, 73, 74, 75, 76, 105, 106, 107, 108, 109, 110, 111, 112, 113, 114, 115, 116, 117, 118, 119] (by decide +kernel) (by decide +kernel)
set_option maxRecDepth 20000 in
theorem gX5_sweep_X5_forgets : GoodIn wsX5_sweep (wsV RX5 110 RX5 yX5_forgets wsX5_forgets) := goodIn_app (goodIn_of _ (by decide +kernel)) ggX5_sweep_X5_forgets
theorem dX5_sweep_0 : decode cX5_sweep 0 = .ok (.aload_n 0, 1) := by decide +kernel
theorem dX5_sweep_1 : decode cX5_sweep 1 = .ok (.iconst 0, 1) := by decide +kernel
theorem dX5_sweep_2 : decode cX5_sweep 2 = .ok (.putfield 37, 3) := by decide +kernel
theorem dX5_sweep_5 : decode cX5_sweep 5 = .ok (.aload_n 0, 1) := by decide +kernel
theorem dX5_sweep_6 : decode cX5_sweep 6 = .ok (.iload_n 1, 1) := by decide +kernel
theorem dX5_sweep_7 : decode cX5_sweep 7 = .ok (.sipush (-999), 3) := by decide +kernel
theorem dX5_sweep_10 : decode cX5_sweep 10 = .ok (.sipush 1000, 3) := by decide +kernel
theorem dX5_sweep_13 : decode cX5_sweep 13 = .ok (.invokestatic 157, 3) := by decide +kernel
theorem dX5_sweep_16 : decode cX5_sweep 16 = .ok (.iconst 1, 1) := by decide +kernel
theorem dX5_sweep_17 : decode cX5_sweep 17 = .ok (.invokevirtual 228, 3) := by decide +kernel
theorem dX5_sweep_20 : decode cX5_sweep 20 = .ok (.ifCond .ne 5, 3) := by decide +kernel
theorem dX5_sweep_23 : decode cX5_sweep 23 = .ok (.iconst 0, 1) := by decide +kernel
theorem dX5_sweep_24 : decode cX5_sweep 24 = .ok (.ireturn, 1) := by decide +kernel
theorem dX5_sweep_25 : decode cX5_sweep 25 = .ok (.aload_n 0, 1) := by decide +kernel
theorem dX5_sweep_26 : decode cX5_sweep 26 = .ok (.invokevirtual 277, 3) := by decide +kernel
theorem dX5_sweep_29 : decode cX5_sweep 29 = .ok (.iconst 0, 1) := by decide +kernel
theorem dX5_sweep_30 : decode cX5_sweep 30 = .ok (.istore_n 2, 1) := by decide +kernel
theorem dX5_sweep_31 : decode cX5_sweep 31 = .ok (.iload_n 2, 1) := by decide +kernel
theorem dX5_sweep_32 : decode cX5_sweep 32 = .ok (.aload_n 0, 1) := by decide +kernel
theorem dX5_sweep_33 : decode cX5_sweep 33 = .ok (.bipush 6, 2) := by decide +kernel
theorem dX5_sweep_35 : decode cX5_sweep 35 = .ok (.invokevirtual 43, 3) := by decide +kernel
theorem dX5_sweep_38 : decode cX5_sweep 38 = .ok (.if_icmp .ge 42, 3) := by decide +kernel
theorem dX5_sweep_41 : decode cX5_sweep 41 = .ok (.aload_n 0, 1) := by decide +kernel
theorem dX5_sweep_42 : decode cX5_sweep 42 = .ok (.getfield 26, 3) := by decide +kernel
theorem dX5_sweep_45 : decode cX5_sweep 45 = .ok (.iload_n 2, 1) := by decide +kernel
theorem dX5_sweep_46 : decode cX5_sweep 46 = .ok (.aload_n 0, 1) := by decide +kernel
theorem dX5_sweep_47 : decode cX5_sweep 47 = .ok (.aload_n 0, 1) := by decide +kernel
theorem dX5_sweep_48 : decode cX5_sweep 48 = .ok (.aload_n 0, 1) := by decide +kernel
theorem dX5_sweep_49 : decode cX5_sweep 49 = .ok (.iload_n 2, 1) := by decide +kernel
theorem dX5_sweep_50 : decode cX5_sweep 50 = .ok (.invokevirtual 107, 3) := by decide +kernel
theorem dX5_sweep_53 : decode cX5_sweep 53 = .ok (.aload_n 0, 1) := by decide +kernel
theorem dX5_sweep_54 : decode cX5_sweep 54 = .ok (.iload_n 2, 1) := by decide +kernel
theorem dX5_sweep_55 : decode cX5_sweep 55 = .ok (.invokevirtual 104, 3) := by decide +kernel
theorem dX5_sweep_58 : decode cX5_sweep 58 = .ok (.invokevirtual 176, 3) := by decide +kernel
theorem dX5_sweep_61 : decode cX5_sweep 61 = .ok (.invokevirtual 54, 3) := by decide +kernel
theorem dX5_sweep_64 : decode cX5_sweep 64 = .ok (.iload_n 1, 1) := by decide +kernel
theorem dX5_sweep_65 : decode cX5_sweep 65 = .ok (.if_icmp .ge 7, 3) := by decide +kernel
theorem dX5_sweep_68 : decode cX5_sweep 68 = .ok (.iconst 1, 1) := by decide +kernel
theorem dX5_sweep_69 : decode cX5_sweep 69 = .ok (.goto 4, 3) := by decide +kernel
theorem dX5_sweep_72 : decode cX5_sweep 72 = .ok (.iconst 0, 1) := by decide +kernel
theorem dX5_sweep_73 : decode cX5_sweep 73 = .ok (.bastore, 1) := by decide +kernel
theorem dX5_sweep_74 : decode cX5_sweep 74 = .ok (.iinc 2 1, 3) := by decide +kernel
theorem dX5_sweep_77 : decode cX5_sweep 77 = .ok (.goto (-46), 3) := by decide +kernel
theorem dX5_sweep_80 : decode cX5_sweep 80 = .ok (.iconst 0, 1) := by decide +kernel
theorem dX5_sweep_81 : decode cX5_sweep 81 = .ok (.istore_n 2, 1) := by decide +kernel
theorem dX5_sweep_82 : decode cX5_sweep 82 = .ok (.aload_n 0, 1) := by decide +kernel
theorem dX5_sweep_83 : decode cX5_sweep 83 = .ok (.bipush 6, 2) := by decide +kernel
theorem dX5_sweep_85 : decode cX5_sweep 85 = .ok (.invokevirtual 43, 3) := by decide +kernel
theorem dX5_sweep_88 : decode cX5_sweep 88 = .ok (.iconst 1, 1) := by decide +kernel
theorem dX5_sweep_89 : decode cX5_sweep 89 = .ok (.isub, 1) := by decide +kernel
theorem dX5_sweep_90 : decode cX5_sweep 90 = .ok (.istore_n 3, 1) := by decide +kernel
theorem dX5_sweep_91 : decode cX5_sweep 91 = .ok (.iload_n 3, 1) := by decide +kernel
theorem dX5_sweep_92 : decode cX5_sweep 92 = .ok (.ifCond .lt 32, 3) := by decide +kernel
theorem dX5_sweep_95 : decode cX5_sweep 95 = .ok (.aload_n 0, 1) := by decide +kernel
theorem dX5_sweep_96 : decode cX5_sweep 96 = .ok (.getfield 26, 3) := by decide +kernel
theorem dX5_sweep_99 : decode cX5_sweep 99 = .ok (.iload_n 3, 1) := by decide +kernel
theorem dX5_sweep_100 : decode cX5_sweep 100 = .ok (.baload, 1) := by decide +kernel
theorem dX5_sweep_101 : decode cX5_sweep 101 = .ok (.ifCond .eq 17, 3) := by decide +kernel
theorem dX5_sweep_104 : decode cX5_sweep 104 = .ok (.aload_n 0, 1) := by decide +kernel
theorem dX5_sweep_105 : decode cX5_sweep 105 = .ok (.iload_n 3, 1) := by decide +kernel
theorem dX5_sweep_106 : decode cX5_sweep 106 = .ok (.invokevirtual 110, 3) := by decide +kernel
theorem dX5_sweep_109 : decode cX5_sweep 109 = .ok (.ifCond .ge 6, 3) := by decide +kernel
theorem dX5_sweep_112 : decode cX5_sweep 112 = .ok (.goto 6, 3) := by decide +kernel
theorem dX5_sweep_115 : decode cX5_sweep 115 = .ok (.iinc 2 1, 3) := by decide +kernel
theorem dX5_sweep_118 : decode cX5_sweep 118 = .ok (.iinc 3 (-1), 3) := by decide +kernel
theorem dX5_sweep_121 : decode cX5_sweep 121 = .ok (.goto (-30), 3) := by decide +kernel
theorem dX5_sweep_124 : decode cX5_sweep 124 = .ok (.iload_n 2, 1) := by decide +kernel
theorem dX5_sweep_125 : decode cX5_sweep 125 = .ok (.ireturn, 1) := by decide +kernel
set_option maxRecDepth 20000 in
theorem ggX5_put_X5_size : GoodIn wsX5_put wsX5_size := goodIn_r _ [6, 7, 8, 9, 5, 10, 11, 12, 75, 76, 77, 78, 79, 80, 81, 82, 83, 84, 85, 86, 87, 88, 89] (by decide +kernel) (by decide +kernel)
set_option maxRecDepth 20000 in
theorem gX5_put_X5_size : GoodIn wsX5_put (wsV RX5 50 RX5 yX5_size wsX5_size) := goodIn_app (goodIn_of _ (by decide +kernel)) ggX5_put_X5_size
set_option maxRecDepth 20000 in
theorem ggX5_put_X5_isIn : GoodIn wsX5_put wsX5_isIn := goodIn_r _ [15] (by decide +kernel) (by decide +kernel)
set_option maxRecDepth 20000 in
theorem gX5_put_X5_isIn : GoodIn wsX5_put (va_wsS RX5 157 yX5_isIn wsX5_isIn) := goodIn_app (goodIn_of _ (by decide +kernel)) ggX5_put_X5_isIn
set_option maxRecDepth 20000 in
theorem ggX5_put_X5_right : GoodIn wsX5_put wsX5_right := goodIn_r _ [19, 1, 75, 76, 77, 78, 79, 80, 81, 82, 83, 84, 85, 86, 87, 88, 89] (by decide +kernel) (by decide +kernel)
set_option maxRecDepth 20000 in
theorem gX5_put_X5_right : GoodIn wsX5_put (wsV RX5 228 RX5 yX5_right wsX5_right) := goodIn_app (goodIn_of _ (by decide +kernel)) ggX5_put_X5_right
set_option maxRecDepth 20000 in
theorem ggX5_put_X5_isValue : GoodIn wsX5_put wsX5_isValue := goodIn_r _ [22, 13, 14, 5, 15] (by decide +kernel) (by decide +kernel)
set_option maxRecDepth 20000 in
theorem gX5_put_X5_isValue : GoodIn wsX5_put (va_wsS RX5 274 yX5_isValue wsX5_isValue) := goodIn_app (goodIn_of _ (by decide +kernel)) ggX5_put_X5_isValue
set_option maxRecDepth 20000 in
theorem ggX5_put_X5_change : GoodIn wsX5_put wsX5_change := goodIn_r _ [26, 12, 11, 27, 7, 8, 9, 5, 10, 75, 76, 77, 78, 79, 80, 81, 82, 83, 84, 85, 86, 87, 88, 89] (by decide +kernel) (by decide +kernel)
set_option maxRecDepth 20000 in
theorem gX5_put_X5_change : GoodIn wsX5_put (wsV RX5 277 RX5 yX5_change wsX5_change) := goodIn_app (goodIn_of _ (by decide +kernel)) ggX5_put_X5_change
set_option maxRecDepth 20000 in
theorem ggX5_put_X5_putsIn : GoodIn wsX5_put wsX5_putsIn := goodIn_r _ [31, 2, 3, 4, 5, 6, 7, 8, 9, 10, 11, 12, 32, 33, 34, 35, 36, 37, 38, 39, 40, 41, 42, 43, 44, 45, 46, 47, 48, 49, 50, 51, 52, 53, 54, 55, 56, 57, 58, 59, 60, 61, 62, 63, 64, 65, 66, 67, 68, 69, 70, 71, 72, 73, 74, 75, 76, 77, 78, 79, 80, 81, 82, 83, 84, 85, 86, 87, 88, 89] (by decide +kernel) (by decide +kernel)
set_option maxRecDepth 20000 in
theorem gX5_put_X5_putsIn : GoodIn wsX5_put (wsV RX5 182 RX5 yX5_putsIn wsX5_putsIn) := goodIn_app (goodIn_of _ (by decide +kernel)) ggX5_put_X5_putsIn
theorem dX5_put_0 : decode cX5_put 0 = .ok (.aload_n 0, 1) := by decide +kernel
theorem dX5_put_1 : decode cX5_put 1 = .ok (.iconst 0, 1) := by decide +kernel
theorem dX5_put_2 : decode cX5_put 2 = .ok (.putfield 37, 3) := by decide +kernel
theorem dX5_put_5 : decode cX5_put 5 = .ok (.aload_n 0, 1) := by decide +kernel
theorem dX5_put_6 : decode cX5_put 6 = .ok (.iload_n 1, 1) := by decide +kernel
theorem dX5_put_7 : decode cX5_put 7 = .ok (.iconst 0, 1) := by decide +kernel
theorem dX5_put_8 : decode cX5_put 8 = .ok (.aload_n 0, 1) := by decide +kernel
theorem dX5_put_9 : decode cX5_put 9 = .ok (.invokevirtual 50, 3) := by decide +kernel
theorem dX5_put_12 : decode cX5_put 12 = .ok (.invokestatic 157, 3) := by decide +kernel
theorem dX5_put_15 : decode cX5_put 15 = .ok (.iconst 1, 1) := by decide +kernel
theorem dX5_put_16 : decode cX5_put 16 = .ok (.invokevirtual 228, 3) := by decide +kernel
theorem dX5_put_19 : decode cX5_put 19 = .ok (.ifCond .eq 37, 3) := by decide +kernel
theorem dX5_put_22 : decode cX5_put 22 = .ok (.aload_n 0, 1) := by decide +kernel
theorem dX5_put_23 : decode cX5_put 23 = .ok (.iload_n 2, 1) := by decide +kernel
theorem dX5_put_24 : decode cX5_put 24 = .ok (.invokestatic 274, 3) := by decide +kernel
theorem dX5_put_27 : decode cX5_put 27 = .ok (.iconst 2, 1) := by decide +kernel
theorem dX5_put_28 : decode cX5_put 28 = .ok (.invokevirtual 228, 3) := by decide +kernel
theorem dX5_put_31 : decode cX5_put 31 = .ok (.ifCond .eq 25, 3) := by decide +kernel
theorem dX5_put_34 : decode cX5_put 34 = .ok (.aload_n 0, 1) := by decide +kernel
theorem dX5_put_35 : decode cX5_put 35 = .ok (.aload_n 0, 1) := by decide +kernel
theorem dX5_put_36 : decode cX5_put 36 = .ok (.invokevirtual 50, 3) := by decide +kernel
theorem dX5_put_39 : decode cX5_put 39 = .ok (.bipush 40, 2) := by decide +kernel
theorem dX5_put_41 : decode cX5_put 41 = .ok (.if_icmp .ge 7, 3) := by decide +kernel
theorem dX5_put_44 : decode cX5_put 44 = .ok (.iconst 1, 1) := by decide +kernel
theorem dX5_put_45 : decode cX5_put 45 = .ok (.goto 4, 3) := by decide +kernel
theorem dX5_put_48 : decode cX5_put 48 = .ok (.iconst 0, 1) := by decide +kernel
theorem dX5_put_49 : decode cX5_put 49 = .ok (.iconst 3, 1) := by decide +kernel
theorem dX5_put_50 : decode cX5_put 50 = .ok (.invokevirtual 228, 3) := by decide +kernel
theorem dX5_put_53 : decode cX5_put 53 = .ok (.ifCond .ne 5, 3) := by decide +kernel
theorem dX5_put_56 : decode cX5_put 56 = .ok (.iconst 0, 1) := by decide +kernel
theorem dX5_put_57 : decode cX5_put 57 = .ok (.ireturn, 1) := by decide +kernel
theorem dX5_put_58 : decode cX5_put 58 = .ok (.aload_n 0, 1) := by decide +kernel
theorem dX5_put_59 : decode cX5_put 59 = .ok (.invokevirtual 277, 3) := by decide +kernel
theorem dX5_put_62 : decode cX5_put 62 = .ok (.aload_n 0, 1) := by decide +kernel
theorem dX5_put_63 : decode cX5_put 63 = .ok (.iload_n 1, 1) := by decide +kernel
theorem dX5_put_64 : decode cX5_put 64 = .ok (.iload_n 2, 1) := by decide +kernel
theorem dX5_put_65 : decode cX5_put 65 = .ok (.invokevirtual 182, 3) := by decide +kernel
theorem dX5_put_68 : decode cX5_put 68 = .ok (.ireturn, 1) := by decide +kernel
set_option maxRecDepth 20000 in
theorem ggX5_take_X5_isPlace : GoodIn wsX5_take wsX5_isPlace := goodIn_r _ [6, 7, 8, 9, 5, 10, 11, 12, 13, 14, 15, 16, 17, 18, 19, 80, 81, 82, 83, 84, 85, 86, 87, 88, 89, 90, 91, 92, 93, 94] (by decide +kernel) (by decide +kernel)
set_option maxRecDepth 20000 in
theorem gX5_take_X5_isPlace : GoodIn wsX5_take (wsV RX5 241 RX5 yX5_isPlace wsX5_isPlace) := goodIn_app (goodIn_of _ (by decide +kernel)) ggX5_take_X5_isPlace
set_option maxRecDepth 20000 in
theorem ggX5_take_X5_right : GoodIn wsX5_take wsX5_right := goodIn_r _ [23, 1, 80, 81, 82, 83, 84, 85, 86, 87, 88, 89, 90, 91, 92, 93, 94] (by decide +kernel) (by decide +kernel)
set_option maxRecDepth 20000 in
theorem gX5_take_X5_right : GoodIn wsX5_take (wsV RX5 228 RX5 yX5_right wsX5_right) := goodIn_app (goodIn_of _ (by decide +kernel)) ggX5_take_X5_right
set_option maxRecDepth 20000 in
theorem ggX5_take_X5_size : GoodIn wsX5_take wsX5_size := goodIn_r _ [10, 11, 12, 13, 5, 14, 15, 16, 80, 81, 82, 83, 84, 85, 86, 87, 88, 89, 90, 91, 92, 93, 94] (by decide +kernel) (by decide +kernel)
set_option maxRecDepth 20000 in
theorem gX5_take_X5_size : GoodIn wsX5_take (wsV RX5 50 RX5 yX5_size wsX5_size) := goodIn_app (goodIn_of _ (by decide +kernel)) ggX5_take_X5_size
set_option maxRecDepth 20000 in
theorem ggX5_take_X5_change : GoodIn wsX5_take wsX5_change := goodIn_r _ [27, 16, 15, 28, 11, 12, 13, 5, 14, 80, 81, 82, 83, 84, 85, 86, 87, 88, 89, 90, 91, 92, 93, 94] (by decide +kernel) (by decide +kernel)
set_option maxRecDepth 20000 in
theorem gX5_take_X5_change : GoodIn wsX5_take (wsV RX5 277 RX5 yX5_change wsX5_change) := goodIn_app (goodIn_of _ (by decide +kernel)) ggX5_take_X5_change
set_option maxRecDepth 20000 in
theorem ggX5_take_X5_takesOut : GoodIn wsX5_take wsX5_takesOut := goodIn_r _ [32, 33, 34, 35, 5, 36, 11, 12, 13, 14, 15, 16, 7, 8, 9, 10, 37, 38, 39, 40, 41, 42, 43, 44, 45, 46, 47, 48, 49, 50, 51, 52, 53, 54, 55, 56, 57, 58, 59, 60, 61, 62, 63, 64, 65, 66, 67, 68, 69, 70, 71, 72, 73, 74, 75, 76, 77, 78, 79, 80, 81, 82, 83, 84, 85, 86, 87, 88, 89, 90, 91, 92, 93, 94] (by decide +kernel) (by decide +kernel)
set_option maxRecDepth 20000 in
theorem gX5_take_X5_takesOut : GoodIn wsX5_take (wsV RX5 185 RX5 yX5_takesOut wsX5_takesOut) := goodIn_app (goodIn_of _ (by decide +kernel)) ggX5_take_X5_takesOut
theorem dX5_take_0 : decode cX5_take 0 = .ok (.aload_n 0, 1) := by decide +kernel
theorem dX5_take_1 : decode cX5_take 1 = .ok (.iconst 0, 1) := by decide +kernel
theorem dX5_take_2 : decode cX5_take 2 = .ok (.putfield 37, 3) := by decide +kernel
theorem dX5_take_5 : decode cX5_take 5 = .ok (.aload_n 0, 1) := by decide +kernel
theorem dX5_take_6 : decode cX5_take 6 = .ok (.aload_n 0, 1) := by decide +kernel
theorem dX5_take_7 : decode cX5_take 7 = .ok (.iload_n 1, 1) := by decide +kernel
theorem dX5_take_8 : decode cX5_take 8 = .ok (.invokevirtual 241, 3) := by decide +kernel
theorem dX5_take_11 : decode cX5_take 11 = .ok (.iconst 1, 1) := by decide +kernel
theorem dX5_take_12 : decode cX5_take 12 = .ok (.invokevirtual 228, 3) := by decide +kernel
theorem dX5_take_15 : decode cX5_take 15 = .ok (.ifCond .eq 24, 3) := by decide +kernel
theorem dX5_take_18 : decode cX5_take 18 = .ok (.aload_n 0, 1) := by decide +kernel
theorem dX5_take_19 : decode cX5_take 19 = .ok (.aload_n 0, 1) := by decide +kernel
theorem dX5_take_20 : decode cX5_take 20 = .ok (.invokevirtual 50, 3) := by decide +kernel
theorem dX5_take_23 : decode cX5_take 23 = .ok (.iconst 1, 1) := by decide +kernel
theorem dX5_take_24 : decode cX5_take 24 = .ok (.if_icmp .le 7, 3) := by decide +kernel
theorem dX5_take_27 : decode cX5_take 27 = .ok (.iconst 1, 1) := by decide +kernel
theorem dX5_take_28 : decode cX5_take 28 = .ok (.goto 4, 3) := by decide +kernel
theorem dX5_take_31 : decode cX5_take 31 = .ok (.iconst 0, 1) := by decide +kernel
theorem dX5_take_32 : decode cX5_take 32 = .ok (.iconst 2, 1) := by decide +kernel
theorem dX5_take_33 : decode cX5_take 33 = .ok (.invokevirtual 228, 3) := by decide +kernel
theorem dX5_take_36 : decode cX5_take 36 = .ok (.ifCond .ne 5, 3) := by decide +kernel
theorem dX5_take_39 : decode cX5_take 39 = .ok (.iconst 0, 1) := by decide +kernel
theorem dX5_take_40 : decode cX5_take 40 = .ok (.ireturn, 1) := by decide +kernel
theorem dX5_take_41 : decode cX5_take 41 = .ok (.aload_n 0, 1) := by decide +kernel
theorem dX5_take_42 : decode cX5_take 42 = .ok (.invokevirtual 277, 3) := by decide +kernel
theorem dX5_take_45 : decode cX5_take 45 = .ok (.aload_n 0, 1) := by decide +kernel
theorem dX5_take_46 : decode cX5_take 46 = .ok (.iload_n 1, 1) := by decide +kernel
theorem dX5_take_47 : decode cX5_take 47 = .ok (.invokevirtual 185, 3) := by decide +kernel
theorem dX5_take_50 : decode cX5_take 50 = .ok (.ireturn, 1) := by decide +kernel
set_option maxRecDepth 20000 in
theorem ggX5_rule_X5_isIn : GoodIn wsX5_rule wsX5_isIn := goodIn_r _ [5] (by decide +kernel) (by decide +kernel)
set_option maxRecDepth 20000 in
theorem gX5_rule_X5_isIn : GoodIn wsX5_rule (va_wsS RX5 157 yX5_isIn wsX5_isIn) := goodIn_app (goodIn_of _ (by decide +kernel)) ggX5_rule_X5_isIn
set_option maxRecDepth 20000 in
theorem ggX5_rule_X5_right : GoodIn wsX5_rule wsX5_right := goodIn_r _ [9, 1, 60, 61, 62, 63, 64, 65, 66, 67, 68, 69, 70, 71, 72, 73, 74] (by decide +kernel) (by decide +kernel)
set_option maxRecDepth 20000 in
theorem gX5_rule_X5_right : GoodIn wsX5_rule (wsV RX5 228 RX5 yX5_right wsX5_right) := goodIn_app (goodIn_of _ (by decide +kernel)) ggX5_rule_X5_right
set_option maxRecDepth 20000 in
theorem ggX5_rule_X5_change : GoodIn wsX5_rule wsX5_change := goodIn_r _ [13, 14, 15, 16, 17, 18, 19, 4, 20, 60, 61, 62, 63, 64, 65, 66, 67, 68, 69, 70, 71, 72, 73, 74] (by decide +kernel) (by decide +kernel)
set_option maxRecDepth 20000 in
theorem gX5_rule_X5_change : GoodIn wsX5_rule (wsV RX5 277 RX5 yX5_change wsX5_change) := goodIn_app (goodIn_of _ (by decide +kernel)) ggX5_rule_X5_change
set_option maxRecDepth 20000 in
theorem ggX5_rule_X5_get : GoodIn wsX5_rule wsX5_get := goodIn_r _ [20, 15, 14, 60, 61, 62, 63, 64, 65, 66, 67, 68, 69, 70, 71, 72, 73, 74] (by decide +kernel) (by decide +kernel)
set_option maxRecDepth 20000 in
theorem gX5_rule_X5_get : GoodIn wsX5_rule (wsV RX5 43 RX5 yX5_get wsX5_get) := goodIn_app (goodIn_of _ (by decide +kernel)) ggX5_rule_X5_get
set_option maxRecDepth 20000 in
theorem ggX5_rule_X5_put0 : GoodIn wsX5_rule wsX5_put0 := goodIn_r _ [24, 15, 14, 60, 61, 62, 63, 64, 65, 66, 67, 68, 69, 70, 71, 72, 73, 74] (by decide +kernel) (by decide +kernel)
set_option maxRecDepth 20000 in
theorem gX5_rule_X5_put0 : GoodIn wsX5_rule (wsV RX5 30 RX5 yX5_put0 wsX5_put0) := goodIn_app (goodIn_of _ (by decide +kernel)) ggX5_rule_X5_put0
set_option maxRecDepth 20000 in
theorem ggX5_rule_X5_builds : GoodIn wsX5_rule wsX5_builds := goodIn_r _ [28, 29, 30, 31, 4, 32, 33, 34, 35, 36, 37, 38, 39, 40, 17, 18, 19, 20, 15, 14, 41, 42, 43, 44, 45, 46, 47, 48, 49, 50, 51, 52, 53, 54, 55, 21, 22, 23, 24, 56, 57, 58, 59, 60, 61, 62, 63, 64, 65, 66, 67, 68, 69, 70, 71, 72, 73, 74] (by decide +kernel) (by decide +kernel)
set_option maxRecDepth 20000 in
theorem gX5_rule_X5_builds : GoodIn wsX5_rule (wsV RX5 34 RX5 yX5_builds wsX5_builds) := goodIn_app (goodIn_of _ (by decide +kernel)) ggX5_rule_X5_builds
theorem dX5_rule_0 : decode cX5_rule 0 = .ok (.aload_n 0, 1) := by decide +kernel
theorem dX5_rule_1 : decode cX5_rule 1 = .ok (.iconst 0, 1) := by decide +kernel
theorem dX5_rule_2 : decode cX5_rule 2 = .ok (.putfield 37, 3) := by decide +kernel
theorem dX5_rule_5 : decode cX5_rule 5 = .ok (.aload_n 0, 1) := by decide +kernel
theorem dX5_rule_6 : decode cX5_rule 6 = .ok (.iload_n 1, 1) := by decide +kernel
theorem dX5_rule_7 : decode cX5_rule 7 = .ok (.iconst 1, 1) := by decide +kernel
theorem dX5_rule_8 : decode cX5_rule 8 = .ok (.if_icmp .ne 12, 3) := by decide +kernel
theorem dX5_rule_11 : decode cX5_rule 11 = .ok (.iload_n 2, 1) := by decide +kernel
theorem dX5_rule_12 : decode cX5_rule 12 = .ok (.iconst 0, 1) := by decide +kernel
theorem dX5_rule_13 : decode cX5_rule 13 = .ok (.iconst 2, 1) := by decide +kernel
theorem dX5_rule_14 : decode cX5_rule 14 = .ok (.invokestatic 157, 3) := by decide +kernel
theorem dX5_rule_17 : decode cX5_rule 17 = .ok (.goto 23, 3) := by decide +kernel
theorem dX5_rule_20 : decode cX5_rule 20 = .ok (.iload_n 1, 1) := by decide +kernel
theorem dX5_rule_21 : decode cX5_rule 21 = .ok (.iconst 2, 1) := by decide +kernel
theorem dX5_rule_22 : decode cX5_rule 22 = .ok (.if_icmp .ne 17, 3) := by decide +kernel
theorem dX5_rule_25 : decode cX5_rule 25 = .ok (.iload_n 2, 1) := by decide +kernel
theorem dX5_rule_26 : decode cX5_rule 26 = .ok (.iconst 1, 1) := by decide +kernel
theorem dX5_rule_27 : decode cX5_rule 27 = .ok (.bipush 8, 2) := by decide +kernel
theorem dX5_rule_29 : decode cX5_rule 29 = .ok (.invokestatic 157, 3) := by decide +kernel
theorem dX5_rule_32 : decode cX5_rule 32 = .ok (.ifCond .eq 7, 3) := by decide +kernel
theorem dX5_rule_35 : decode cX5_rule 35 = .ok (.iconst 1, 1) := by decide +kernel
theorem dX5_rule_36 : decode cX5_rule 36 = .ok (.goto 4, 3) := by decide +kernel
theorem dX5_rule_39 : decode cX5_rule 39 = .ok (.iconst 0, 1) := by decide +kernel
theorem dX5_rule_40 : decode cX5_rule 40 = .ok (.iconst 1, 1) := by decide +kernel
theorem dX5_rule_41 : decode cX5_rule 41 = .ok (.invokevirtual 228, 3) := by decide +kernel
theorem dX5_rule_44 : decode cX5_rule 44 = .ok (.ifCond .ne 5, 3) := by decide +kernel
theorem dX5_rule_47 : decode cX5_rule 47 = .ok (.iconst 0, 1) := by decide +kernel
theorem dX5_rule_48 : decode cX5_rule 48 = .ok (.ireturn, 1) := by decide +kernel
theorem dX5_rule_49 : decode cX5_rule 49 = .ok (.aload_n 0, 1) := by decide +kernel
theorem dX5_rule_50 : decode cX5_rule 50 = .ok (.invokevirtual 277, 3) := by decide +kernel
theorem dX5_rule_53 : decode cX5_rule 53 = .ok (.aload_n 0, 1) := by decide +kernel
theorem dX5_rule_54 : decode cX5_rule 54 = .ok (.iload_n 1, 1) := by decide +kernel
theorem dX5_rule_55 : decode cX5_rule 55 = .ok (.invokevirtual 43, 3) := by decide +kernel
theorem dX5_rule_58 : decode cX5_rule 58 = .ok (.istore_n 3, 1) := by decide +kernel
theorem dX5_rule_59 : decode cX5_rule 59 = .ok (.aload_n 0, 1) := by decide +kernel
theorem dX5_rule_60 : decode cX5_rule 60 = .ok (.iload_n 1, 1) := by decide +kernel
theorem dX5_rule_61 : decode cX5_rule 61 = .ok (.iload_n 2, 1) := by decide +kernel
theorem dX5_rule_62 : decode cX5_rule 62 = .ok (.invokevirtual 30, 3) := by decide +kernel
theorem dX5_rule_65 : decode cX5_rule 65 = .ok (.iload_n 1, 1) := by decide +kernel
theorem dX5_rule_66 : decode cX5_rule 66 = .ok (.iconst 1, 1) := by decide +kernel
theorem dX5_rule_67 : decode cX5_rule 67 = .ok (.if_icmp .ne 7, 3) := by decide +kernel
theorem dX5_rule_70 : decode cX5_rule 70 = .ok (.aload_n 0, 1) := by decide +kernel
theorem dX5_rule_71 : decode cX5_rule 71 = .ok (.invokevirtual 34, 3) := by decide +kernel
theorem dX5_rule_74 : decode cX5_rule 74 = .ok (.iload_n 3, 1) := by decide +kernel
theorem dX5_rule_75 : decode cX5_rule 75 = .ok (.ireturn, 1) := by decide +kernel
theorem dX5_undo_0 : decode cX5_undo 0 = .ok (.aload_n 0, 1) := by decide +kernel
theorem dX5_undo_1 : decode cX5_undo 1 = .ok (.iconst 0, 1) := by decide +kernel
theorem dX5_undo_2 : decode cX5_undo 2 = .ok (.putfield 37, 3) := by decide +kernel
theorem dX5_undo_5 : decode cX5_undo 5 = .ok (.aload_n 0, 1) := by decide +kernel
theorem dX5_undo_6 : decode cX5_undo 6 = .ok (.getfield 47, 3) := by decide +kernel
theorem dX5_undo_9 : decode cX5_undo 9 = .ok (.ifCond .ne 5, 3) := by decide +kernel
theorem dX5_undo_12 : decode cX5_undo 12 = .ok (.iconst (-1), 1) := by decide +kernel
theorem dX5_undo_13 : decode cX5_undo 13 = .ok (.ireturn, 1) := by decide +kernel
theorem dX5_undo_14 : decode cX5_undo 14 = .ok (.aload_n 0, 1) := by decide +kernel
theorem dX5_undo_15 : decode cX5_undo 15 = .ok (.dup, 1) := by decide +kernel
theorem dX5_undo_16 : decode cX5_undo 16 = .ok (.getfield 47, 3) := by decide +kernel
theorem dX5_undo_19 : decode cX5_undo 19 = .ok (.iconst 1, 1) := by decide +kernel
theorem dX5_undo_20 : decode cX5_undo 20 = .ok (.isub, 1) := by decide +kernel
theorem dX5_undo_21 : decode cX5_undo 21 = .ok (.putfield 47, 3) := by decide +kernel
theorem dX5_undo_24 : decode cX5_undo 24 = .ok (.aload_n 0, 1) := by decide +kernel
theorem dX5_undo_25 : decode cX5_undo 25 = .ok (.aload_n 0, 1) := by decide +kernel
theorem dX5_undo_26 : decode cX5_undo 26 = .ok (.getfield 40, 3) := by decide +kernel
theorem dX5_undo_29 : decode cX5_undo 29 = .ok (.bipush 9, 2) := by decide +kernel
theorem dX5_undo_31 : decode cX5_undo 31 = .ok (.iadd, 1) := by decide +kernel
theorem dX5_undo_32 : decode cX5_undo 32 = .ok (.iconst 1, 1) := by decide +kernel
theorem dX5_undo_33 : decode cX5_undo 33 = .ok (.isub, 1) := by decide +kernel
theorem dX5_undo_34 : decode cX5_undo 34 = .ok (.bipush 9, 2) := by decide +kernel
theorem dX5_undo_36 : decode cX5_undo 36 = .ok (.irem, 1) := by decide +kernel
theorem dX5_undo_37 : decode cX5_undo 37 = .ok (.putfield 40, 3) := by decide +kernel
theorem dX5_undo_40 : decode cX5_undo 40 = .ok (.aload_n 0, 1) := by decide +kernel
theorem dX5_undo_41 : decode cX5_undo 41 = .ok (.getfield 47, 3) := by decide +kernel
theorem dX5_undo_44 : decode cX5_undo 44 = .ok (.ireturn, 1) := by decide +kernel
theorem dX5_joins_0 : decode cX5_joins 0 = .ok (.ldc2_w 280, 3) := by decide +kernel
theorem dX5_joins_3 : decode cX5_joins 3 = .ok (.lload_n 0, 1) := by decide +kernel
theorem dX5_joins_4 : decode cX5_joins 4 = .ok (.lmul, 1) := by decide +kernel
theorem dX5_joins_5 : decode cX5_joins 5 = .ok (.lload_n 2, 1) := by decide +kernel
theorem dX5_joins_6 : decode cX5_joins 6 = .ok (.ladd, 1) := by decide +kernel
theorem dX5_joins_7 : decode cX5_joins 7 = .ok (.lreturn, 1) := by decide +kernel
set_option maxRecDepth 20000 in
theorem ggX5_checksum_X5_toldOf : GoodIn wsX5_checksum wsX5_toldOf := goodIn_r _ [6, 7, 8, 9, 5, 10, 11, 12, 13, 14, 15, 16, 17, 18, 19, 20, 21, 22, 23, 24, 25, 26, 27, 28, 29, 30, 31, 32, 33, 34, 35, 36, 56, 57, 58, 59, 60, 61, 62, 63, 64, 65, 66, 67, 68, 69, 70] (by decide +kernel) (by decide +kernel)
set_option maxRecDepth 20000 in
theorem gX5_checksum_X5_toldOf : GoodIn wsX5_checksum (wsV RX5 244 RX5 yX5_toldOf wsX5_toldOf) := goodIn_app (goodIn_of _ (by decide +kernel)) ggX5_checksum_X5_toldOf
set_option maxRecDepth 20000 in
theorem ggX5_checksum_X5_joins : GoodIn wsX5_checksum wsX5_joins := goodIn_r _ [39, 40] (by decide +kernel) (by decide +kernel)
set_option maxRecDepth 20000 in
theorem gX5_checksum_X5_joins : GoodIn wsX5_checksum (va_wsS RX5 282 yX5_joins wsX5_joins) := goodIn_app (goodIn_of _ (by decide +kernel)) ggX5_checksum_X5_joins
set_option maxRecDepth 20000 in
theorem ggX5_checksum_X5_size : GoodIn wsX5_checksum wsX5_size := goodIn_r _ [22, 23, 24, 25, 5, 26, 27, 28, 56, 57, 58, 59, 60, 61, 62, 63, 64, 65, 66, 67, 68, 69, 70] (by decide +kernel) (by decide +kernel)
set_option maxRecDepth 20000 in
theorem gX5_checksum_X5_size : GoodIn wsX5_checksum (wsV RX5 50 RX5 yX5_size wsX5_size) := goodIn_app (goodIn_of _ (by decide +kernel)) ggX5_checksum_X5_size
set_option maxRecDepth 20000 in
theorem ggX5_checksum_X5_valueAt : GoodIn wsX5_checksum wsX5_valueAt := goodIn_r _ [44, 23, 24, 25, 5, 26, 27, 28, 56, 57, 58, 59, 60, 61, 62, 63, 64, 65, 66, 67, 68, 69, 70] (by decide +kernel) (by decide +kernel)
set_option maxRecDepth 20000 in
theorem gX5_checksum_X5_valueAt : GoodIn wsX5_checksum (wsV RX5 54 RX5 yX5_valueAt wsX5_valueAt) := goodIn_app (goodIn_of _ (by decide +kernel)) ggX5_checksum_X5_valueAt
set_option maxRecDepth 20000 in
theorem ggX5_checksum_X5_get : GoodIn wsX5_checksum wsX5_get := goodIn_r _ [26, 27, 28, 56, 57, 58, 59, 60, 61, 62, 63, 64, 65, 66, 67, 68, 69, 70] (by decide +kernel) (by decide +kernel)
set_option maxRecDepth 20000 in
theorem gX5_checksum_X5_get : GoodIn wsX5_checksum (wsV RX5 43 RX5 yX5_get wsX5_get) := goodIn_app (goodIn_of _ (by decide +kernel)) ggX5_checksum_X5_get
set_option maxRecDepth 20000 in
theorem ggX5_checksum_X5_cellsOn : GoodIn wsX5_checksum wsX5_cellsOn := goodIn_r _ [14, 15, 16, 17, 18, 19, 20, 21, 5, 22, 23, 24, 25, 26, 27, 28, 56, 57, 58, 59, 60, 61, 62, 63, 64, 65, 66, 67, 68, 69, 70] (by decide +kernel) (by decide +kernel)
set_option maxRecDepth 20000 in
theorem gX5_checksum_X5_cellsOn : GoodIn wsX5_checksum (wsV RX5 63 RX5 yX5_cellsOn wsX5_cellsOn) := goodIn_app (goodIn_of _ (by decide +kernel)) ggX5_checksum_X5_cellsOn
set_option maxRecDepth 20000 in
theorem ggX5_checksum_X5_cellAt : GoodIn wsX5_checksum wsX5_cellAt := goodIn_r _ [47] (by decide +kernel) (by decide +kernel)
set_option maxRecDepth 20000 in
theorem gX5_checksum_X5_cellAt : GoodIn wsX5_checksum (va_wsS RX5 66 yX5_cellAt wsX5_cellAt) := goodIn_app (goodIn_of _ (by decide +kernel)) ggX5_checksum_X5_cellAt
set_option maxRecDepth 20000 in
theorem ggX5_checksum_X5_keptFrom : GoodIn wsX5_checksum wsX5_keptFrom := goodIn_r _ [51, 23, 24, 25, 5, 26, 27, 28, 56, 57, 58, 59, 60, 61, 62, 63, 64, 65, 66, 67, 68, 69, 70] (by decide +kernel) (by decide +kernel)
set_option maxRecDepth 20000 in
theorem gX5_checksum_X5_keptFrom : GoodIn wsX5_checksum (wsV RX5 107 RX5 yX5_keptFrom wsX5_keptFrom) := goodIn_app (goodIn_of _ (by decide +kernel)) ggX5_checksum_X5_keptFrom
set_option maxRecDepth 20000 in
theorem ggX5_checksum_X5_keptTo : GoodIn wsX5_checksum wsX5_keptTo := goodIn_r _ [55, 23, 24, 25, 5, 26, 27, 28, 56, 57, 58, 59, 60, 61, 62, 63, 64, 65, 66, 67, 68, 69, 70] (by decide +kernel) (by decide +kernel)
set_option maxRecDepth 20000 in
theorem gX5_checksum_X5_keptTo : GoodIn wsX5_checksum (wsV RX5 104 RX5 yX5_keptTo wsX5_keptTo) := goodIn_app (goodIn_of _ (by decide +kernel)) ggX5_checksum_X5_keptTo
theorem dX5_checksum_0 : decode cX5_checksum 0 = .ok (.aload_n 0, 1) := by decide +kernel
theorem dX5_checksum_1 : decode cX5_checksum 1 = .ok (.iconst 0, 1) := by decide +kernel
theorem dX5_checksum_2 : decode cX5_checksum 2 = .ok (.putfield 37, 3) := by decide +kernel
theorem dX5_checksum_5 : decode cX5_checksum 5 = .ok (.lconst 0, 1) := by decide +kernel
theorem dX5_checksum_6 : decode cX5_checksum 6 = .ok (.lstore_n 1, 1) := by decide +kernel
theorem dX5_checksum_7 : decode cX5_checksum 7 = .ok (.iconst 0, 1) := by decide +kernel
theorem dX5_checksum_8 : decode cX5_checksum 8 = .ok (.istore_n 3, 1) := by decide +kernel
theorem dX5_checksum_9 : decode cX5_checksum 9 = .ok (.iload_n 3, 1) := by decide +kernel
theorem dX5_checksum_10 : decode cX5_checksum 10 = .ok (.bipush 11, 2) := by decide +kernel
theorem dX5_checksum_12 : decode cX5_checksum 12 = .ok (.if_icmp .ge 20, 3) := by decide +kernel
theorem dX5_checksum_15 : decode cX5_checksum 15 = .ok (.lload_n 1, 1) := by decide +kernel
theorem dX5_checksum_16 : decode cX5_checksum 16 = .ok (.aload_n 0, 1) := by decide +kernel
theorem dX5_checksum_17 : decode cX5_checksum 17 = .ok (.iload_n 3, 1) := by decide +kernel
theorem dX5_checksum_18 : decode cX5_checksum 18 = .ok (.invokevirtual 244, 3) := by decide +kernel
theorem dX5_checksum_21 : decode cX5_checksum 21 = .ok (.i2l, 1) := by decide +kernel
theorem dX5_checksum_22 : decode cX5_checksum 22 = .ok (.invokestatic 282, 3) := by decide +kernel
theorem dX5_checksum_25 : decode cX5_checksum 25 = .ok (.lstore_n 1, 1) := by decide +kernel
theorem dX5_checksum_26 : decode cX5_checksum 26 = .ok (.iinc 3 1, 3) := by decide +kernel
theorem dX5_checksum_29 : decode cX5_checksum 29 = .ok (.goto (-20), 3) := by decide +kernel
theorem dX5_checksum_32 : decode cX5_checksum 32 = .ok (.iconst 0, 1) := by decide +kernel
theorem dX5_checksum_33 : decode cX5_checksum 33 = .ok (.istore_n 3, 1) := by decide +kernel
theorem dX5_checksum_34 : decode cX5_checksum 34 = .ok (.iload_n 3, 1) := by decide +kernel
theorem dX5_checksum_35 : decode cX5_checksum 35 = .ok (.aload_n 0, 1) := by decide +kernel
theorem dX5_checksum_36 : decode cX5_checksum 36 = .ok (.invokevirtual 50, 3) := by decide +kernel
theorem dX5_checksum_39 : decode cX5_checksum 39 = .ok (.if_icmp .ge 34, 3) := by decide +kernel
theorem dX5_checksum_42 : decode cX5_checksum 42 = .ok (.lload_n 1, 1) := by decide +kernel
theorem dX5_checksum_43 : decode cX5_checksum 43 = .ok (.aload_n 0, 1) := by decide +kernel
theorem dX5_checksum_44 : decode cX5_checksum 44 = .ok (.iload_n 3, 1) := by decide +kernel
theorem dX5_checksum_45 : decode cX5_checksum 45 = .ok (.invokevirtual 54, 3) := by decide +kernel
theorem dX5_checksum_48 : decode cX5_checksum 48 = .ok (.i2l, 1) := by decide +kernel
theorem dX5_checksum_49 : decode cX5_checksum 49 = .ok (.invokestatic 282, 3) := by decide +kernel
theorem dX5_checksum_52 : decode cX5_checksum 52 = .ok (.lstore_n 1, 1) := by decide +kernel
theorem dX5_checksum_53 : decode cX5_checksum 53 = .ok (.lload_n 1, 1) := by decide +kernel
theorem dX5_checksum_54 : decode cX5_checksum 54 = .ok (.aload_n 0, 1) := by decide +kernel
theorem dX5_checksum_55 : decode cX5_checksum 55 = .ok (.bipush 52, 2) := by decide +kernel
theorem dX5_checksum_57 : decode cX5_checksum 57 = .ok (.iload_n 3, 1) := by decide +kernel
theorem dX5_checksum_58 : decode cX5_checksum 58 = .ok (.iadd, 1) := by decide +kernel
theorem dX5_checksum_59 : decode cX5_checksum 59 = .ok (.invokevirtual 43, 3) := by decide +kernel
theorem dX5_checksum_62 : decode cX5_checksum 62 = .ok (.i2l, 1) := by decide +kernel
theorem dX5_checksum_63 : decode cX5_checksum 63 = .ok (.invokestatic 282, 3) := by decide +kernel
theorem dX5_checksum_66 : decode cX5_checksum 66 = .ok (.lstore_n 1, 1) := by decide +kernel
theorem dX5_checksum_67 : decode cX5_checksum 67 = .ok (.iinc 3 1, 3) := by decide +kernel
theorem dX5_checksum_70 : decode cX5_checksum 70 = .ok (.goto (-36), 3) := by decide +kernel
theorem dX5_checksum_73 : decode cX5_checksum 73 = .ok (.iconst 1, 1) := by decide +kernel
theorem dX5_checksum_74 : decode cX5_checksum 74 = .ok (.istore_n 3, 1) := by decide +kernel
theorem dX5_checksum_75 : decode cX5_checksum 75 = .ok (.iload_n 3, 1) := by decide +kernel
theorem dX5_checksum_76 : decode cX5_checksum 76 = .ok (.iconst 5, 1) := by decide +kernel
theorem dX5_checksum_77 : decode cX5_checksum 77 = .ok (.if_icmp .gt 44, 3) := by decide +kernel
theorem dX5_checksum_80 : decode cX5_checksum 80 = .ok (.iconst 0, 1) := by decide +kernel
theorem dX5_checksum_81 : decode cX5_checksum 81 = .ok (.istore 4, 2) := by decide +kernel
theorem dX5_checksum_83 : decode cX5_checksum 83 = .ok (.iload 4, 2) := by decide +kernel
theorem dX5_checksum_85 : decode cX5_checksum 85 = .ok (.aload_n 0, 1) := by decide +kernel
theorem dX5_checksum_86 : decode cX5_checksum 86 = .ok (.iload_n 3, 1) := by decide +kernel
theorem dX5_checksum_87 : decode cX5_checksum 87 = .ok (.invokevirtual 63, 3) := by decide +kernel
theorem dX5_checksum_90 : decode cX5_checksum 90 = .ok (.if_icmp .ge 25, 3) := by decide +kernel
theorem dX5_checksum_93 : decode cX5_checksum 93 = .ok (.lload_n 1, 1) := by decide +kernel
theorem dX5_checksum_94 : decode cX5_checksum 94 = .ok (.aload_n 0, 1) := by decide +kernel
theorem dX5_checksum_95 : decode cX5_checksum 95 = .ok (.iload_n 3, 1) := by decide +kernel
theorem dX5_checksum_96 : decode cX5_checksum 96 = .ok (.iload 4, 2) := by decide +kernel
theorem dX5_checksum_98 : decode cX5_checksum 98 = .ok (.invokestatic 66, 3) := by decide +kernel
theorem dX5_checksum_101 : decode cX5_checksum 101 = .ok (.invokevirtual 43, 3) := by decide +kernel
theorem dX5_checksum_104 : decode cX5_checksum 104 = .ok (.i2l, 1) := by decide +kernel
theorem dX5_checksum_105 : decode cX5_checksum 105 = .ok (.invokestatic 282, 3) := by decide +kernel
theorem dX5_checksum_108 : decode cX5_checksum 108 = .ok (.lstore_n 1, 1) := by decide +kernel
theorem dX5_checksum_109 : decode cX5_checksum 109 = .ok (.iinc 4 1, 3) := by decide +kernel
theorem dX5_checksum_112 : decode cX5_checksum 112 = .ok (.goto (-29), 3) := by decide +kernel
theorem dX5_checksum_115 : decode cX5_checksum 115 = .ok (.iinc 3 1, 3) := by decide +kernel
theorem dX5_checksum_118 : decode cX5_checksum 118 = .ok (.goto (-43), 3) := by decide +kernel
theorem dX5_checksum_121 : decode cX5_checksum 121 = .ok (.iconst 0, 1) := by decide +kernel
theorem dX5_checksum_122 : decode cX5_checksum 122 = .ok (.istore_n 3, 1) := by decide +kernel
theorem dX5_checksum_123 : decode cX5_checksum 123 = .ok (.iload_n 3, 1) := by decide +kernel
theorem dX5_checksum_124 : decode cX5_checksum 124 = .ok (.aload_n 0, 1) := by decide +kernel
theorem dX5_checksum_125 : decode cX5_checksum 125 = .ok (.bipush 6, 2) := by decide +kernel
theorem dX5_checksum_127 : decode cX5_checksum 127 = .ok (.invokevirtual 43, 3) := by decide +kernel
theorem dX5_checksum_130 : decode cX5_checksum 130 = .ok (.if_icmp .ge 29, 3) := by decide +kernel
theorem dX5_checksum_133 : decode cX5_checksum 133 = .ok (.lload_n 1, 1) := by decide +kernel
theorem dX5_checksum_134 : decode cX5_checksum 134 = .ok (.bipush 100, 2) := by decide +kernel
theorem dX5_checksum_136 : decode cX5_checksum 136 = .ok (.aload_n 0, 1) := by decide +kernel
theorem dX5_checksum_137 : decode cX5_checksum 137 = .ok (.iload_n 3, 1) := by decide +kernel
theorem dX5_checksum_138 : decode cX5_checksum 138 = .ok (.invokevirtual 107, 3) := by decide +kernel
theorem dX5_checksum_141 : decode cX5_checksum 141 = .ok (.imul, 1) := by decide +kernel
theorem dX5_checksum_142 : decode cX5_checksum 142 = .ok (.aload_n 0, 1) := by decide +kernel
theorem dX5_checksum_143 : decode cX5_checksum 143 = .ok (.iload_n 3, 1) := by decide +kernel
theorem dX5_checksum_144 : decode cX5_checksum 144 = .ok (.invokevirtual 104, 3) := by decide +kernel
theorem dX5_checksum_147 : decode cX5_checksum 147 = .ok (.iadd, 1) := by decide +kernel
theorem dX5_checksum_148 : decode cX5_checksum 148 = .ok (.i2l, 1) := by decide +kernel
theorem dX5_checksum_149 : decode cX5_checksum 149 = .ok (.invokestatic 282, 3) := by decide +kernel
theorem dX5_checksum_152 : decode cX5_checksum 152 = .ok (.lstore_n 1, 1) := by decide +kernel
theorem dX5_checksum_153 : decode cX5_checksum 153 = .ok (.iinc 3 1, 3) := by decide +kernel
theorem dX5_checksum_156 : decode cX5_checksum 156 = .ok (.goto (-33), 3) := by decide +kernel
theorem dX5_checksum_159 : decode cX5_checksum 159 = .ok (.lload_n 1, 1) := by decide +kernel
theorem dX5_checksum_160 : decode cX5_checksum 160 = .ok (.lreturn, 1) := by decide +kernel
